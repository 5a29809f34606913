theorem dX9_takesWay_65 : decode cX9_takesWay 65 = .ok (.if_icmp .ne 13, 3) := by decide +kernel
theorem dX9_takesWay_68 : decode cX9_takesWay 68 = .ok (.aload_n 0, 1) := by decide +kernel
theorem dX9_takesWay_69 : decode cX9_takesWay 69 = .ok (.aload_n 0, 1) := by decide +kernel
theorem dX9_takesWay_70 : decode cX9_takesWay 70 = .ok (.getfield 227, 3) := by decide +kernel
theorem dX9_takesWay_73 : decode cX9_takesWay 73 = .ok (.putfield 214, 3) := by decide +kernel
theorem dX9_takesWay_76 : decode cX9_takesWay 76 = .ok (.iconst 0, 1) := by decide +kernel
theorem dX9_takesWay_77 : decode cX9_takesWay 77 = .ok (.ireturn, 1) := by decide +kernel
theorem dX9_takesWay_78 : decode cX9_takesWay 78 = .ok (.aload_n 0, 1) := by decide +kernel
theorem dX9_takesWay_79 : decode cX9_takesWay 79 = .ok (.iconst 1, 1) := by decide +kernel
theorem dX9_takesWay_80 : decode cX9_takesWay 80 = .ok (.bipush 60, 2) := by decide +kernel
theorem dX9_takesWay_82 : decode cX9_takesWay 82 = .ok (.invokevirtual 240, 3) := by decide +kernel
theorem dX9_takesWay_85 : decode cX9_takesWay 85 = .ok (.ifCond .ne 5, 3) := by decide +kernel
theorem dX9_takesWay_88 : decode cX9_takesWay 88 = .ok (.iconst 0, 1) := by decide +kernel
theorem dX9_takesWay_89 : decode cX9_takesWay 89 = .ok (.ireturn, 1) := by decide +kernel
theorem dX9_takesWay_90 : decode cX9_takesWay 90 = .ok (.aload_n 0, 1) := by decide +kernel
theorem dX9_takesWay_91 : decode cX9_takesWay 91 = .ok (.iload_n 1, 1) := by decide +kernel
theorem dX9_takesWay_92 : decode cX9_takesWay 92 = .ok (.iload_n 2, 1) := by decide +kernel
theorem dX9_takesWay_93 : decode cX9_takesWay 93 = .ok (.aload_n 0, 1) := by decide +kernel
theorem dX9_takesWay_94 : decode cX9_takesWay 94 = .ok (.getfield 230, 3) := by decide +kernel
theorem dX9_takesWay_97 : decode cX9_takesWay 97 = .ok (.invokevirtual 205, 3) := by decide +kernel
theorem dX9_takesWay_100 : decode cX9_takesWay 100 = .ok (.iconst 1, 1) := by decide +kernel
theorem dX9_takesWay_101 : decode cX9_takesWay 101 = .ok (.ireturn, 1) := by decide +kernel
theorem dX9_takesItem_0 : decode cX9_takesItem 0 = .ok (.aload_n 0, 1) := by decide +kernel
theorem dX9_takesItem_1 : decode cX9_takesItem 1 = .ok (.invokevirtual 220, 3) := by decide +kernel
theorem dX9_takesItem_4 : decode cX9_takesItem 4 = .ok (.lookupswitch 191 #[(98, 146), (104, 52), (108, 100), (115, 62), (119, 57)], 52) := by decide +kernel
theorem dX9_takesItem_56 : decode cX9_takesItem 56 = .ok (.aload_n 0, 1) := by decide +kernel
theorem dX9_takesItem_57 : decode cX9_takesItem 57 = .ok (.invokevirtual 246, 3) := by decide +kernel
theorem dX9_takesItem_60 : decode cX9_takesItem 60 = .ok (.ireturn, 1) := by decide +kernel
theorem dX9_takesItem_61 : decode cX9_takesItem 61 = .ok (.aload_n 0, 1) := by decide +kernel
theorem dX9_takesItem_62 : decode cX9_takesItem 62 = .ok (.invokevirtual 250, 3) := by decide +kernel
theorem dX9_takesItem_65 : decode cX9_takesItem 65 = .ok (.ireturn, 1) := by decide +kernel
theorem dX9_takesItem_66 : decode cX9_takesItem 66 = .ok (.aload_n 0, 1) := by decide +kernel
theorem dX9_takesItem_67 : decode cX9_takesItem 67 = .ok (.getstatic 253, 3) := by decide +kernel
theorem dX9_takesItem_70 : decode cX9_takesItem 70 = .ok (.invokevirtual 236, 3) := by decide +kernel
theorem dX9_takesItem_73 : decode cX9_takesItem 73 = .ok (.ifCond .eq 17, 3) := by decide +kernel
theorem dX9_takesItem_76 : decode cX9_takesItem 76 = .ok (.aload_n 0, 1) := by decide +kernel
theorem dX9_takesItem_77 : decode cX9_takesItem 77 = .ok (.iconst 0, 1) := by decide +kernel
theorem dX9_takesItem_78 : decode cX9_takesItem 78 = .ok (.aload_n 0, 1) := by decide +kernel
theorem dX9_takesItem_79 : decode cX9_takesItem 79 = .ok (.getfield 105, 3) := by decide +kernel
theorem dX9_takesItem_82 : decode cX9_takesItem 82 = .ok (.iconst 1, 1) := by decide +kernel
theorem dX9_takesItem_83 : decode cX9_takesItem 83 = .ok (.isub, 1) := by decide +kernel
theorem dX9_takesItem_84 : decode cX9_takesItem 84 = .ok (.invokevirtual 240, 3) := by decide +kernel
theorem dX9_takesItem_87 : decode cX9_takesItem 87 = .ok (.ifCond .ne 5, 3) := by decide +kernel
theorem dX9_takesItem_90 : decode cX9_takesItem 90 = .ok (.iconst 0, 1) := by decide +kernel
theorem dX9_takesItem_91 : decode cX9_takesItem 91 = .ok (.ireturn, 1) := by decide +kernel
theorem dX9_takesItem_92 : decode cX9_takesItem 92 = .ok (.aload_n 0, 1) := by decide +kernel
theorem dX9_takesItem_93 : decode cX9_takesItem 93 = .ok (.getfield 31, 3) := by decide +kernel
theorem dX9_takesItem_96 : decode cX9_takesItem 96 = .ok (.aload_n 0, 1) := by decide +kernel
theorem dX9_takesItem_97 : decode cX9_takesItem 97 = .ok (.getfield 230, 3) := by decide +kernel
theorem dX9_takesItem_100 : decode cX9_takesItem 100 = .ok (.iconst 1, 1) := by decide +kernel
theorem dX9_takesItem_101 : decode cX9_takesItem 101 = .ok (.iastore, 1) := by decide +kernel
theorem dX9_takesItem_102 : decode cX9_takesItem 102 = .ok (.iconst 1, 1) := by decide +kernel
theorem dX9_takesItem_103 : decode cX9_takesItem 103 = .ok (.ireturn, 1) := by decide +kernel
theorem dX9_takesItem_104 : decode cX9_takesItem 104 = .ok (.aload_n 0, 1) := by decide +kernel
theorem dX9_takesItem_105 : decode cX9_takesItem 105 = .ok (.getstatic 256, 3) := by decide +kernel
theorem dX9_takesItem_108 : decode cX9_takesItem 108 = .ok (.invokevirtual 236, 3) := by decide +kernel
theorem dX9_takesItem_111 : decode cX9_takesItem 111 = .ok (.ifCond .eq 12, 3) := by decide +kernel
theorem dX9_takesItem_114 : decode cX9_takesItem 114 = .ok (.aload_n 0, 1) := by decide +kernel
theorem dX9_takesItem_115 : decode cX9_takesItem 115 = .ok (.iconst 1, 1) := by decide +kernel
theorem dX9_takesItem_116 : decode cX9_takesItem 116 = .ok (.iconst 3, 1) := by decide +kernel
theorem dX9_takesItem_117 : decode cX9_takesItem 117 = .ok (.invokevirtual 240, 3) := by decide +kernel
theorem dX9_takesItem_120 : decode cX9_takesItem 120 = .ok (.ifCond .ne 5, 3) := by decide +kernel
theorem dX9_takesItem_123 : decode cX9_takesItem 123 = .ok (.iconst 0, 1) := by decide +kernel
theorem dX9_takesItem_124 : decode cX9_takesItem 124 = .ok (.ireturn, 1) := by decide +kernel
theorem dX9_takesItem_125 : decode cX9_takesItem 125 = .ok (.aload_n 0, 1) := by decide +kernel
theorem dX9_takesItem_126 : decode cX9_takesItem 126 = .ok (.aload_n 0, 1) := by decide +kernel
theorem dX9_takesItem_127 : decode cX9_takesItem 127 = .ok (.getfield 230, 3) := by decide +kernel
theorem dX9_takesItem_130 : decode cX9_takesItem 130 = .ok (.putfield 34, 3) := by decide +kernel
theorem dX9_takesItem_133 : decode cX9_takesItem 133 = .ok (.aload_n 0, 1) := by decide +kernel
theorem dX9_takesItem_134 : decode cX9_takesItem 134 = .ok (.aload_n 0, 1) := by decide +kernel
theorem dX9_takesItem_135 : decode cX9_takesItem 135 = .ok (.getfield 230, 3) := by decide +kernel
theorem dX9_takesItem_138 : decode cX9_takesItem 138 = .ok (.putfield 69, 3) := by decide +kernel
theorem dX9_takesItem_141 : decode cX9_takesItem 141 = .ok (.aload_n 0, 1) := by decide +kernel
theorem dX9_takesItem_142 : decode cX9_takesItem 142 = .ok (.getfield 56, 3) := by decide +kernel
theorem dX9_takesItem_145 : decode cX9_takesItem 145 = .ok (.iconst 0, 1) := by decide +kernel
theorem dX9_takesItem_146 : decode cX9_takesItem 146 = .ok (.iconst 0, 1) := by decide +kernel
theorem dX9_takesItem_147 : decode cX9_takesItem 147 = .ok (.iastore, 1) := by decide +kernel
theorem dX9_takesItem_148 : decode cX9_takesItem 148 = .ok (.iconst 1, 1) := by decide +kernel
theorem dX9_takesItem_149 : decode cX9_takesItem 149 = .ok (.ireturn, 1) := by decide +kernel
theorem dX9_takesItem_150 : decode cX9_takesItem 150 = .ok (.aload_n 0, 1) := by decide +kernel
theorem dX9_takesItem_151 : decode cX9_takesItem 151 = .ok (.getstatic 259, 3) := by decide +kernel
theorem dX9_takesItem_154 : decode cX9_takesItem 154 = .ok (.invokevirtual 236, 3) := by decide +kernel
theorem dX9_takesItem_157 : decode cX9_takesItem 157 = .ok (.ifCond .eq 17, 3) := by decide +kernel
theorem dX9_takesItem_160 : decode cX9_takesItem 160 = .ok (.aload_n 0, 1) := by decide +kernel
theorem dX9_takesItem_161 : decode cX9_takesItem 161 = .ok (.iconst 0, 1) := by decide +kernel
theorem dX9_takesItem_162 : decode cX9_takesItem 162 = .ok (.aload_n 0, 1) := by decide +kernel
theorem dX9_takesItem_163 : decode cX9_takesItem 163 = .ok (.getfield 102, 3) := by decide +kernel
theorem dX9_takesItem_166 : decode cX9_takesItem 166 = .ok (.iconst 1, 1) := by decide +kernel
theorem dX9_takesItem_167 : decode cX9_takesItem 167 = .ok (.isub, 1) := by decide +kernel
theorem dX9_takesItem_168 : decode cX9_takesItem 168 = .ok (.invokevirtual 240, 3) := by decide +kernel
theorem dX9_takesItem_171 : decode cX9_takesItem 171 = .ok (.ifCond .ne 5, 3) := by decide +kernel
theorem dX9_takesItem_174 : decode cX9_takesItem 174 = .ok (.iconst 0, 1) := by decide +kernel
theorem dX9_takesItem_175 : decode cX9_takesItem 175 = .ok (.ireturn, 1) := by decide +kernel
theorem dX9_takesItem_176 : decode cX9_takesItem 176 = .ok (.aload_n 0, 1) := by decide +kernel
theorem dX9_takesItem_177 : decode cX9_takesItem 177 = .ok (.getfield 41, 3) := by decide +kernel
theorem dX9_takesItem_180 : decode cX9_takesItem 180 = .ok (.iconst 0, 1) := by decide +kernel
theorem dX9_takesItem_181 : decode cX9_takesItem 181 = .ok (.aload_n 0, 1) := by decide +kernel
theorem dX9_takesItem_182 : decode cX9_takesItem 182 = .ok (.getfield 230, 3) := by decide +kernel
theorem dX9_takesItem_185 : decode cX9_takesItem 185 = .ok (.iastore, 1) := by decide +kernel
theorem dX9_takesItem_186 : decode cX9_takesItem 186 = .ok (.aload_n 0, 1) := by decide +kernel
theorem dX9_takesItem_187 : decode cX9_takesItem 187 = .ok (.getfield 56, 3) := by decide +kernel
theorem dX9_takesItem_190 : decode cX9_takesItem 190 = .ok (.iconst 0, 1) := by decide +kernel
theorem dX9_takesItem_191 : decode cX9_takesItem 191 = .ok (.iconst 0, 1) := by decide +kernel
theorem dX9_takesItem_192 : decode cX9_takesItem 192 = .ok (.iastore, 1) := by decide +kernel
theorem dX9_takesItem_193 : decode cX9_takesItem 193 = .ok (.iconst 1, 1) := by decide +kernel
theorem dX9_takesItem_194 : decode cX9_takesItem 194 = .ok (.ireturn, 1) := by decide +kernel
theorem dX9_takesItem_195 : decode cX9_takesItem 195 = .ok (.iconst 0, 1) := by decide +kernel
theorem dX9_takesItem_196 : decode cX9_takesItem 196 = .ok (.ireturn, 1) := by decide +kernel
theorem dX9_street_0 : decode cX9_street 0 = .ok (.aload_n 0, 1) := by decide +kernel
theorem dX9_street_1 : decode cX9_street 1 = .ok (.iload_n 1, 1) := by decide +kernel
theorem dX9_street_2 : decode cX9_street 2 = .ok (.invokevirtual 174, 3) := by decide +kernel
theorem dX9_street_5 : decode cX9_street 5 = .ok (.istore_n 2, 1) := by decide +kernel
theorem dX9_street_6 : decode cX9_street 6 = .ok (.iload_n 2, 1) := by decide +kernel
theorem dX9_street_7 : decode cX9_street 7 = .ok (.ifCond .eq 9, 3) := by decide +kernel
theorem dX9_street_10 : decode cX9_street 10 = .ok (.aload_n 0, 1) := by decide +kernel
theorem dX9_street_11 : decode cX9_street 11 = .ok (.iload_n 2, 1) := by decide +kernel
theorem dX9_street_12 : decode cX9_street 12 = .ok (.invokevirtual 171, 3) := by decide +kernel
theorem dX9_street_15 : decode cX9_street 15 = .ok (.ireturn, 1) := by decide +kernel
theorem dX9_street_16 : decode cX9_street 16 = .ok (.aload_n 0, 1) := by decide +kernel
theorem dX9_street_17 : decode cX9_street 17 = .ok (.iload_n 1, 1) := by decide +kernel
theorem dX9_street_18 : decode cX9_street 18 = .ok (.putfield 217, 3) := by decide +kernel
theorem dX9_street_21 : decode cX9_street 21 = .ok (.aload_n 0, 1) := by decide +kernel
theorem dX9_street_22 : decode cX9_street 22 = .ok (.iconst 0, 1) := by decide +kernel
theorem dX9_street_23 : decode cX9_street 23 = .ok (.putfield 214, 3) := by decide +kernel
theorem dX9_street_26 : decode cX9_street 26 = .ok (.aload_n 0, 1) := by decide +kernel
theorem dX9_street_27 : decode cX9_street 27 = .ok (.iconst 1, 1) := by decide +kernel
theorem dX9_street_28 : decode cX9_street 28 = .ok (.iconst 1, 1) := by decide +kernel
theorem dX9_street_29 : decode cX9_street 29 = .ok (.invokevirtual 262, 3) := by decide +kernel
theorem dX9_street_32 : decode cX9_street 32 = .ok (.iconst 0, 1) := by decide +kernel
theorem dX9_street_33 : decode cX9_street 33 = .ok (.istore_n 3, 1) := by decide +kernel
theorem dX9_street_34 : decode cX9_street 34 = .ok (.aload_n 0, 1) := by decide +kernel
theorem dX9_street_35 : decode cX9_street 35 = .ok (.invokevirtual 266, 3) := by decide +kernel
theorem dX9_street_38 : decode cX9_street 38 = .ok (.istore 4, 2) := by decide +kernel
theorem dX9_street_40 : decode cX9_street 40 = .ok (.iload_n 3, 1) := by decide +kernel
theorem dX9_street_41 : decode cX9_street 41 = .ok (.iload 4, 2) := by decide +kernel
theorem dX9_street_43 : decode cX9_street 43 = .ok (.ifCond .eq 7, 3) := by decide +kernel
theorem dX9_street_46 : decode cX9_street 46 = .ok (.iconst 1, 1) := by decide +kernel
theorem dX9_street_47 : decode cX9_street 47 = .ok (.goto 4, 3) := by decide +kernel
theorem dX9_street_50 : decode cX9_street 50 = .ok (.iconst 0, 1) := by decide +kernel
theorem dX9_street_51 : decode cX9_street 51 = .ok (.iadd, 1) := by decide +kernel
theorem dX9_street_52 : decode cX9_street 52 = .ok (.istore_n 3, 1) := by decide +kernel
theorem dX9_street_53 : decode cX9_street 53 = .ok (.iload 4, 2) := by decide +kernel
theorem dX9_street_55 : decode cX9_street 55 = .ok (.ifCond .eq 55, 3) := by decide +kernel
theorem dX9_street_58 : decode cX9_street 58 = .ok (.aload_n 0, 1) := by decide +kernel
theorem dX9_street_59 : decode cX9_street 59 = .ok (.getfield 214, 3) := by decide +kernel
theorem dX9_street_62 : decode cX9_street 62 = .ok (.aload_n 0, 1) := by decide +kernel
theorem dX9_street_63 : decode cX9_street 63 = .ok (.getfield 78, 3) := by decide +kernel
theorem dX9_street_66 : decode cX9_street 66 = .ok (.iload_n 1, 1) := by decide +kernel
theorem dX9_street_67 : decode cX9_street 67 = .ok (.iaload, 1) := by decide +kernel
theorem dX9_street_68 : decode cX9_street 68 = .ok (.if_icmp .ge 42, 3) := by decide +kernel
theorem dX9_street_71 : decode cX9_street 71 = .ok (.aload_n 0, 1) := by decide +kernel
theorem dX9_street_72 : decode cX9_street 72 = .ok (.bipush 59, 2) := by decide +kernel
theorem dX9_street_74 : decode cX9_street 74 = .ok (.invokevirtual 224, 3) := by decide +kernel
theorem dX9_street_77 : decode cX9_street 77 = .ok (.ifCond .eq 14, 3) := by decide +kernel
theorem dX9_street_80 : decode cX9_street 80 = .ok (.aload_n 0, 1) := by decide +kernel
theorem dX9_street_81 : decode cX9_street 81 = .ok (.invokevirtual 266, 3) := by decide +kernel
theorem dX9_street_84 : decode cX9_street 84 = .ok (.ifCond .eq 7, 3) := by decide +kernel
theorem dX9_street_87 : decode cX9_street 87 = .ok (.iconst 1, 1) := by decide +kernel
theorem dX9_street_88 : decode cX9_street 88 = .ok (.goto 4, 3) := by decide +kernel
theorem dX9_street_91 : decode cX9_street 91 = .ok (.iconst 0, 1) := by decide +kernel
theorem dX9_street_92 : decode cX9_street 92 = .ok (.istore 4, 2) := by decide +kernel
theorem dX9_street_94 : decode cX9_street 94 = .ok (.iload_n 3, 1) := by decide +kernel
theorem dX9_street_95 : decode cX9_street 95 = .ok (.iload 4, 2) := by decide +kernel
theorem dX9_street_97 : decode cX9_street 97 = .ok (.ifCond .eq 7, 3) := by decide +kernel
theorem dX9_street_100 : decode cX9_street 100 = .ok (.iconst 1, 1) := by decide +kernel
theorem dX9_street_101 : decode cX9_street 101 = .ok (.goto 4, 3) := by decide +kernel
theorem dX9_street_104 : decode cX9_street 104 = .ok (.iconst 0, 1) := by decide +kernel
theorem dX9_street_105 : decode cX9_street 105 = .ok (.iadd, 1) := by decide +kernel
theorem dX9_street_106 : decode cX9_street 106 = .ok (.istore_n 3, 1) := by decide +kernel
theorem dX9_street_107 : decode cX9_street 107 = .ok (.goto (-54), 3) := by decide +kernel
theorem dX9_street_110 : decode cX9_street 110 = .ok (.aload_n 0, 1) := by decide +kernel
theorem dX9_street_111 : decode cX9_street 111 = .ok (.iload 4, 2) := by decide +kernel
theorem dX9_street_113 : decode cX9_street 113 = .ok (.ifCond .eq 7, 3) := by decide +kernel
theorem dX9_street_116 : decode cX9_street 116 = .ok (.iconst (-1), 1) := by decide +kernel
theorem dX9_street_117 : decode cX9_street 117 = .ok (.goto 7, 3) := by decide +kernel
theorem dX9_street_120 : decode cX9_street 120 = .ok (.aload_n 0, 1) := by decide +kernel
theorem dX9_street_121 : decode cX9_street 121 = .ok (.getfield 214, 3) := by decide +kernel
theorem dX9_street_124 : decode cX9_street 124 = .ok (.putfield 90, 3) := by decide +kernel
theorem dX9_street_127 : decode cX9_street 127 = .ok (.iload 4, 2) := by decide +kernel
theorem dX9_street_129 : decode cX9_street 129 = .ok (.ifCond .eq 5, 3) := by decide +kernel
theorem dX9_street_132 : decode cX9_street 132 = .ok (.iload_n 3, 1) := by decide +kernel
theorem dX9_street_133 : decode cX9_street 133 = .ok (.ireturn, 1) := by decide +kernel
theorem dX9_street_134 : decode cX9_street 134 = .ok (.aload_n 0, 1) := by decide +kernel
theorem dX9_street_135 : decode cX9_street 135 = .ok (.iconst 1, 1) := by decide +kernel
theorem dX9_street_136 : decode cX9_street 136 = .ok (.iconst 0, 1) := by decide +kernel
theorem dX9_street_137 : decode cX9_street 137 = .ok (.invokevirtual 262, 3) := by decide +kernel
theorem dX9_street_140 : decode cX9_street 140 = .ok (.aload_n 0, 1) := by decide +kernel
theorem dX9_street_141 : decode cX9_street 141 = .ok (.bipush (-6), 2) := by decide +kernel
theorem dX9_street_143 : decode cX9_street 143 = .ok (.invokevirtual 171, 3) := by decide +kernel
theorem dX9_street_146 : decode cX9_street 146 = .ok (.ireturn, 1) := by decide +kernel
theorem dX9_fault_0 : decode cX9_fault 0 = .ok (.aload_n 0, 1) := by decide +kernel
theorem dX9_fault_1 : decode cX9_fault 1 = .ok (.getfield 90, 3) := by decide +kernel
theorem dX9_fault_4 : decode cX9_fault 4 = .ok (.ireturn, 1) := by decide +kernel
theorem dX9_passes_0 : decode cX9_passes 0 = .ok (.iconst 0, 1) := by decide +kernel
theorem dX9_passes_1 : decode cX9_passes 1 = .ok (.istore_n 3, 1) := by decide +kernel
theorem dX9_passes_2 : decode cX9_passes 2 = .ok (.iload_n 3, 1) := by decide +kernel
theorem dX9_passes_3 : decode cX9_passes 3 = .ok (.iload_n 2, 1) := by decide +kernel
theorem dX9_passes_4 : decode cX9_passes 4 = .ok (.if_icmp .ge 53, 3) := by decide +kernel
theorem dX9_passes_7 : decode cX9_passes 7 = .ok (.aload_n 0, 1) := by decide +kernel
theorem dX9_passes_8 : decode cX9_passes 8 = .ok (.getfield 269, 3) := by decide +kernel
theorem dX9_passes_11 : decode cX9_passes 11 = .ok (.ifCond .eq 18, 3) := by decide +kernel
theorem dX9_passes_14 : decode cX9_passes 14 = .ok (.aload_n 0, 1) := by decide +kernel
theorem dX9_passes_15 : decode cX9_passes 15 = .ok (.getfield 93, 3) := by decide +kernel
theorem dX9_passes_18 : decode cX9_passes 18 = .ok (.aload_n 0, 1) := by decide +kernel
theorem dX9_passes_19 : decode cX9_passes 19 = .ok (.getfield 272, 3) := by decide +kernel
theorem dX9_passes_22 : decode cX9_passes 22 = .ok (.aload_n 1, 1) := by decide +kernel
theorem dX9_passes_23 : decode cX9_passes 23 = .ok (.iload_n 3, 1) := by decide +kernel
theorem dX9_passes_24 : decode cX9_passes 24 = .ok (.iaload, 1) := by decide +kernel
theorem dX9_passes_25 : decode cX9_passes 25 = .ok (.iastore, 1) := by decide +kernel
theorem dX9_passes_26 : decode cX9_passes 26 = .ok (.goto 15, 3) := by decide +kernel
theorem dX9_passes_29 : decode cX9_passes 29 = .ok (.aload_n 1, 1) := by decide +kernel
theorem dX9_passes_30 : decode cX9_passes 30 = .ok (.iload_n 3, 1) := by decide +kernel
theorem dX9_passes_31 : decode cX9_passes 31 = .ok (.aload_n 0, 1) := by decide +kernel
theorem dX9_passes_32 : decode cX9_passes 32 = .ok (.getfield 93, 3) := by decide +kernel
theorem dX9_passes_35 : decode cX9_passes 35 = .ok (.aload_n 0, 1) := by decide +kernel
theorem dX9_passes_36 : decode cX9_passes 36 = .ok (.getfield 272, 3) := by decide +kernel
theorem dX9_passes_39 : decode cX9_passes 39 = .ok (.iaload, 1) := by decide +kernel
theorem dX9_passes_40 : decode cX9_passes 40 = .ok (.iastore, 1) := by decide +kernel
theorem dX9_passes_41 : decode cX9_passes 41 = .ok (.aload_n 0, 1) := by decide +kernel
theorem dX9_passes_42 : decode cX9_passes 42 = .ok (.dup, 1) := by decide +kernel
theorem dX9_passes_43 : decode cX9_passes 43 = .ok (.getfield 272, 3) := by decide +kernel
theorem dX9_passes_46 : decode cX9_passes 46 = .ok (.iconst 1, 1) := by decide +kernel
theorem dX9_passes_47 : decode cX9_passes 47 = .ok (.iadd, 1) := by decide +kernel
theorem dX9_passes_48 : decode cX9_passes 48 = .ok (.putfield 272, 3) := by decide +kernel
theorem dX9_passes_51 : decode cX9_passes 51 = .ok (.iinc 3 1, 3) := by decide +kernel
theorem dX9_passes_54 : decode cX9_passes 54 = .ok (.goto (-52), 3) := by decide +kernel
theorem dX9_passes_57 : decode cX9_passes 57 = .ok (.return_, 1) := by decide +kernel
theorem dX9_passOne_0 : decode cX9_passOne 0 = .ok (.aload_n 0, 1) := by decide +kernel
theorem dX9_passOne_1 : decode cX9_passOne 1 = .ok (.getfield 269, 3) := by decide +kernel
theorem dX9_passOne_4 : decode cX9_passOne 4 = .ok (.ifCond .eq 7, 3) := by decide +kernel
theorem dX9_passOne_7 : decode cX9_passOne 7 = .ok (.iload_n 1, 1) := by decide +kernel
theorem dX9_passOne_8 : decode cX9_passOne 8 = .ok (.goto 12, 3) := by decide +kernel
theorem dX9_passOne_11 : decode cX9_passOne 11 = .ok (.aload_n 0, 1) := by decide +kernel
theorem dX9_passOne_12 : decode cX9_passOne 12 = .ok (.getfield 93, 3) := by decide +kernel
theorem dX9_passOne_15 : decode cX9_passOne 15 = .ok (.aload_n 0, 1) := by decide +kernel
theorem dX9_passOne_16 : decode cX9_passOne 16 = .ok (.getfield 272, 3) := by decide +kernel
theorem dX9_passOne_19 : decode cX9_passOne 19 = .ok (.iaload, 1) := by decide +kernel
theorem dX9_passOne_20 : decode cX9_passOne 20 = .ok (.istore_n 2, 1) := by decide +kernel
theorem dX9_passOne_21 : decode cX9_passOne 21 = .ok (.aload_n 0, 1) := by decide +kernel
theorem dX9_passOne_22 : decode cX9_passOne 22 = .ok (.getfield 269, 3) := by decide +kernel
theorem dX9_passOne_25 : decode cX9_passOne 25 = .ok (.ifCond .eq 13, 3) := by decide +kernel
theorem dX9_passOne_28 : decode cX9_passOne 28 = .ok (.aload_n 0, 1) := by decide +kernel
theorem dX9_passOne_29 : decode cX9_passOne 29 = .ok (.getfield 93, 3) := by decide +kernel
theorem dX9_passOne_32 : decode cX9_passOne 32 = .ok (.aload_n 0, 1) := by decide +kernel
theorem dX9_passOne_33 : decode cX9_passOne 33 = .ok (.getfield 272, 3) := by decide +kernel
theorem dX9_passOne_36 : decode cX9_passOne 36 = .ok (.iload_n 1, 1) := by decide +kernel
theorem dX9_passOne_37 : decode cX9_passOne 37 = .ok (.iastore, 1) := by decide +kernel
theorem dX9_passOne_38 : decode cX9_passOne 38 = .ok (.aload_n 0, 1) := by decide +kernel
theorem dX9_passOne_39 : decode cX9_passOne 39 = .ok (.dup, 1) := by decide +kernel
theorem dX9_passOne_40 : decode cX9_passOne 40 = .ok (.getfield 272, 3) := by decide +kernel
theorem dX9_passOne_43 : decode cX9_passOne 43 = .ok (.iconst 1, 1) := by decide +kernel
theorem dX9_passOne_44 : decode cX9_passOne 44 = .ok (.iadd, 1) := by decide +kernel
theorem dX9_passOne_45 : decode cX9_passOne 45 = .ok (.putfield 272, 3) := by decide +kernel
theorem dX9_passOne_48 : decode cX9_passOne 48 = .ok (.iload_n 2, 1) := by decide +kernel
theorem dX9_passOne_49 : decode cX9_passOne 49 = .ok (.ireturn, 1) := by decide +kernel
theorem dX9_passesAll_0 : decode cX9_passesAll 0 = .ok (.aload_n 0, 1) := by decide +kernel
theorem dX9_passesAll_1 : decode cX9_passesAll 1 = .ok (.sipush 200, 3) := by decide +kernel
theorem dX9_passesAll_4 : decode cX9_passesAll 4 = .ok (.iload_n 1, 1) := by decide +kernel
theorem dX9_passesAll_5 : decode cX9_passesAll 5 = .ok (.imul, 1) := by decide +kernel
theorem dX9_passesAll_6 : decode cX9_passesAll 6 = .ok (.putfield 272, 3) := by decide +kernel
theorem dX9_passesAll_9 : decode cX9_passesAll 9 = .ok (.aload_n 0, 1) := by decide +kernel
theorem dX9_passesAll_10 : decode cX9_passesAll 10 = .ok (.iload_n 2, 1) := by decide +kernel
theorem dX9_passesAll_11 : decode cX9_passesAll 11 = .ok (.putfield 269, 3) := by decide +kernel
theorem dX9_passesAll_14 : decode cX9_passesAll 14 = .ok (.aload_n 0, 1) := by decide +kernel
theorem dX9_passesAll_15 : decode cX9_passesAll 15 = .ok (.aload_n 0, 1) := by decide +kernel
theorem dX9_passesAll_16 : decode cX9_passesAll 16 = .ok (.getfield 13, 3) := by decide +kernel
theorem dX9_passesAll_19 : decode cX9_passesAll 19 = .ok (.bipush 8, 2) := by decide +kernel
theorem dX9_passesAll_21 : decode cX9_passesAll 21 = .ok (.invokevirtual 275, 3) := by decide +kernel
theorem dX9_passesAll_24 : decode cX9_passesAll 24 = .ok (.aload_n 0, 1) := by decide +kernel
theorem dX9_passesAll_25 : decode cX9_passesAll 25 = .ok (.aload_n 0, 1) := by decide +kernel
theorem dX9_passesAll_26 : decode cX9_passesAll 26 = .ok (.getfield 16, 3) := by decide +kernel
theorem dX9_passesAll_29 : decode cX9_passesAll 29 = .ok (.bipush 8, 2) := by decide +kernel
theorem dX9_passesAll_31 : decode cX9_passesAll 31 = .ok (.invokevirtual 275, 3) := by decide +kernel
theorem dX9_passesAll_34 : decode cX9_passesAll 34 = .ok (.aload_n 0, 1) := by decide +kernel
theorem dX9_passesAll_35 : decode cX9_passesAll 35 = .ok (.aload_n 0, 1) := by decide +kernel
theorem dX9_passesAll_36 : decode cX9_passesAll 36 = .ok (.getfield 19, 3) := by decide +kernel
theorem dX9_passesAll_39 : decode cX9_passesAll 39 = .ok (.bipush 8, 2) := by decide +kernel
theorem dX9_passesAll_41 : decode cX9_passesAll 41 = .ok (.invokevirtual 275, 3) := by decide +kernel
theorem dX9_passesAll_44 : decode cX9_passesAll 44 = .ok (.aload_n 0, 1) := by decide +kernel
theorem dX9_passesAll_45 : decode cX9_passesAll 45 = .ok (.aload_n 0, 1) := by decide +kernel
theorem dX9_passesAll_46 : decode cX9_passesAll 46 = .ok (.getfield 22, 3) := by decide +kernel
theorem dX9_passesAll_49 : decode cX9_passesAll 49 = .ok (.bipush 12, 2) := by decide +kernel
theorem dX9_passesAll_51 : decode cX9_passesAll 51 = .ok (.invokevirtual 275, 3) := by decide +kernel
theorem dX9_passesAll_54 : decode cX9_passesAll 54 = .ok (.aload_n 0, 1) := by decide +kernel
theorem dX9_passesAll_55 : decode cX9_passesAll 55 = .ok (.aload_n 0, 1) := by decide +kernel
theorem dX9_passesAll_56 : decode cX9_passesAll 56 = .ok (.getfield 25, 3) := by decide +kernel
theorem dX9_passesAll_59 : decode cX9_passesAll 59 = .ok (.bipush 12, 2) := by decide +kernel
theorem dX9_passesAll_61 : decode cX9_passesAll 61 = .ok (.invokevirtual 275, 3) := by decide +kernel
theorem dX9_passesAll_64 : decode cX9_passesAll 64 = .ok (.aload_n 0, 1) := by decide +kernel
theorem dX9_passesAll_65 : decode cX9_passesAll 65 = .ok (.aload_n 0, 1) := by decide +kernel
theorem dX9_passesAll_66 : decode cX9_passesAll 66 = .ok (.getfield 28, 3) := by decide +kernel
theorem dX9_passesAll_69 : decode cX9_passesAll 69 = .ok (.bipush 12, 2) := by decide +kernel
theorem dX9_passesAll_71 : decode cX9_passesAll 71 = .ok (.invokevirtual 275, 3) := by decide +kernel
theorem dX9_passesAll_74 : decode cX9_passesAll 74 = .ok (.aload_n 0, 1) := by decide +kernel
theorem dX9_passesAll_75 : decode cX9_passesAll 75 = .ok (.aload_n 0, 1) := by decide +kernel
theorem dX9_passesAll_76 : decode cX9_passesAll 76 = .ok (.getfield 31, 3) := by decide +kernel
theorem dX9_passesAll_79 : decode cX9_passesAll 79 = .ok (.bipush 12, 2) := by decide +kernel
theorem dX9_passesAll_81 : decode cX9_passesAll 81 = .ok (.invokevirtual 275, 3) := by decide +kernel
theorem dX9_passesAll_84 : decode cX9_passesAll 84 = .ok (.aload_n 0, 1) := by decide +kernel
theorem dX9_passesAll_85 : decode cX9_passesAll 85 = .ok (.aload_n 0, 1) := by decide +kernel
theorem dX9_passesAll_86 : decode cX9_passesAll 86 = .ok (.getfield 41, 3) := by decide +kernel
theorem dX9_passesAll_89 : decode cX9_passesAll 89 = .ok (.iconst 1, 1) := by decide +kernel
theorem dX9_passesAll_90 : decode cX9_passesAll 90 = .ok (.invokevirtual 275, 3) := by decide +kernel
theorem dX9_passesAll_93 : decode cX9_passesAll 93 = .ok (.aload_n 0, 1) := by decide +kernel
theorem dX9_passesAll_94 : decode cX9_passesAll 94 = .ok (.aload_n 0, 1) := by decide +kernel
theorem dX9_passesAll_95 : decode cX9_passesAll 95 = .ok (.getfield 44, 3) := by decide +kernel
theorem dX9_passesAll_98 : decode cX9_passesAll 98 = .ok (.bipush 8, 2) := by decide +kernel
theorem dX9_passesAll_100 : decode cX9_passesAll 100 = .ok (.invokevirtual 275, 3) := by decide +kernel
theorem dX9_passesAll_103 : decode cX9_passesAll 103 = .ok (.aload_n 0, 1) := by decide +kernel
theorem dX9_passesAll_104 : decode cX9_passesAll 104 = .ok (.aload_n 0, 1) := by decide +kernel
theorem dX9_passesAll_105 : decode cX9_passesAll 105 = .ok (.getfield 47, 3) := by decide +kernel
theorem dX9_passesAll_108 : decode cX9_passesAll 108 = .ok (.bipush 8, 2) := by decide +kernel
theorem dX9_passesAll_110 : decode cX9_passesAll 110 = .ok (.invokevirtual 275, 3) := by decide +kernel
theorem dX9_passesAll_113 : decode cX9_passesAll 113 = .ok (.aload_n 0, 1) := by decide +kernel
theorem dX9_passesAll_114 : decode cX9_passesAll 114 = .ok (.aload_n 0, 1) := by decide +kernel
theorem dX9_passesAll_115 : decode cX9_passesAll 115 = .ok (.getfield 53, 3) := by decide +kernel
theorem dX9_passesAll_118 : decode cX9_passesAll 118 = .ok (.iconst 3, 1) := by decide +kernel
theorem dX9_passesAll_119 : decode cX9_passesAll 119 = .ok (.invokevirtual 275, 3) := by decide +kernel
theorem dX9_passesAll_122 : decode cX9_passesAll 122 = .ok (.aload_n 0, 1) := by decide +kernel
theorem dX9_passesAll_123 : decode cX9_passesAll 123 = .ok (.aload_n 0, 1) := by decide +kernel
theorem dX9_passesAll_124 : decode cX9_passesAll 124 = .ok (.getfield 56, 3) := by decide +kernel
theorem dX9_passesAll_127 : decode cX9_passesAll 127 = .ok (.iconst 1, 1) := by decide +kernel
theorem dX9_passesAll_128 : decode cX9_passesAll 128 = .ok (.invokevirtual 275, 3) := by decide +kernel
theorem dX9_passesAll_131 : decode cX9_passesAll 131 = .ok (.aload_n 0, 1) := by decide +kernel
theorem dX9_passesAll_132 : decode cX9_passesAll 132 = .ok (.aload_n 0, 1) := by decide +kernel
theorem dX9_passesAll_133 : decode cX9_passesAll 133 = .ok (.aload_n 0, 1) := by decide +kernel
theorem dX9_passesAll_134 : decode cX9_passesAll 134 = .ok (.getfield 102, 3) := by decide +kernel
theorem dX9_passesAll_137 : decode cX9_passesAll 137 = .ok (.invokevirtual 279, 3) := by decide +kernel
theorem dX9_passesAll_140 : decode cX9_passesAll 140 = .ok (.putfield 102, 3) := by decide +kernel
theorem dX9_passesAll_143 : decode cX9_passesAll 143 = .ok (.aload_n 0, 1) := by decide +kernel
theorem dX9_passesAll_144 : decode cX9_passesAll 144 = .ok (.aload_n 0, 1) := by decide +kernel
theorem dX9_passesAll_145 : decode cX9_passesAll 145 = .ok (.aload_n 0, 1) := by decide +kernel
theorem dX9_passesAll_146 : decode cX9_passesAll 146 = .ok (.getfield 105, 3) := by decide +kernel
theorem dX9_passesAll_149 : decode cX9_passesAll 149 = .ok (.invokevirtual 279, 3) := by decide +kernel
theorem dX9_passesAll_152 : decode cX9_passesAll 152 = .ok (.putfield 105, 3) := by decide +kernel
theorem dX9_passesAll_155 : decode cX9_passesAll 155 = .ok (.aload_n 0, 1) := by decide +kernel
theorem dX9_passesAll_156 : decode cX9_passesAll 156 = .ok (.aload_n 0, 1) := by decide +kernel
theorem dX9_passesAll_157 : decode cX9_passesAll 157 = .ok (.aload_n 0, 1) := by decide +kernel
theorem dX9_passesAll_158 : decode cX9_passesAll 158 = .ok (.getfield 34, 3) := by decide +kernel
theorem dX9_passesAll_161 : decode cX9_passesAll 161 = .ok (.invokevirtual 279, 3) := by decide +kernel
theorem dX9_passesAll_164 : decode cX9_passesAll 164 = .ok (.putfield 34, 3) := by decide +kernel
theorem dX9_passesAll_167 : decode cX9_passesAll 167 = .ok (.aload_n 0, 1) := by decide +kernel
theorem dX9_passesAll_168 : decode cX9_passesAll 168 = .ok (.aload_n 0, 1) := by decide +kernel
theorem dX9_passesAll_169 : decode cX9_passesAll 169 = .ok (.aload_n 0, 1) := by decide +kernel
theorem dX9_passesAll_170 : decode cX9_passesAll 170 = .ok (.getfield 282, 3) := by decide +kernel
theorem dX9_passesAll_173 : decode cX9_passesAll 173 = .ok (.invokevirtual 279, 3) := by decide +kernel
theorem dX9_passesAll_176 : decode cX9_passesAll 176 = .ok (.putfield 282, 3) := by decide +kernel
theorem dX9_passesAll_179 : decode cX9_passesAll 179 = .ok (.aload_n 0, 1) := by decide +kernel
theorem dX9_passesAll_180 : decode cX9_passesAll 180 = .ok (.aload_n 0, 1) := by decide +kernel
theorem dX9_passesAll_181 : decode cX9_passesAll 181 = .ok (.aload_n 0, 1) := by decide +kernel
theorem dX9_passesAll_182 : decode cX9_passesAll 182 = .ok (.getfield 285, 3) := by decide +kernel
theorem dX9_passesAll_185 : decode cX9_passesAll 185 = .ok (.invokevirtual 279, 3) := by decide +kernel
theorem dX9_passesAll_188 : decode cX9_passesAll 188 = .ok (.putfield 285, 3) := by decide +kernel
theorem dX9_passesAll_191 : decode cX9_passesAll 191 = .ok (.aload_n 0, 1) := by decide +kernel
theorem dX9_passesAll_192 : decode cX9_passesAll 192 = .ok (.aload_n 0, 1) := by decide +kernel
theorem dX9_passesAll_193 : decode cX9_passesAll 193 = .ok (.aload_n 0, 1) := by decide +kernel
theorem dX9_passesAll_194 : decode cX9_passesAll 194 = .ok (.getfield 38, 3) := by decide +kernel
theorem dX9_passesAll_197 : decode cX9_passesAll 197 = .ok (.invokevirtual 279, 3) := by decide +kernel
theorem dX9_passesAll_200 : decode cX9_passesAll 200 = .ok (.putfield 38, 3) := by decide +kernel
theorem dX9_passesAll_203 : decode cX9_passesAll 203 = .ok (.aload_n 0, 1) := by decide +kernel
theorem dX9_passesAll_204 : decode cX9_passesAll 204 = .ok (.aload_n 0, 1) := by decide +kernel
theorem dX9_passesAll_205 : decode cX9_passesAll 205 = .ok (.getfield 34, 3) := by decide +kernel
theorem dX9_passesAll_208 : decode cX9_passesAll 208 = .ok (.putfield 69, 3) := by decide +kernel
theorem dX9_passesAll_211 : decode cX9_passesAll 211 = .ok (.return_, 1) := by decide +kernel
theorem dX9_image_0 : decode cX9_image 0 = .ok (.aload_n 0, 1) := by decide +kernel
theorem dX9_image_1 : decode cX9_image 1 = .ok (.iconst 1, 1) := by decide +kernel
theorem dX9_image_2 : decode cX9_image 2 = .ok (.putfield 288, 3) := by decide +kernel
theorem dX9_image_5 : decode cX9_image 5 = .ok (.aload_n 0, 1) := by decide +kernel
theorem dX9_image_6 : decode cX9_image 6 = .ok (.iconst 0, 1) := by decide +kernel
theorem dX9_image_7 : decode cX9_image 7 = .ok (.iconst 1, 1) := by decide +kernel
theorem dX9_image_8 : decode cX9_image 8 = .ok (.invokevirtual 262, 3) := by decide +kernel
theorem dX9_image_11 : decode cX9_image 11 = .ok (.aload_n 0, 1) := by decide +kernel
theorem dX9_image_12 : decode cX9_image 12 = .ok (.getfield 102, 3) := by decide +kernel
theorem dX9_image_15 : decode cX9_image 15 = .ok (.ireturn, 1) := by decide +kernel
theorem dX9_restore_0 : decode cX9_restore 0 = .ok (.aload_n 0, 1) := by decide +kernel
theorem dX9_restore_1 : decode cX9_restore 1 = .ok (.getfield 288, 3) := by decide +kernel
theorem dX9_restore_4 : decode cX9_restore 4 = .ok (.ifCond .ne 10, 3) := by decide +kernel
theorem dX9_restore_7 : decode cX9_restore 7 = .ok (.aload_n 0, 1) := by decide +kernel
theorem dX9_restore_8 : decode cX9_restore 8 = .ok (.bipush (-6), 2) := by decide +kernel
theorem dX9_restore_10 : decode cX9_restore 10 = .ok (.invokevirtual 171, 3) := by decide +kernel
theorem dX9_restore_13 : decode cX9_restore 13 = .ok (.ireturn, 1) := by decide +kernel
theorem dX9_restore_14 : decode cX9_restore 14 = .ok (.aload_n 0, 1) := by decide +kernel
theorem dX9_restore_15 : decode cX9_restore 15 = .ok (.iconst 0, 1) := by decide +kernel
theorem dX9_restore_16 : decode cX9_restore 16 = .ok (.iconst 0, 1) := by decide +kernel
theorem dX9_restore_17 : decode cX9_restore 17 = .ok (.invokevirtual 262, 3) := by decide +kernel
theorem dX9_restore_20 : decode cX9_restore 20 = .ok (.iconst 0, 1) := by decide +kernel
theorem dX9_restore_21 : decode cX9_restore 21 = .ok (.istore_n 1, 1) := by decide +kernel
theorem dX9_restore_22 : decode cX9_restore 22 = .ok (.iload_n 1, 1) := by decide +kernel
theorem dX9_restore_23 : decode cX9_restore 23 = .ok (.bipush 8, 2) := by decide +kernel
theorem dX9_restore_25 : decode cX9_restore 25 = .ok (.if_icmp .ge 39, 3) := by decide +kernel
theorem dX9_restore_28 : decode cX9_restore 28 = .ok (.aload_n 0, 1) := by decide +kernel
theorem dX9_restore_29 : decode cX9_restore 29 = .ok (.getfield 75, 3) := by decide +kernel
theorem dX9_restore_32 : decode cX9_restore 32 = .ok (.iload_n 1, 1) := by decide +kernel
theorem dX9_restore_33 : decode cX9_restore 33 = .ok (.iaload, 1) := by decide +kernel
theorem dX9_restore_34 : decode cX9_restore 34 = .ok (.iconst 4, 1) := by decide +kernel
theorem dX9_restore_35 : decode cX9_restore 35 = .ok (.if_icmp .ne 23, 3) := by decide +kernel
theorem dX9_restore_38 : decode cX9_restore 38 = .ok (.aload_n 0, 1) := by decide +kernel
theorem dX9_restore_39 : decode cX9_restore 39 = .ok (.getfield 81, 3) := by decide +kernel
theorem dX9_restore_42 : decode cX9_restore 42 = .ok (.iload_n 1, 1) := by decide +kernel
theorem dX9_restore_43 : decode cX9_restore 43 = .ok (.iaload, 1) := by decide +kernel
theorem dX9_restore_44 : decode cX9_restore 44 = .ok (.aload_n 0, 1) := by decide +kernel
theorem dX9_restore_45 : decode cX9_restore 45 = .ok (.getfield 102, 3) := by decide +kernel
theorem dX9_restore_48 : decode cX9_restore 48 = .ok (.if_icmp .lt 10, 3) := by decide +kernel
theorem dX9_restore_51 : decode cX9_restore 51 = .ok (.aload_n 0, 1) := by decide +kernel
theorem dX9_restore_52 : decode cX9_restore 52 = .ok (.getfield 75, 3) := by decide +kernel
theorem dX9_restore_55 : decode cX9_restore 55 = .ok (.iload_n 1, 1) := by decide +kernel
theorem dX9_restore_56 : decode cX9_restore 56 = .ok (.iconst (-1), 1) := by decide +kernel
theorem dX9_restore_57 : decode cX9_restore 57 = .ok (.iastore, 1) := by decide +kernel
theorem dX9_restore_58 : decode cX9_restore 58 = .ok (.iinc 1 1, 3) := by decide +kernel
theorem dX9_restore_61 : decode cX9_restore 61 = .ok (.goto (-39), 3) := by decide +kernel
theorem dX9_restore_64 : decode cX9_restore 64 = .ok (.aload_n 0, 1) := by decide +kernel
theorem dX9_restore_65 : decode cX9_restore 65 = .ok (.getfield 102, 3) := by decide +kernel
theorem dX9_restore_68 : decode cX9_restore 68 = .ok (.ireturn, 1) := by decide +kernel
theorem dX9_reallyVisits_0 : decode cX9_reallyVisits 0 = .ok (.aload_n 0, 1) := by decide +kernel
theorem dX9_reallyVisits_1 : decode cX9_reallyVisits 1 = .ok (.iconst 0, 1) := by decide +kernel
theorem dX9_reallyVisits_2 : decode cX9_reallyVisits 2 = .ok (.iload_n 1, 1) := by decide +kernel
theorem dX9_reallyVisits_3 : decode cX9_reallyVisits 3 = .ok (.invokevirtual 154, 3) := by decide +kernel
theorem dX9_reallyVisits_6 : decode cX9_reallyVisits 6 = .ok (.aload_n 0, 1) := by decide +kernel
theorem dX9_reallyVisits_7 : decode cX9_reallyVisits 7 = .ok (.dup, 1) := by decide +kernel
theorem dX9_reallyVisits_8 : decode cX9_reallyVisits 8 = .ok (.getfield 285, 3) := by decide +kernel
theorem dX9_reallyVisits_11 : decode cX9_reallyVisits 11 = .ok (.iconst 1, 1) := by decide +kernel
theorem dX9_reallyVisits_12 : decode cX9_reallyVisits 12 = .ok (.iadd, 1) := by decide +kernel
theorem dX9_reallyVisits_13 : decode cX9_reallyVisits 13 = .ok (.putfield 285, 3) := by decide +kernel
theorem dX9_reallyVisits_16 : decode cX9_reallyVisits 16 = .ok (.aload_n 0, 1) := by decide +kernel
theorem dX9_reallyVisits_17 : decode cX9_reallyVisits 17 = .ok (.getfield 62, 3) := by decide +kernel
theorem dX9_reallyVisits_20 : decode cX9_reallyVisits 20 = .ok (.iconst 0, 1) := by decide +kernel
theorem dX9_reallyVisits_21 : decode cX9_reallyVisits 21 = .ok (.iaload, 1) := by decide +kernel
theorem dX9_reallyVisits_22 : decode cX9_reallyVisits 22 = .ok (.ireturn, 1) := by decide +kernel
theorem dX9_put_0 : decode cX9_put 0 = .ok (.aload_n 0, 1) := by decide +kernel
theorem dX9_put_1 : decode cX9_put 1 = .ok (.iload_n 1, 1) := by decide +kernel
theorem dX9_put_2 : decode cX9_put 2 = .ok (.invokevirtual 188, 3) := by decide +kernel
theorem dX9_put_5 : decode cX9_put 5 = .ok (.ifCond .eq 11, 3) := by decide +kernel
theorem dX9_put_8 : decode cX9_put 8 = .ok (.aload_n 0, 1) := by decide +kernel
theorem dX9_put_9 : decode cX9_put 9 = .ok (.iload_n 1, 1) := by decide +kernel
theorem dX9_put_10 : decode cX9_put 10 = .ok (.invokevirtual 291, 3) := by decide +kernel
theorem dX9_put_13 : decode cX9_put 13 = .ok (.goto 8, 3) := by decide +kernel
theorem dX9_put_16 : decode cX9_put 16 = .ok (.aload_n 0, 1) := by decide +kernel
theorem dX9_put_17 : decode cX9_put 17 = .ok (.iconst (-1), 1) := by decide +kernel
theorem dX9_put_18 : decode cX9_put 18 = .ok (.invokevirtual 171, 3) := by decide +kernel
theorem dX9_put_21 : decode cX9_put 21 = .ok (.ireturn, 1) := by decide +kernel
theorem dX9_isOf_0 : decode cX9_isOf 0 = .ok (.aload_n 0, 1) := by decide +kernel
theorem dX9_isOf_1 : decode cX9_isOf 1 = .ok (.getfield 22, 3) := by decide +kernel
theorem dX9_isOf_4 : decode cX9_isOf 4 = .ok (.iload_n 1, 1) := by decide +kernel
theorem dX9_isOf_5 : decode cX9_isOf 5 = .ok (.iaload, 1) := by decide +kernel
theorem dX9_isOf_6 : decode cX9_isOf 6 = .ok (.iload_n 2, 1) := by decide +kernel
theorem dX9_isOf_7 : decode cX9_isOf 7 = .ok (.if_icmp .eq 13, 3) := by decide +kernel
theorem dX9_isOf_10 : decode cX9_isOf 10 = .ok (.aload_n 0, 1) := by decide +kernel
theorem dX9_isOf_11 : decode cX9_isOf 11 = .ok (.getfield 25, 3) := by decide +kernel
theorem dX9_isOf_14 : decode cX9_isOf 14 = .ok (.iload_n 1, 1) := by decide +kernel
theorem dX9_isOf_15 : decode cX9_isOf 15 = .ok (.iaload, 1) := by decide +kernel
theorem dX9_isOf_16 : decode cX9_isOf 16 = .ok (.iload_n 2, 1) := by decide +kernel
theorem dX9_isOf_17 : decode cX9_isOf 17 = .ok (.if_icmp .ne 7, 3) := by decide +kernel
theorem dX9_isOf_20 : decode cX9_isOf 20 = .ok (.iconst 1, 1) := by decide +kernel
theorem dX9_isOf_21 : decode cX9_isOf 21 = .ok (.goto 4, 3) := by decide +kernel
theorem dX9_isOf_24 : decode cX9_isOf 24 = .ok (.iconst 0, 1) := by decide +kernel
theorem dX9_isOf_25 : decode cX9_isOf 25 = .ok (.ireturn, 1) := by decide +kernel
theorem dX9_goesBy_0 : decode cX9_goesBy 0 = .ok (.aload_n 0, 1) := by decide +kernel
theorem dX9_goesBy_1 : decode cX9_goesBy 1 = .ok (.dup, 1) := by decide +kernel
theorem dX9_goesBy_2 : decode cX9_goesBy 2 = .ok (.getfield 282, 3) := by decide +kernel
theorem dX9_goesBy_5 : decode cX9_goesBy 5 = .ok (.aload_n 0, 1) := by decide +kernel
theorem dX9_goesBy_6 : decode cX9_goesBy 6 = .ok (.getfield 28, 3) := by decide +kernel
theorem dX9_goesBy_9 : decode cX9_goesBy 9 = .ok (.iload_n 1, 1) := by decide +kernel
theorem dX9_goesBy_10 : decode cX9_goesBy 10 = .ok (.iaload, 1) := by decide +kernel
theorem dX9_goesBy_11 : decode cX9_goesBy 11 = .ok (.iadd, 1) := by decide +kernel
theorem dX9_goesBy_12 : decode cX9_goesBy 12 = .ok (.putfield 282, 3) := by decide +kernel
theorem dX9_goesBy_15 : decode cX9_goesBy 15 = .ok (.aload_n 0, 1) := by decide +kernel
theorem dX9_goesBy_16 : decode cX9_goesBy 16 = .ok (.aload_n 0, 1) := by decide +kernel
theorem dX9_goesBy_17 : decode cX9_goesBy 17 = .ok (.getfield 22, 3) := by decide +kernel
theorem dX9_goesBy_20 : decode cX9_goesBy 20 = .ok (.iload_n 1, 1) := by decide +kernel
theorem dX9_goesBy_21 : decode cX9_goesBy 21 = .ok (.iaload, 1) := by decide +kernel
theorem dX9_goesBy_22 : decode cX9_goesBy 22 = .ok (.aload_n 0, 1) := by decide +kernel
theorem dX9_goesBy_23 : decode cX9_goesBy 23 = .ok (.getfield 41, 3) := by decide +kernel
theorem dX9_goesBy_26 : decode cX9_goesBy 26 = .ok (.iconst 0, 1) := by decide +kernel
theorem dX9_goesBy_27 : decode cX9_goesBy 27 = .ok (.iaload, 1) := by decide +kernel
theorem dX9_goesBy_28 : decode cX9_goesBy 28 = .ok (.if_icmp .ne 12, 3) := by decide +kernel
theorem dX9_goesBy_31 : decode cX9_goesBy 31 = .ok (.aload_n 0, 1) := by decide +kernel
theorem dX9_goesBy_32 : decode cX9_goesBy 32 = .ok (.getfield 25, 3) := by decide +kernel
theorem dX9_goesBy_35 : decode cX9_goesBy 35 = .ok (.iload_n 1, 1) := by decide +kernel
theorem dX9_goesBy_36 : decode cX9_goesBy 36 = .ok (.iaload, 1) := by decide +kernel
theorem dX9_goesBy_37 : decode cX9_goesBy 37 = .ok (.goto 9, 3) := by decide +kernel
theorem dX9_goesBy_40 : decode cX9_goesBy 40 = .ok (.aload_n 0, 1) := by decide +kernel
theorem dX9_goesBy_41 : decode cX9_goesBy 41 = .ok (.getfield 22, 3) := by decide +kernel
theorem dX9_goesBy_44 : decode cX9_goesBy 44 = .ok (.iload_n 1, 1) := by decide +kernel
theorem dX9_goesBy_45 : decode cX9_goesBy 45 = .ok (.iaload, 1) := by decide +kernel
theorem dX9_goesBy_46 : decode cX9_goesBy 46 = .ok (.invokevirtual 291, 3) := by decide +kernel
theorem dX9_goesBy_49 : decode cX9_goesBy 49 = .ok (.ireturn, 1) := by decide +kernel
theorem dX9_go_0 : decode cX9_go 0 = .ok (.aload_n 0, 1) := by decide +kernel
theorem dX9_go_1 : decode cX9_go 1 = .ok (.iload_n 1, 1) := by decide +kernel
theorem dX9_go_2 : decode cX9_go 2 = .ok (.invokevirtual 211, 3) := by decide +kernel
theorem dX9_go_5 : decode cX9_go 5 = .ok (.ifCond .ne 9, 3) := by decide +kernel
theorem dX9_go_8 : decode cX9_go 8 = .ok (.aload_n 0, 1) := by decide +kernel
theorem dX9_go_9 : decode cX9_go 9 = .ok (.iconst (-1), 1) := by decide +kernel
theorem dX9_go_10 : decode cX9_go 10 = .ok (.invokevirtual 171, 3) := by decide +kernel
theorem dX9_go_13 : decode cX9_go 13 = .ok (.ireturn, 1) := by decide +kernel
theorem dX9_go_14 : decode cX9_go 14 = .ok (.aload_n 0, 1) := by decide +kernel
theorem dX9_go_15 : decode cX9_go 15 = .ok (.getfield 41, 3) := by decide +kernel
theorem dX9_go_18 : decode cX9_go 18 = .ok (.iconst 0, 1) := by decide +kernel
theorem dX9_go_19 : decode cX9_go 19 = .ok (.iaload, 1) := by decide +kernel
theorem dX9_go_20 : decode cX9_go 20 = .ok (.ifCond .lt 25, 3) := by decide +kernel
theorem dX9_go_23 : decode cX9_go 23 = .ok (.aload_n 0, 1) := by decide +kernel
theorem dX9_go_24 : decode cX9_go 24 = .ok (.iload_n 1, 1) := by decide +kernel
theorem dX9_go_25 : decode cX9_go 25 = .ok (.invokevirtual 119, 3) := by decide +kernel
theorem dX9_go_28 : decode cX9_go 28 = .ok (.ifCond .eq 17, 3) := by decide +kernel
theorem dX9_go_31 : decode cX9_go 31 = .ok (.aload_n 0, 1) := by decide +kernel
theorem dX9_go_32 : decode cX9_go 32 = .ok (.iload_n 1, 1) := by decide +kernel
theorem dX9_go_33 : decode cX9_go 33 = .ok (.aload_n 0, 1) := by decide +kernel
theorem dX9_go_34 : decode cX9_go 34 = .ok (.getfield 41, 3) := by decide +kernel
theorem dX9_go_37 : decode cX9_go 37 = .ok (.iconst 0, 1) := by decide +kernel
theorem dX9_go_38 : decode cX9_go 38 = .ok (.iaload, 1) := by decide +kernel
theorem dX9_go_39 : decode cX9_go 39 = .ok (.invokevirtual 294, 3) := by decide +kernel
theorem dX9_go_42 : decode cX9_go 42 = .ok (.ifCond .ne 10, 3) := by decide +kernel
theorem dX9_go_45 : decode cX9_go 45 = .ok (.aload_n 0, 1) := by decide +kernel
theorem dX9_go_46 : decode cX9_go 46 = .ok (.bipush (-6), 2) := by decide +kernel
theorem dX9_go_48 : decode cX9_go 48 = .ok (.invokevirtual 171, 3) := by decide +kernel
theorem dX9_go_51 : decode cX9_go 51 = .ok (.ireturn, 1) := by decide +kernel
theorem dX9_go_52 : decode cX9_go 52 = .ok (.aload_n 0, 1) := by decide +kernel
theorem dX9_go_53 : decode cX9_go 53 = .ok (.iload_n 1, 1) := by decide +kernel
theorem dX9_go_54 : decode cX9_go 54 = .ok (.invokevirtual 297, 3) := by decide +kernel
theorem dX9_go_57 : decode cX9_go 57 = .ok (.ireturn, 1) := by decide +kernel
theorem dX9_where_0 : decode cX9_where 0 = .ok (.aload_n 0, 1) := by decide +kernel
theorem dX9_where_1 : decode cX9_where 1 = .ok (.getfield 41, 3) := by decide +kernel
theorem dX9_where_4 : decode cX9_where 4 = .ok (.iconst 0, 1) := by decide +kernel
theorem dX9_where_5 : decode cX9_where 5 = .ok (.iaload, 1) := by decide +kernel
theorem dX9_where_6 : decode cX9_where 6 = .ok (.ireturn, 1) := by decide +kernel
theorem dX9_next_0 : decode cX9_next 0 = .ok (.aload_n 0, 1) := by decide +kernel
theorem dX9_next_1 : decode cX9_next 1 = .ok (.iconst 0, 1) := by decide +kernel
theorem dX9_next_2 : decode cX9_next 2 = .ok (.invokevirtual 111, 3) := by decide +kernel
theorem dX9_next_5 : decode cX9_next 5 = .ok (.ireturn, 1) := by decide +kernel
theorem dX9_behind_0 : decode cX9_behind 0 = .ok (.iload_n 1, 1) := by decide +kernel
theorem dX9_behind_1 : decode cX9_behind 1 = .ok (.iconst 0, 1) := by decide +kernel
theorem dX9_behind_2 : decode cX9_behind 2 = .ok (.aload_n 0, 1) := by decide +kernel
theorem dX9_behind_3 : decode cX9_behind 3 = .ok (.getfield 34, 3) := by decide +kernel
theorem dX9_behind_6 : decode cX9_behind 6 = .ok (.iconst 1, 1) := by decide +kernel
theorem dX9_behind_7 : decode cX9_behind 7 = .ok (.isub, 1) := by decide +kernel
theorem dX9_behind_8 : decode cX9_behind 8 = .ok (.invokestatic 167, 3) := by decide +kernel
theorem dX9_behind_11 : decode cX9_behind 11 = .ok (.ifCond .ne 12, 3) := by decide +kernel
theorem dX9_behind_14 : decode cX9_behind 14 = .ok (.aload_n 0, 1) := by decide +kernel
theorem dX9_behind_15 : decode cX9_behind 15 = .ok (.bipush (-5), 2) := by decide +kernel
theorem dX9_behind_17 : decode cX9_behind 17 = .ok (.invokevirtual 171, 3) := by decide +kernel
theorem dX9_behind_20 : decode cX9_behind 20 = .ok (.goto 23, 3) := by decide +kernel
theorem dX9_behind_23 : decode cX9_behind 23 = .ok (.iload_n 1, 1) := by decide +kernel
theorem dX9_behind_24 : decode cX9_behind 24 = .ok (.aload_n 0, 1) := by decide +kernel
theorem dX9_behind_25 : decode cX9_behind 25 = .ok (.getfield 56, 3) := by decide +kernel
theorem dX9_behind_28 : decode cX9_behind 28 = .ok (.iconst 0, 1) := by decide +kernel
theorem dX9_behind_29 : decode cX9_behind 29 = .ok (.iaload, 1) := by decide +kernel
theorem dX9_behind_30 : decode cX9_behind 30 = .ok (.if_icmp .ge 12, 3) := by decide +kernel
theorem dX9_behind_33 : decode cX9_behind 33 = .ok (.aload_n 0, 1) := by decide +kernel
theorem dX9_behind_34 : decode cX9_behind 34 = .ok (.getfield 53, 3) := by decide +kernel
theorem dX9_behind_37 : decode cX9_behind 37 = .ok (.iload_n 1, 1) := by decide +kernel
theorem dX9_behind_38 : decode cX9_behind 38 = .ok (.iaload, 1) := by decide +kernel
theorem dX9_behind_39 : decode cX9_behind 39 = .ok (.goto 4, 3) := by decide +kernel
theorem dX9_behind_42 : decode cX9_behind 42 = .ok (.iconst 0, 1) := by decide +kernel
theorem dX9_behind_43 : decode cX9_behind 43 = .ok (.ireturn, 1) := by decide +kernel
theorem dX9_answer_0 : decode cX9_answer 0 = .ok (.aload_n 0, 1) := by decide +kernel
theorem dX9_answer_1 : decode cX9_answer 1 = .ok (.iload_n 1, 1) := by decide +kernel
theorem dX9_answer_2 : decode cX9_answer 2 = .ok (.invokevirtual 188, 3) := by decide +kernel
theorem dX9_answer_5 : decode cX9_answer 5 = .ok (.ifCond .ne 11, 3) := by decide +kernel
theorem dX9_answer_8 : decode cX9_answer 8 = .ok (.aload_n 0, 1) := by decide +kernel
theorem dX9_answer_9 : decode cX9_answer 9 = .ok (.iconst (-1), 1) := by decide +kernel
theorem dX9_answer_10 : decode cX9_answer 10 = .ok (.invokevirtual 171, 3) := by decide +kernel
theorem dX9_answer_13 : decode cX9_answer 13 = .ok (.goto 26, 3) := by decide +kernel
theorem dX9_answer_16 : decode cX9_answer 16 = .ok (.iload_n 2, 1) := by decide +kernel
theorem dX9_answer_17 : decode cX9_answer 17 = .ok (.invokestatic 195, 3) := by decide +kernel
theorem dX9_answer_20 : decode cX9_answer 20 = .ok (.ifCond .ne 12, 3) := by decide +kernel
theorem dX9_answer_23 : decode cX9_answer 23 = .ok (.aload_n 0, 1) := by decide +kernel
theorem dX9_answer_24 : decode cX9_answer 24 = .ok (.bipush (-6), 2) := by decide +kernel
theorem dX9_answer_26 : decode cX9_answer 26 = .ok (.invokevirtual 171, 3) := by decide +kernel
theorem dX9_answer_29 : decode cX9_answer 29 = .ok (.goto 10, 3) := by decide +kernel
theorem dX9_answer_32 : decode cX9_answer 32 = .ok (.aload_n 0, 1) := by decide +kernel
theorem dX9_answer_33 : decode cX9_answer 33 = .ok (.iconst 0, 1) := by decide +kernel
theorem dX9_answer_34 : decode cX9_answer 34 = .ok (.iload_n 1, 1) := by decide +kernel
theorem dX9_answer_35 : decode cX9_answer 35 = .ok (.iload_n 2, 1) := by decide +kernel
theorem dX9_answer_36 : decode cX9_answer 36 = .ok (.invokevirtual 115, 3) := by decide +kernel
theorem dX9_answer_39 : decode cX9_answer 39 = .ok (.ireturn, 1) := by decide +kernel
theorem dX9_between_0 : decode cX9_between 0 = .ok (.aload_n 0, 1) := by decide +kernel
theorem dX9_between_1 : decode cX9_between 1 = .ok (.iload_n 1, 1) := by decide +kernel
theorem dX9_between_2 : decode cX9_between 2 = .ok (.invokevirtual 188, 3) := by decide +kernel
theorem dX9_between_5 : decode cX9_between 5 = .ok (.ifCond .eq 11, 3) := by decide +kernel
theorem dX9_between_8 : decode cX9_between 8 = .ok (.aload_n 0, 1) := by decide +kernel
theorem dX9_between_9 : decode cX9_between 9 = .ok (.iload_n 2, 1) := by decide +kernel
theorem dX9_between_10 : decode cX9_between 10 = .ok (.invokevirtual 188, 3) := by decide +kernel
theorem dX9_between_13 : decode cX9_between 13 = .ok (.ifCond .ne 11, 3) := by decide +kernel
theorem dX9_between_16 : decode cX9_between 16 = .ok (.aload_n 0, 1) := by decide +kernel
theorem dX9_between_17 : decode cX9_between 17 = .ok (.iconst (-1), 1) := by decide +kernel
theorem dX9_between_18 : decode cX9_between 18 = .ok (.invokevirtual 300, 3) := by decide +kernel
theorem dX9_between_21 : decode cX9_between 21 = .ok (.goto 9, 3) := by decide +kernel
theorem dX9_between_24 : decode cX9_between 24 = .ok (.aload_n 0, 1) := by decide +kernel
theorem dX9_between_25 : decode cX9_between 25 = .ok (.iload_n 1, 1) := by decide +kernel
theorem dX9_between_26 : decode cX9_between 26 = .ok (.iload_n 2, 1) := by decide +kernel
theorem dX9_between_27 : decode cX9_between 27 = .ok (.invokevirtual 143, 3) := by decide +kernel
theorem dX9_between_30 : decode cX9_between 30 = .ok (.ireturn, 1) := by decide +kernel
theorem dX9_draw_0 : decode cX9_draw 0 = .ok (.aload_n 0, 1) := by decide +kernel
theorem dX9_draw_1 : decode cX9_draw 1 = .ok (.aload_n 0, 1) := by decide +kernel
theorem dX9_draw_2 : decode cX9_draw 2 = .ok (.getfield 38, 3) := by decide +kernel
theorem dX9_draw_5 : decode cX9_draw 5 = .ok (.ldc_w 303, 3) := by decide +kernel
theorem dX9_draw_8 : decode cX9_draw 8 = .ok (.imul, 1) := by decide +kernel
theorem dX9_draw_9 : decode cX9_draw 9 = .ok (.sipush 12345, 3) := by decide +kernel
theorem dX9_draw_12 : decode cX9_draw 12 = .ok (.iadd, 1) := by decide +kernel
theorem dX9_draw_13 : decode cX9_draw 13 = .ok (.putfield 38, 3) := by decide +kernel
theorem dX9_draw_16 : decode cX9_draw 16 = .ok (.aload_n 0, 1) := by decide +kernel
theorem dX9_draw_17 : decode cX9_draw 17 = .ok (.getfield 38, 3) := by decide +kernel
theorem dX9_draw_20 : decode cX9_draw 20 = .ok (.bipush 16, 2) := by decide +kernel
theorem dX9_draw_22 : decode cX9_draw 22 = .ok (.iushr, 1) := by decide +kernel
theorem dX9_draw_23 : decode cX9_draw 23 = .ok (.iload_n 1, 1) := by decide +kernel
theorem dX9_draw_24 : decode cX9_draw 24 = .ok (.irem, 1) := by decide +kernel
theorem dX9_draw_25 : decode cX9_draw 25 = .ok (.ireturn, 1) := by decide +kernel
theorem dX9_wander_0 : decode cX9_wander 0 = .ok (.iload_n 1, 1) := by decide +kernel
theorem dX9_wander_1 : decode cX9_wander 1 = .ok (.iconst 1, 1) := by decide +kernel
theorem dX9_wander_2 : decode cX9_wander 2 = .ok (.bipush 40, 2) := by decide +kernel
theorem dX9_wander_4 : decode cX9_wander 4 = .ok (.invokestatic 167, 3) := by decide +kernel
theorem dX9_wander_7 : decode cX9_wander 7 = .ok (.ifCond .eq 12, 3) := by decide +kernel
theorem dX9_wander_10 : decode cX9_wander 10 = .ok (.aload_n 0, 1) := by decide +kernel
theorem dX9_wander_11 : decode cX9_wander 11 = .ok (.getfield 41, 3) := by decide +kernel
theorem dX9_wander_14 : decode cX9_wander 14 = .ok (.iconst 0, 1) := by decide +kernel
theorem dX9_wander_15 : decode cX9_wander 15 = .ok (.iaload, 1) := by decide +kernel
theorem dX9_wander_16 : decode cX9_wander 16 = .ok (.ifCond .ge 10, 3) := by decide +kernel
theorem dX9_wander_19 : decode cX9_wander 19 = .ok (.aload_n 0, 1) := by decide +kernel
theorem dX9_wander_20 : decode cX9_wander 20 = .ok (.bipush (-6), 2) := by decide +kernel
theorem dX9_wander_22 : decode cX9_wander 22 = .ok (.invokevirtual 171, 3) := by decide +kernel
theorem dX9_wander_25 : decode cX9_wander 25 = .ok (.ireturn, 1) := by decide +kernel
theorem dX9_wander_26 : decode cX9_wander 26 = .ok (.iconst 0, 1) := by decide +kernel
theorem dX9_wander_27 : decode cX9_wander 27 = .ok (.istore_n 2, 1) := by decide +kernel
theorem dX9_wander_28 : decode cX9_wander 28 = .ok (.iload_n 2, 1) := by decide +kernel
theorem dX9_wander_29 : decode cX9_wander 29 = .ok (.iload_n 1, 1) := by decide +kernel
theorem dX9_wander_30 : decode cX9_wander 30 = .ok (.if_icmp .ge 113, 3) := by decide +kernel
theorem dX9_wander_33 : decode cX9_wander 33 = .ok (.aload_n 0, 1) := by decide +kernel
theorem dX9_wander_34 : decode cX9_wander 34 = .ok (.aload_n 0, 1) := by decide +kernel
theorem dX9_wander_35 : decode cX9_wander 35 = .ok (.getfield 41, 3) := by decide +kernel
theorem dX9_wander_38 : decode cX9_wander 38 = .ok (.iconst 0, 1) := by decide +kernel
theorem dX9_wander_39 : decode cX9_wander 39 = .ok (.iaload, 1) := by decide +kernel
theorem dX9_wander_40 : decode cX9_wander 40 = .ok (.invokevirtual 147, 3) := by decide +kernel
theorem dX9_wander_43 : decode cX9_wander 43 = .ok (.ifCond .le 100, 3) := by decide +kernel
theorem dX9_wander_46 : decode cX9_wander 46 = .ok (.aload_n 0, 1) := by decide +kernel
theorem dX9_wander_47 : decode cX9_wander 47 = .ok (.aload_n 0, 1) := by decide +kernel
theorem dX9_wander_48 : decode cX9_wander 48 = .ok (.aload_n 0, 1) := by decide +kernel
theorem dX9_wander_49 : decode cX9_wander 49 = .ok (.getfield 41, 3) := by decide +kernel
theorem dX9_wander_52 : decode cX9_wander 52 = .ok (.iconst 0, 1) := by decide +kernel
theorem dX9_wander_53 : decode cX9_wander 53 = .ok (.iaload, 1) := by decide +kernel
theorem dX9_wander_54 : decode cX9_wander 54 = .ok (.invokevirtual 147, 3) := by decide +kernel
theorem dX9_wander_57 : decode cX9_wander 57 = .ok (.invokevirtual 304, 3) := by decide +kernel
theorem dX9_wander_60 : decode cX9_wander 60 = .ok (.istore_n 3, 1) := by decide +kernel
theorem dX9_wander_61 : decode cX9_wander 61 = .ok (.iconst 0, 1) := by decide +kernel
theorem dX9_wander_62 : decode cX9_wander 62 = .ok (.istore 4, 2) := by decide +kernel
theorem dX9_wander_64 : decode cX9_wander 64 = .ok (.aload_n 0, 1) := by decide +kernel
theorem dX9_wander_65 : decode cX9_wander 65 = .ok (.iload 4, 2) := by decide +kernel
theorem dX9_wander_67 : decode cX9_wander 67 = .ok (.invokevirtual 119, 3) := by decide +kernel
theorem dX9_wander_70 : decode cX9_wander 70 = .ok (.ifCond .eq 22, 3) := by decide +kernel
theorem dX9_wander_73 : decode cX9_wander 73 = .ok (.aload_n 0, 1) := by decide +kernel
theorem dX9_wander_74 : decode cX9_wander 74 = .ok (.iload 4, 2) := by decide +kernel
theorem dX9_wander_76 : decode cX9_wander 76 = .ok (.aload_n 0, 1) := by decide +kernel
theorem dX9_wander_77 : decode cX9_wander 77 = .ok (.getfield 41, 3) := by decide +kernel
theorem dX9_wander_80 : decode cX9_wander 80 = .ok (.iconst 0, 1) := by decide +kernel
theorem dX9_wander_81 : decode cX9_wander 81 = .ok (.iaload, 1) := by decide +kernel
theorem dX9_wander_82 : decode cX9_wander 82 = .ok (.invokevirtual 294, 3) := by decide +kernel
theorem dX9_wander_85 : decode cX9_wander 85 = .ok (.ifCond .eq 7, 3) := by decide +kernel
theorem dX9_wander_88 : decode cX9_wander 88 = .ok (.iload_n 3, 1) := by decide +kernel
theorem dX9_wander_89 : decode cX9_wander 89 = .ok (.ifCond .le 41, 3) := by decide +kernel
theorem dX9_wander_92 : decode cX9_wander 92 = .ok (.iload_n 3, 1) := by decide +kernel
theorem dX9_wander_93 : decode cX9_wander 93 = .ok (.aload_n 0, 1) := by decide +kernel
theorem dX9_wander_94 : decode cX9_wander 94 = .ok (.iload 4, 2) := by decide +kernel
theorem dX9_wander_96 : decode cX9_wander 96 = .ok (.invokevirtual 119, 3) := by decide +kernel
theorem dX9_wander_99 : decode cX9_wander 99 = .ok (.ifCond .eq 22, 3) := by decide +kernel
theorem dX9_wander_102 : decode cX9_wander 102 = .ok (.aload_n 0, 1) := by decide +kernel
theorem dX9_wander_103 : decode cX9_wander 103 = .ok (.iload 4, 2) := by decide +kernel
theorem dX9_wander_105 : decode cX9_wander 105 = .ok (.aload_n 0, 1) := by decide +kernel
theorem dX9_wander_106 : decode cX9_wander 106 = .ok (.getfield 41, 3) := by decide +kernel
theorem dX9_wander_109 : decode cX9_wander 109 = .ok (.iconst 0, 1) := by decide +kernel
theorem dX9_wander_110 : decode cX9_wander 110 = .ok (.iaload, 1) := by decide +kernel
theorem dX9_wander_111 : decode cX9_wander 111 = .ok (.invokevirtual 294, 3) := by decide +kernel
theorem dX9_wander_114 : decode cX9_wander 114 = .ok (.ifCond .eq 7, 3) := by decide +kernel
theorem dX9_wander_117 : decode cX9_wander 117 = .ok (.iconst 1, 1) := by decide +kernel
theorem dX9_wander_118 : decode cX9_wander 118 = .ok (.goto 4, 3) := by decide +kernel
theorem dX9_wander_121 : decode cX9_wander 121 = .ok (.iconst 0, 1) := by decide +kernel
theorem dX9_wander_122 : decode cX9_wander 122 = .ok (.isub, 1) := by decide +kernel
theorem dX9_wander_123 : decode cX9_wander 123 = .ok (.istore_n 3, 1) := by decide +kernel
theorem dX9_wander_124 : decode cX9_wander 124 = .ok (.iinc 4 1, 3) := by decide +kernel
theorem dX9_wander_127 : decode cX9_wander 127 = .ok (.goto (-63), 3) := by decide +kernel
theorem dX9_wander_130 : decode cX9_wander 130 = .ok (.aload_n 0, 1) := by decide +kernel
theorem dX9_wander_131 : decode cX9_wander 131 = .ok (.iload 4, 2) := by decide +kernel
theorem dX9_wander_133 : decode cX9_wander 133 = .ok (.invokevirtual 297, 3) := by decide +kernel
theorem dX9_wander_136 : decode cX9_wander 136 = .ok (.pop, 1) := by decide +kernel
theorem dX9_wander_137 : decode cX9_wander 137 = .ok (.iinc 2 1, 3) := by decide +kernel
theorem dX9_wander_140 : decode cX9_wander 140 = .ok (.goto (-112), 3) := by decide +kernel
theorem dX9_wander_143 : decode cX9_wander 143 = .ok (.iload_n 2, 1) := by decide +kernel
theorem dX9_wander_144 : decode cX9_wander 144 = .ok (.ireturn, 1) := by decide +kernel
theorem dX9_who_0 : decode cX9_who 0 = .ok (.iload_n 1, 1) := by decide +kernel
theorem dX9_who_1 : decode cX9_who 1 = .ok (.invokestatic 195, 3) := by decide +kernel
theorem dX9_who_4 : decode cX9_who 4 = .ok (.ifCond .ne 10, 3) := by decide +kernel
theorem dX9_who_7 : decode cX9_who 7 = .ok (.aload_n 0, 1) := by decide +kernel
theorem dX9_who_8 : decode cX9_who 8 = .ok (.bipush (-6), 2) := by decide +kernel
theorem dX9_who_10 : decode cX9_who 10 = .ok (.invokevirtual 171, 3) := by decide +kernel
theorem dX9_who_13 : decode cX9_who 13 = .ok (.ireturn, 1) := by decide +kernel
theorem dX9_who_14 : decode cX9_who 14 = .ok (.iconst 0, 1) := by decide +kernel
theorem dX9_who_15 : decode cX9_who 15 = .ok (.istore_n 2, 1) := by decide +kernel
theorem dX9_who_16 : decode cX9_who 16 = .ok (.iconst 0, 1) := by decide +kernel
theorem dX9_who_17 : decode cX9_who 17 = .ok (.istore_n 3, 1) := by decide +kernel
theorem dX9_who_18 : decode cX9_who 18 = .ok (.iload_n 3, 1) := by decide +kernel
theorem dX9_who_19 : decode cX9_who 19 = .ok (.aload_n 0, 1) := by decide +kernel
theorem dX9_who_20 : decode cX9_who 20 = .ok (.getfield 102, 3) := by decide +kernel
theorem dX9_who_23 : decode cX9_who 23 = .ok (.if_icmp .ge 32, 3) := by decide +kernel
theorem dX9_who_26 : decode cX9_who 26 = .ok (.iload_n 2, 1) := by decide +kernel
theorem dX9_who_27 : decode cX9_who 27 = .ok (.iload_n 1, 1) := by decide +kernel
theorem dX9_who_28 : decode cX9_who 28 = .ok (.aload_n 0, 1) := by decide +kernel
theorem dX9_who_29 : decode cX9_who 29 = .ok (.getfield 44, 3) := by decide +kernel
theorem dX9_who_32 : decode cX9_who 32 = .ok (.iload_n 3, 1) := by decide +kernel
theorem dX9_who_33 : decode cX9_who 33 = .ok (.iaload, 1) := by decide +kernel
theorem dX9_who_34 : decode cX9_who 34 = .ok (.iconst (-1), 1) := by decide +kernel
theorem dX9_who_35 : decode cX9_who 35 = .ok (.ixor, 1) := by decide +kernel
theorem dX9_who_36 : decode cX9_who 36 = .ok (.iand, 1) := by decide +kernel
theorem dX9_who_37 : decode cX9_who 37 = .ok (.ifCond .ne 9, 3) := by decide +kernel
theorem dX9_who_40 : decode cX9_who 40 = .ok (.iconst 1, 1) := by decide +kernel
theorem dX9_who_41 : decode cX9_who 41 = .ok (.iload_n 3, 1) := by decide +kernel
theorem dX9_who_42 : decode cX9_who 42 = .ok (.ishl, 1) := by decide +kernel
theorem dX9_who_43 : decode cX9_who 43 = .ok (.goto 4, 3) := by decide +kernel
theorem dX9_who_46 : decode cX9_who 46 = .ok (.iconst 0, 1) := by decide +kernel
theorem dX9_who_47 : decode cX9_who 47 = .ok (.ior, 1) := by decide +kernel
theorem dX9_who_48 : decode cX9_who 48 = .ok (.istore_n 2, 1) := by decide +kernel
theorem dX9_who_49 : decode cX9_who 49 = .ok (.iinc 3 1, 3) := by decide +kernel
theorem dX9_who_52 : decode cX9_who 52 = .ok (.goto (-34), 3) := by decide +kernel
theorem dX9_who_55 : decode cX9_who 55 = .ok (.iload_n 2, 1) := by decide +kernel
theorem dX9_who_56 : decode cX9_who 56 = .ok (.ireturn, 1) := by decide +kernel
theorem dX9_bits_0 : decode cX9_bits 0 = .ok (.iconst 0, 1) := by decide +kernel
theorem dX9_bits_1 : decode cX9_bits 1 = .ok (.istore_n 1, 1) := by decide +kernel
theorem dX9_bits_2 : decode cX9_bits 2 = .ok (.iconst 0, 1) := by decide +kernel
theorem dX9_bits_3 : decode cX9_bits 3 = .ok (.istore_n 2, 1) := by decide +kernel
theorem dX9_bits_4 : decode cX9_bits 4 = .ok (.iload_n 2, 1) := by decide +kernel
theorem dX9_bits_5 : decode cX9_bits 5 = .ok (.bipush 31, 2) := by decide +kernel
theorem dX9_bits_7 : decode cX9_bits 7 = .ok (.if_icmp .ge 17, 3) := by decide +kernel
theorem dX9_bits_10 : decode cX9_bits 10 = .ok (.iload_n 1, 1) := by decide +kernel
theorem dX9_bits_11 : decode cX9_bits 11 = .ok (.iload_n 0, 1) := by decide +kernel
theorem dX9_bits_12 : decode cX9_bits 12 = .ok (.iload_n 2, 1) := by decide +kernel
theorem dX9_bits_13 : decode cX9_bits 13 = .ok (.ishr, 1) := by decide +kernel
theorem dX9_bits_14 : decode cX9_bits 14 = .ok (.iconst 1, 1) := by decide +kernel
theorem dX9_bits_15 : decode cX9_bits 15 = .ok (.iand, 1) := by decide +kernel
theorem dX9_bits_16 : decode cX9_bits 16 = .ok (.iadd, 1) := by decide +kernel
theorem dX9_bits_17 : decode cX9_bits 17 = .ok (.istore_n 1, 1) := by decide +kernel
theorem dX9_bits_18 : decode cX9_bits 18 = .ok (.iinc 2 1, 3) := by decide +kernel
theorem dX9_bits_21 : decode cX9_bits 21 = .ok (.goto (-17), 3) := by decide +kernel
theorem dX9_bits_24 : decode cX9_bits 24 = .ok (.iload_n 1, 1) := by decide +kernel
theorem dX9_bits_25 : decode cX9_bits 25 = .ok (.ireturn, 1) := by decide +kernel
theorem dX9_forget_0 : decode cX9_forget 0 = .ok (.iconst 0, 1) := by decide +kernel
theorem dX9_forget_1 : decode cX9_forget 1 = .ok (.istore_n 1, 1) := by decide +kernel
theorem dX9_forget_2 : decode cX9_forget 2 = .ok (.iconst 0, 1) := by decide +kernel
theorem dX9_forget_3 : decode cX9_forget 3 = .ok (.istore_n 2, 1) := by decide +kernel
theorem dX9_forget_4 : decode cX9_forget 4 = .ok (.iload_n 2, 1) := by decide +kernel
theorem dX9_forget_5 : decode cX9_forget 5 = .ok (.aload_n 0, 1) := by decide +kernel
theorem dX9_forget_6 : decode cX9_forget 6 = .ok (.getfield 102, 3) := by decide +kernel
theorem dX9_forget_9 : decode cX9_forget 9 = .ok (.if_icmp .ge 35, 3) := by decide +kernel
theorem dX9_forget_12 : decode cX9_forget 12 = .ok (.iload_n 1, 1) := by decide +kernel
theorem dX9_forget_13 : decode cX9_forget 13 = .ok (.aload_n 0, 1) := by decide +kernel
theorem dX9_forget_14 : decode cX9_forget 14 = .ok (.getfield 44, 3) := by decide +kernel
theorem dX9_forget_17 : decode cX9_forget 17 = .ok (.iload_n 2, 1) := by decide +kernel
theorem dX9_forget_18 : decode cX9_forget 18 = .ok (.iaload, 1) := by decide +kernel
theorem dX9_forget_19 : decode cX9_forget 19 = .ok (.invokestatic 307, 3) := by decide +kernel
theorem dX9_forget_22 : decode cX9_forget 22 = .ok (.iadd, 1) := by decide +kernel
theorem dX9_forget_23 : decode cX9_forget 23 = .ok (.istore_n 1, 1) := by decide +kernel
theorem dX9_forget_24 : decode cX9_forget 24 = .ok (.aload_n 0, 1) := by decide +kernel
theorem dX9_forget_25 : decode cX9_forget 25 = .ok (.getfield 44, 3) := by decide +kernel
theorem dX9_forget_28 : decode cX9_forget 28 = .ok (.iload_n 2, 1) := by decide +kernel
theorem dX9_forget_29 : decode cX9_forget 29 = .ok (.iconst 0, 1) := by decide +kernel
theorem dX9_forget_30 : decode cX9_forget 30 = .ok (.iastore, 1) := by decide +kernel
theorem dX9_forget_31 : decode cX9_forget 31 = .ok (.aload_n 0, 1) := by decide +kernel
theorem dX9_forget_32 : decode cX9_forget 32 = .ok (.getfield 47, 3) := by decide +kernel
theorem dX9_forget_35 : decode cX9_forget 35 = .ok (.iload_n 2, 1) := by decide +kernel
theorem dX9_forget_36 : decode cX9_forget 36 = .ok (.iconst 0, 1) := by decide +kernel
theorem dX9_forget_37 : decode cX9_forget 37 = .ok (.iastore, 1) := by decide +kernel
theorem dX9_forget_38 : decode cX9_forget 38 = .ok (.iinc 2 1, 3) := by decide +kernel
theorem dX9_forget_41 : decode cX9_forget 41 = .ok (.goto (-37), 3) := by decide +kernel
theorem dX9_forget_44 : decode cX9_forget 44 = .ok (.aload_n 0, 1) := by decide +kernel
theorem dX9_forget_45 : decode cX9_forget 45 = .ok (.getfield 56, 3) := by decide +kernel
theorem dX9_forget_48 : decode cX9_forget 48 = .ok (.iconst 0, 1) := by decide +kernel
theorem dX9_forget_49 : decode cX9_forget 49 = .ok (.iconst 0, 1) := by decide +kernel
theorem dX9_forget_50 : decode cX9_forget 50 = .ok (.iastore, 1) := by decide +kernel
theorem dX9_forget_51 : decode cX9_forget 51 = .ok (.iload_n 1, 1) := by decide +kernel
theorem dX9_forget_52 : decode cX9_forget 52 = .ok (.ireturn, 1) := by decide +kernel
theorem dX9_seed_0 : decode cX9_seed 0 = .ok (.aload_n 0, 1) := by decide +kernel
theorem dX9_seed_1 : decode cX9_seed 1 = .ok (.getfield 38, 3) := by decide +kernel
theorem dX9_seed_4 : decode cX9_seed 4 = .ok (.istore_n 2, 1) := by decide +kernel
theorem dX9_seed_5 : decode cX9_seed 5 = .ok (.aload_n 0, 1) := by decide +kernel
theorem dX9_seed_6 : decode cX9_seed 6 = .ok (.iload_n 1, 1) := by decide +kernel
theorem dX9_seed_7 : decode cX9_seed 7 = .ok (.putfield 38, 3) := by decide +kernel
theorem dX9_seed_10 : decode cX9_seed 10 = .ok (.iload_n 2, 1) := by decide +kernel
theorem dX9_seed_11 : decode cX9_seed 11 = .ok (.ireturn, 1) := by decide +kernel
theorem dX9_notRoute_0 : decode cX9_notRoute 0 = .ok (.aload_n 0, 1) := by decide +kernel
theorem dX9_notRoute_1 : decode cX9_notRoute 1 = .ok (.iload_n 1, 1) := by decide +kernel
theorem dX9_notRoute_2 : decode cX9_notRoute 2 = .ok (.invokevirtual 174, 3) := by decide +kernel
theorem dX9_notRoute_5 : decode cX9_notRoute 5 = .ok (.istore 4, 2) := by decide +kernel
theorem dX9_notRoute_7 : decode cX9_notRoute 7 = .ok (.iload 4, 2) := by decide +kernel
theorem dX9_notRoute_9 : decode cX9_notRoute 9 = .ok (.ifCond .eq 6, 3) := by decide +kernel
theorem dX9_notRoute_12 : decode cX9_notRoute 12 = .ok (.iload 4, 2) := by decide +kernel
theorem dX9_notRoute_14 : decode cX9_notRoute 14 = .ok (.ireturn, 1) := by decide +kernel
theorem dX9_notRoute_15 : decode cX9_notRoute 15 = .ok (.iload_n 2, 1) := by decide +kernel
theorem dX9_notRoute_16 : decode cX9_notRoute 16 = .ok (.ifCond .ge 8, 3) := by decide +kernel
theorem dX9_notRoute_19 : decode cX9_notRoute 19 = .ok (.bipush (-4), 2) := by decide +kernel
theorem dX9_notRoute_21 : decode cX9_notRoute 21 = .ok (.goto 38, 3) := by decide +kernel
theorem dX9_notRoute_24 : decode cX9_notRoute 24 = .ok (.iload_n 2, 1) := by decide +kernel
theorem dX9_notRoute_25 : decode cX9_notRoute 25 = .ok (.aload_n 0, 1) := by decide +kernel
theorem dX9_notRoute_26 : decode cX9_notRoute 26 = .ok (.getfield 78, 3) := by decide +kernel
theorem dX9_notRoute_29 : decode cX9_notRoute 29 = .ok (.iload_n 1, 1) := by decide +kernel
theorem dX9_notRoute_30 : decode cX9_notRoute 30 = .ok (.iaload, 1) := by decide +kernel
theorem dX9_notRoute_31 : decode cX9_notRoute 31 = .ok (.if_icmp .le 8, 3) := by decide +kernel
theorem dX9_notRoute_34 : decode cX9_notRoute 34 = .ok (.bipush (-5), 2) := by decide +kernel
theorem dX9_notRoute_36 : decode cX9_notRoute 36 = .ok (.goto 23, 3) := by decide +kernel
theorem dX9_notRoute_39 : decode cX9_notRoute 39 = .ok (.iload_n 2, 1) := by decide +kernel
theorem dX9_notRoute_40 : decode cX9_notRoute 40 = .ok (.iload_n 3, 1) := by decide +kernel
theorem dX9_notRoute_41 : decode cX9_notRoute 41 = .ok (.if_icmp .gt 12, 3) := by decide +kernel
theorem dX9_notRoute_44 : decode cX9_notRoute 44 = .ok (.aload_n 0, 1) := by decide +kernel
theorem dX9_notRoute_45 : decode cX9_notRoute 45 = .ok (.getfield 41, 3) := by decide +kernel
theorem dX9_notRoute_48 : decode cX9_notRoute 48 = .ok (.iconst 0, 1) := by decide +kernel
theorem dX9_notRoute_49 : decode cX9_notRoute 49 = .ok (.iaload, 1) := by decide +kernel
theorem dX9_notRoute_50 : decode cX9_notRoute 50 = .ok (.ifCond .ge 8, 3) := by decide +kernel
theorem dX9_notRoute_53 : decode cX9_notRoute 53 = .ok (.bipush (-6), 2) := by decide +kernel
theorem dX9_notRoute_55 : decode cX9_notRoute 55 = .ok (.goto 4, 3) := by decide +kernel
theorem dX9_notRoute_58 : decode cX9_notRoute 58 = .ok (.iconst 0, 1) := by decide +kernel
theorem dX9_notRoute_59 : decode cX9_notRoute 59 = .ok (.ireturn, 1) := by decide +kernel
theorem dX9_goesRoute_0 : decode cX9_goesRoute 0 = .ok (.aload_n 0, 1) := by decide +kernel
theorem dX9_goesRoute_1 : decode cX9_goesRoute 1 = .ok (.iconst 0, 1) := by decide +kernel
theorem dX9_goesRoute_2 : decode cX9_goesRoute 2 = .ok (.bipush 7, 2) := by decide +kernel
theorem dX9_goesRoute_4 : decode cX9_goesRoute 4 = .ok (.invokevirtual 150, 3) := by decide +kernel
theorem dX9_goesRoute_7 : decode cX9_goesRoute 7 = .ok (.aload_n 0, 1) := by decide +kernel
theorem dX9_goesRoute_8 : decode cX9_goesRoute 8 = .ok (.bipush 7, 2) := by decide +kernel
theorem dX9_goesRoute_10 : decode cX9_goesRoute 10 = .ok (.invokevirtual 139, 3) := by decide +kernel
theorem dX9_goesRoute_13 : decode cX9_goesRoute 13 = .ok (.aload_n 0, 1) := by decide +kernel
theorem dX9_goesRoute_14 : decode cX9_goesRoute 14 = .ok (.getfield 62, 3) := by decide +kernel
theorem dX9_goesRoute_17 : decode cX9_goesRoute 17 = .ok (.bipush 7, 2) := by decide +kernel
theorem dX9_goesRoute_19 : decode cX9_goesRoute 19 = .ok (.iconst 0, 1) := by decide +kernel
theorem dX9_goesRoute_20 : decode cX9_goesRoute 20 = .ok (.iastore, 1) := by decide +kernel
theorem dX9_goesRoute_21 : decode cX9_goesRoute 21 = .ok (.iconst 0, 1) := by decide +kernel
theorem dX9_goesRoute_22 : decode cX9_goesRoute 22 = .ok (.istore_n 3, 1) := by decide +kernel
theorem dX9_goesRoute_23 : decode cX9_goesRoute 23 = .ok (.iload_n 3, 1) := by decide +kernel
theorem dX9_goesRoute_24 : decode cX9_goesRoute 24 = .ok (.iload_n 2, 1) := by decide +kernel
theorem dX9_goesRoute_25 : decode cX9_goesRoute 25 = .ok (.if_icmp .ge 77, 3) := by decide +kernel
theorem dX9_goesRoute_28 : decode cX9_goesRoute 28 = .ok (.aload_n 0, 1) := by decide +kernel
theorem dX9_goesRoute_29 : decode cX9_goesRoute 29 = .ok (.iload_n 1, 1) := by decide +kernel
theorem dX9_goesRoute_30 : decode cX9_goesRoute 30 = .ok (.iload_n 3, 1) := by decide +kernel
theorem dX9_goesRoute_31 : decode cX9_goesRoute 31 = .ok (.invokevirtual 208, 3) := by decide +kernel
theorem dX9_goesRoute_34 : decode cX9_goesRoute 34 = .ok (.istore 4, 2) := by decide +kernel
theorem dX9_goesRoute_36 : decode cX9_goesRoute 36 = .ok (.aload_n 0, 1) := by decide +kernel
theorem dX9_goesRoute_37 : decode cX9_goesRoute 37 = .ok (.iload 4, 2) := by decide +kernel
theorem dX9_goesRoute_39 : decode cX9_goesRoute 39 = .ok (.invokevirtual 188, 3) := by decide +kernel
theorem dX9_goesRoute_42 : decode cX9_goesRoute 42 = .ok (.ifCond .eq 19, 3) := by decide +kernel
theorem dX9_goesRoute_45 : decode cX9_goesRoute 45 = .ok (.aload_n 0, 1) := by decide +kernel
theorem dX9_goesRoute_46 : decode cX9_goesRoute 46 = .ok (.aload_n 0, 1) := by decide +kernel
theorem dX9_goesRoute_47 : decode cX9_goesRoute 47 = .ok (.getfield 41, 3) := by decide +kernel
theorem dX9_goesRoute_50 : decode cX9_goesRoute 50 = .ok (.bipush 7, 2) := by decide +kernel
theorem dX9_goesRoute_52 : decode cX9_goesRoute 52 = .ok (.iaload, 1) := by decide +kernel
theorem dX9_goesRoute_53 : decode cX9_goesRoute 53 = .ok (.iload 4, 2) := by decide +kernel
theorem dX9_goesRoute_55 : decode cX9_goesRoute 55 = .ok (.invokevirtual 143, 3) := by decide +kernel
theorem dX9_goesRoute_58 : decode cX9_goesRoute 58 = .ok (.goto 4, 3) := by decide +kernel
theorem dX9_goesRoute_61 : decode cX9_goesRoute 61 = .ok (.iconst (-1), 1) := by decide +kernel
theorem dX9_goesRoute_62 : decode cX9_goesRoute 62 = .ok (.istore 5, 2) := by decide +kernel
theorem dX9_goesRoute_64 : decode cX9_goesRoute 64 = .ok (.iload 5, 2) := by decide +kernel
theorem dX9_goesRoute_66 : decode cX9_goesRoute 66 = .ok (.ifCond .ge 5, 3) := by decide +kernel
theorem dX9_goesRoute_69 : decode cX9_goesRoute 69 = .ok (.iload_n 3, 1) := by decide +kernel
theorem dX9_goesRoute_70 : decode cX9_goesRoute 70 = .ok (.ireturn, 1) := by decide +kernel
theorem dX9_goesRoute_71 : decode cX9_goesRoute 71 = .ok (.aload_n 0, 1) := by decide +kernel
theorem dX9_goesRoute_72 : decode cX9_goesRoute 72 = .ok (.getfield 59, 3) := by decide +kernel
theorem dX9_goesRoute_75 : decode cX9_goesRoute 75 = .ok (.bipush 7, 2) := by decide +kernel
theorem dX9_goesRoute_77 : decode cX9_goesRoute 77 = .ok (.dup2, 1) := by decide +kernel
theorem dX9_goesRoute_78 : decode cX9_goesRoute 78 = .ok (.iaload, 1) := by decide +kernel
theorem dX9_goesRoute_79 : decode cX9_goesRoute 79 = .ok (.aload_n 0, 1) := by decide +kernel
theorem dX9_goesRoute_80 : decode cX9_goesRoute 80 = .ok (.getfield 28, 3) := by decide +kernel
theorem dX9_goesRoute_83 : decode cX9_goesRoute 83 = .ok (.iload 5, 2) := by decide +kernel
theorem dX9_goesRoute_85 : decode cX9_goesRoute 85 = .ok (.iaload, 1) := by decide +kernel
theorem dX9_goesRoute_86 : decode cX9_goesRoute 86 = .ok (.iadd, 1) := by decide +kernel
theorem dX9_goesRoute_87 : decode cX9_goesRoute 87 = .ok (.iastore, 1) := by decide +kernel
theorem dX9_goesRoute_88 : decode cX9_goesRoute 88 = .ok (.aload_n 0, 1) := by decide +kernel
theorem dX9_goesRoute_89 : decode cX9_goesRoute 89 = .ok (.bipush 7, 2) := by decide +kernel
theorem dX9_goesRoute_91 : decode cX9_goesRoute 91 = .ok (.iload 4, 2) := by decide +kernel
theorem dX9_goesRoute_93 : decode cX9_goesRoute 93 = .ok (.invokevirtual 154, 3) := by decide +kernel
theorem dX9_goesRoute_96 : decode cX9_goesRoute 96 = .ok (.iinc 3 1, 3) := by decide +kernel
theorem dX9_goesRoute_99 : decode cX9_goesRoute 99 = .ok (.goto (-76), 3) := by decide +kernel
theorem dX9_goesRoute_102 : decode cX9_goesRoute 102 = .ok (.iconst (-1), 1) := by decide +kernel
theorem dX9_goesRoute_103 : decode cX9_goesRoute 103 = .ok (.ireturn, 1) := by decide +kernel
theorem dX9_judge_0 : decode cX9_judge 0 = .ok (.aload_n 0, 1) := by decide +kernel
theorem dX9_judge_1 : decode cX9_judge 1 = .ok (.iload_n 1, 1) := by decide +kernel
theorem dX9_judge_2 : decode cX9_judge 2 = .ok (.iload_n 2, 1) := by decide +kernel
theorem dX9_judge_3 : decode cX9_judge 3 = .ok (.bipush 40, 2) := by decide +kernel
theorem dX9_judge_5 : decode cX9_judge 5 = .ok (.invokevirtual 310, 3) := by decide +kernel
theorem dX9_judge_8 : decode cX9_judge 8 = .ok (.istore_n 3, 1) := by decide +kernel
theorem dX9_judge_9 : decode cX9_judge 9 = .ok (.iload_n 3, 1) := by decide +kernel
theorem dX9_judge_10 : decode cX9_judge 10 = .ok (.ifCond .eq 11, 3) := by decide +kernel
theorem dX9_judge_13 : decode cX9_judge 13 = .ok (.aload_n 0, 1) := by decide +kernel
theorem dX9_judge_14 : decode cX9_judge 14 = .ok (.iload_n 3, 1) := by decide +kernel
theorem dX9_judge_15 : decode cX9_judge 15 = .ok (.invokevirtual 171, 3) := by decide +kernel
theorem dX9_judge_18 : decode cX9_judge 18 = .ok (.goto 9, 3) := by decide +kernel
theorem dX9_judge_21 : decode cX9_judge 21 = .ok (.aload_n 0, 1) := by decide +kernel
theorem dX9_judge_22 : decode cX9_judge 22 = .ok (.iload_n 1, 1) := by decide +kernel
theorem dX9_judge_23 : decode cX9_judge 23 = .ok (.iload_n 2, 1) := by decide +kernel
theorem dX9_judge_24 : decode cX9_judge 24 = .ok (.invokevirtual 313, 3) := by decide +kernel
theorem dX9_judge_27 : decode cX9_judge 27 = .ok (.ireturn, 1) := by decide +kernel
theorem dX9_minutes_0 : decode cX9_minutes 0 = .ok (.aload_n 0, 1) := by decide +kernel
theorem dX9_minutes_1 : decode cX9_minutes 1 = .ok (.iload_n 1, 1) := by decide +kernel
theorem dX9_minutes_2 : decode cX9_minutes 2 = .ok (.iload_n 2, 1) := by decide +kernel
theorem dX9_minutes_3 : decode cX9_minutes 3 = .ok (.bipush 40, 2) := by decide +kernel
theorem dX9_minutes_5 : decode cX9_minutes 5 = .ok (.invokevirtual 310, 3) := by decide +kernel
theorem dX9_minutes_8 : decode cX9_minutes 8 = .ok (.istore_n 3, 1) := by decide +kernel
theorem dX9_minutes_9 : decode cX9_minutes 9 = .ok (.iload_n 3, 1) := by decide +kernel
theorem dX9_minutes_10 : decode cX9_minutes 10 = .ok (.ifCond .ne 15, 3) := by decide +kernel
theorem dX9_minutes_13 : decode cX9_minutes 13 = .ok (.aload_n 0, 1) := by decide +kernel
theorem dX9_minutes_14 : decode cX9_minutes 14 = .ok (.iload_n 1, 1) := by decide +kernel
theorem dX9_minutes_15 : decode cX9_minutes 15 = .ok (.iload_n 2, 1) := by decide +kernel
theorem dX9_minutes_16 : decode cX9_minutes 16 = .ok (.invokevirtual 313, 3) := by decide +kernel
theorem dX9_minutes_19 : decode cX9_minutes 19 = .ok (.ifCond .lt 6, 3) := by decide +kernel
theorem dX9_minutes_22 : decode cX9_minutes 22 = .ok (.bipush (-6), 2) := by decide +kernel
theorem dX9_minutes_24 : decode cX9_minutes 24 = .ok (.istore_n 3, 1) := by decide +kernel
theorem dX9_minutes_25 : decode cX9_minutes 25 = .ok (.iload_n 3, 1) := by decide +kernel
theorem dX9_minutes_26 : decode cX9_minutes 26 = .ok (.ifCond .eq 11, 3) := by decide +kernel
theorem dX9_minutes_29 : decode cX9_minutes 29 = .ok (.aload_n 0, 1) := by decide +kernel
theorem dX9_minutes_30 : decode cX9_minutes 30 = .ok (.iload_n 3, 1) := by decide +kernel
theorem dX9_minutes_31 : decode cX9_minutes 31 = .ok (.invokevirtual 171, 3) := by decide +kernel
theorem dX9_minutes_34 : decode cX9_minutes 34 = .ok (.goto 10, 3) := by decide +kernel
theorem dX9_minutes_37 : decode cX9_minutes 37 = .ok (.aload_n 0, 1) := by decide +kernel
theorem dX9_minutes_38 : decode cX9_minutes 38 = .ok (.getfield 59, 3) := by decide +kernel
theorem dX9_minutes_41 : decode cX9_minutes 41 = .ok (.bipush 7, 2) := by decide +kernel
theorem dX9_minutes_43 : decode cX9_minutes 43 = .ok (.iaload, 1) := by decide +kernel
theorem dX9_minutes_44 : decode cX9_minutes 44 = .ok (.ireturn, 1) := by decide +kernel
theorem dX9_hears_0 : decode cX9_hears 0 = .ok (.aload_n 0, 1) := by decide +kernel
theorem dX9_hears_1 : decode cX9_hears 1 = .ok (.iload_n 3, 1) := by decide +kernel
theorem dX9_hears_2 : decode cX9_hears 2 = .ok (.invokevirtual 188, 3) := by decide +kernel
theorem dX9_hears_5 : decode cX9_hears 5 = .ok (.ifCond .ne 7, 3) := by decide +kernel
theorem dX9_hears_8 : decode cX9_hears 8 = .ok (.iconst (-1), 1) := by decide +kernel
theorem dX9_hears_9 : decode cX9_hears 9 = .ok (.goto 11, 3) := by decide +kernel
theorem dX9_hears_12 : decode cX9_hears 12 = .ok (.aload_n 0, 1) := by decide +kernel
theorem dX9_hears_13 : decode cX9_hears 13 = .ok (.iload_n 1, 1) := by decide +kernel
theorem dX9_hears_14 : decode cX9_hears 14 = .ok (.iload_n 2, 1) := by decide +kernel
theorem dX9_hears_15 : decode cX9_hears 15 = .ok (.bipush 40, 2) := by decide +kernel
theorem dX9_hears_17 : decode cX9_hears 17 = .ok (.invokevirtual 310, 3) := by decide +kernel
theorem dX9_hears_20 : decode cX9_hears 20 = .ok (.istore 4, 2) := by decide +kernel
theorem dX9_hears_22 : decode cX9_hears 22 = .ok (.iload 4, 2) := by decide +kernel
theorem dX9_hears_24 : decode cX9_hears 24 = .ok (.ifCond .ne 16, 3) := by decide +kernel
theorem dX9_hears_27 : decode cX9_hears 27 = .ok (.aload_n 0, 1) := by decide +kernel
theorem dX9_hears_28 : decode cX9_hears 28 = .ok (.iload_n 1, 1) := by decide +kernel
theorem dX9_hears_29 : decode cX9_hears 29 = .ok (.iload_n 2, 1) := by decide +kernel
theorem dX9_hears_30 : decode cX9_hears 30 = .ok (.invokevirtual 313, 3) := by decide +kernel
theorem dX9_hears_33 : decode cX9_hears 33 = .ok (.ifCond .lt 7, 3) := by decide +kernel
theorem dX9_hears_36 : decode cX9_hears 36 = .ok (.bipush (-6), 2) := by decide +kernel
theorem dX9_hears_38 : decode cX9_hears 38 = .ok (.istore 4, 2) := by decide +kernel
theorem dX9_hears_40 : decode cX9_hears 40 = .ok (.iload 4, 2) := by decide +kernel
theorem dX9_hears_42 : decode cX9_hears 42 = .ok (.ifCond .eq 12, 3) := by decide +kernel
theorem dX9_hears_45 : decode cX9_hears 45 = .ok (.aload_n 0, 1) := by decide +kernel
theorem dX9_hears_46 : decode cX9_hears 46 = .ok (.iload 4, 2) := by decide +kernel
theorem dX9_hears_48 : decode cX9_hears 48 = .ok (.invokevirtual 171, 3) := by decide +kernel
theorem dX9_hears_51 : decode cX9_hears 51 = .ok (.goto 12, 3) := by decide +kernel
theorem dX9_hears_54 : decode cX9_hears 54 = .ok (.aload_n 0, 1) := by decide +kernel
theorem dX9_hears_55 : decode cX9_hears 55 = .ok (.getfield 50, 3) := by decide +kernel
theorem dX9_hears_58 : decode cX9_hears 58 = .ok (.bipush 56, 2) := by decide +kernel
theorem dX9_hears_60 : decode cX9_hears 60 = .ok (.iload_n 3, 1) := by decide +kernel
theorem dX9_hears_61 : decode cX9_hears 61 = .ok (.iadd, 1) := by decide +kernel
theorem dX9_hears_62 : decode cX9_hears 62 = .ok (.iaload, 1) := by decide +kernel
theorem dX9_hears_63 : decode cX9_hears 63 = .ok (.ireturn, 1) := by decide +kernel
theorem dX9_other_0 : decode cX9_other 0 = .ok (.aload_n 0, 1) := by decide +kernel
theorem dX9_other_1 : decode cX9_other 1 = .ok (.iload_n 1, 1) := by decide +kernel
theorem dX9_other_2 : decode cX9_other 2 = .ok (.iload_n 2, 1) := by decide +kernel
theorem dX9_other_3 : decode cX9_other 3 = .ok (.bipush 40, 2) := by decide +kernel
theorem dX9_other_5 : decode cX9_other 5 = .ok (.invokevirtual 310, 3) := by decide +kernel
theorem dX9_other_8 : decode cX9_other 8 = .ok (.istore 4, 2) := by decide +kernel
theorem dX9_other_10 : decode cX9_other 10 = .ok (.iload 4, 2) := by decide +kernel
theorem dX9_other_12 : decode cX9_other 12 = .ok (.ifCond .ne 25, 3) := by decide +kernel
theorem dX9_other_15 : decode cX9_other 15 = .ok (.iload_n 3, 1) := by decide +kernel
theorem dX9_other_16 : decode cX9_other 16 = .ok (.iconst 1, 1) := by decide +kernel
theorem dX9_other_17 : decode cX9_other 17 = .ok (.iconst 3, 1) := by decide +kernel
theorem dX9_other_18 : decode cX9_other 18 = .ok (.invokestatic 167, 3) := by decide +kernel
theorem dX9_other_21 : decode cX9_other 21 = .ok (.ifCond .eq 12, 3) := by decide +kernel
theorem dX9_other_24 : decode cX9_other 24 = .ok (.aload_n 0, 1) := by decide +kernel
theorem dX9_other_25 : decode cX9_other 25 = .ok (.iload_n 1, 1) := by decide +kernel
theorem dX9_other_26 : decode cX9_other 26 = .ok (.iload_n 2, 1) := by decide +kernel
theorem dX9_other_27 : decode cX9_other 27 = .ok (.invokevirtual 313, 3) := by decide +kernel
theorem dX9_other_30 : decode cX9_other 30 = .ok (.ifCond .lt 7, 3) := by decide +kernel
theorem dX9_other_33 : decode cX9_other 33 = .ok (.bipush (-6), 2) := by decide +kernel
theorem dX9_other_35 : decode cX9_other 35 = .ok (.istore 4, 2) := by decide +kernel
theorem dX9_other_37 : decode cX9_other 37 = .ok (.iload 4, 2) := by decide +kernel
theorem dX9_other_39 : decode cX9_other 39 = .ok (.ifCond .eq 10, 3) := by decide +kernel
theorem dX9_other_42 : decode cX9_other 42 = .ok (.aload_n 0, 1) := by decide +kernel
theorem dX9_other_43 : decode cX9_other 43 = .ok (.iload 4, 2) := by decide +kernel
theorem dX9_other_45 : decode cX9_other 45 = .ok (.invokevirtual 171, 3) := by decide +kernel
theorem dX9_other_48 : decode cX9_other 48 = .ok (.ireturn, 1) := by decide +kernel
theorem dX9_other_49 : decode cX9_other 49 = .ok (.aload_n 0, 1) := by decide +kernel
theorem dX9_other_50 : decode cX9_other 50 = .ok (.getfield 56, 3) := by decide +kernel
theorem dX9_other_53 : decode cX9_other 53 = .ok (.iconst 0, 1) := by decide +kernel
theorem dX9_other_54 : decode cX9_other 54 = .ok (.iaload, 1) := by decide +kernel
theorem dX9_other_55 : decode cX9_other 55 = .ok (.istore 5, 2) := by decide +kernel
theorem dX9_other_57 : decode cX9_other 57 = .ok (.aload_n 0, 1) := by decide +kernel
theorem dX9_other_58 : decode cX9_other 58 = .ok (.getfield 56, 3) := by decide +kernel
theorem dX9_other_61 : decode cX9_other 61 = .ok (.iconst 0, 1) := by decide +kernel
theorem dX9_other_62 : decode cX9_other 62 = .ok (.iconst 0, 1) := by decide +kernel
theorem dX9_other_63 : decode cX9_other 63 = .ok (.iastore, 1) := by decide +kernel
theorem dX9_other_64 : decode cX9_other 64 = .ok (.aload_n 0, 1) := by decide +kernel
theorem dX9_other_65 : decode cX9_other 65 = .ok (.iload_n 3, 1) := by decide +kernel
theorem dX9_other_66 : decode cX9_other 66 = .ok (.putfield 69, 3) := by decide +kernel
theorem dX9_other_69 : decode cX9_other 69 = .ok (.aload_n 0, 1) := by decide +kernel
theorem dX9_other_70 : decode cX9_other 70 = .ok (.iload_n 1, 1) := by decide +kernel
theorem dX9_other_71 : decode cX9_other 71 = .ok (.iload_n 2, 1) := by decide +kernel
theorem dX9_other_72 : decode cX9_other 72 = .ok (.invokevirtual 313, 3) := by decide +kernel
theorem dX9_other_75 : decode cX9_other 75 = .ok (.pop, 1) := by decide +kernel
theorem dX9_other_76 : decode cX9_other 76 = .ok (.aload_n 0, 1) := by decide +kernel
theorem dX9_other_77 : decode cX9_other 77 = .ok (.getfield 56, 3) := by decide +kernel
theorem dX9_other_80 : decode cX9_other 80 = .ok (.iconst 0, 1) := by decide +kernel
theorem dX9_other_81 : decode cX9_other 81 = .ok (.iload 5, 2) := by decide +kernel
theorem dX9_other_83 : decode cX9_other 83 = .ok (.iastore, 1) := by decide +kernel
theorem dX9_other_84 : decode cX9_other 84 = .ok (.aload_n 0, 1) := by decide +kernel
theorem dX9_other_85 : decode cX9_other 85 = .ok (.aload_n 0, 1) := by decide +kernel
theorem dX9_other_86 : decode cX9_other 86 = .ok (.getfield 34, 3) := by decide +kernel
theorem dX9_other_89 : decode cX9_other 89 = .ok (.putfield 69, 3) := by decide +kernel
theorem dX9_other_92 : decode cX9_other 92 = .ok (.aload_n 0, 1) := by decide +kernel
theorem dX9_other_93 : decode cX9_other 93 = .ok (.getfield 62, 3) := by decide +kernel
theorem dX9_other_96 : decode cX9_other 96 = .ok (.bipush 7, 2) := by decide +kernel
theorem dX9_other_98 : decode cX9_other 98 = .ok (.iaload, 1) := by decide +kernel
theorem dX9_other_99 : decode cX9_other 99 = .ok (.ireturn, 1) := by decide +kernel
theorem dX9_takesBest_0 : decode cX9_takesBest 0 = .ok (.aload_n 0, 1) := by decide +kernel
theorem dX9_takesBest_1 : decode cX9_takesBest 1 = .ok (.aload_n 0, 1) := by decide +kernel
theorem dX9_takesBest_2 : decode cX9_takesBest 2 = .ok (.getfield 59, 3) := by decide +kernel
theorem dX9_takesBest_5 : decode cX9_takesBest 5 = .ok (.aload_n 0, 1) := by decide +kernel
theorem dX9_takesBest_6 : decode cX9_takesBest 6 = .ok (.getfield 123, 3) := by decide +kernel
theorem dX9_takesBest_9 : decode cX9_takesBest 9 = .ok (.iaload, 1) := by decide +kernel
theorem dX9_takesBest_10 : decode cX9_takesBest 10 = .ok (.putfield 316, 3) := by decide +kernel
theorem dX9_takesBest_13 : decode cX9_takesBest 13 = .ok (.aload_n 0, 1) := by decide +kernel
theorem dX9_takesBest_14 : decode cX9_takesBest 14 = .ok (.aload_n 0, 1) := by decide +kernel
theorem dX9_takesBest_15 : decode cX9_takesBest 15 = .ok (.getfield 123, 3) := by decide +kernel
theorem dX9_takesBest_18 : decode cX9_takesBest 18 = .ok (.putfield 319, 3) := by decide +kernel
theorem dX9_takesBest_21 : decode cX9_takesBest 21 = .ok (.iconst 0, 1) := by decide +kernel
theorem dX9_takesBest_22 : decode cX9_takesBest 22 = .ok (.istore_n 1, 1) := by decide +kernel
theorem dX9_takesBest_23 : decode cX9_takesBest 23 = .ok (.iload_n 1, 1) := by decide +kernel
theorem dX9_takesBest_24 : decode cX9_takesBest 24 = .ok (.aload_n 0, 1) := by decide +kernel
theorem dX9_takesBest_25 : decode cX9_takesBest 25 = .ok (.getfield 123, 3) := by decide +kernel
theorem dX9_takesBest_28 : decode cX9_takesBest 28 = .ok (.if_icmp .ge 23, 3) := by decide +kernel
theorem dX9_takesBest_31 : decode cX9_takesBest 31 = .ok (.aload_n 0, 1) := by decide +kernel
theorem dX9_takesBest_32 : decode cX9_takesBest 32 = .ok (.getfield 96, 3) := by decide +kernel
theorem dX9_takesBest_35 : decode cX9_takesBest 35 = .ok (.iload_n 1, 1) := by decide +kernel
theorem dX9_takesBest_36 : decode cX9_takesBest 36 = .ok (.aload_n 0, 1) := by decide +kernel
theorem dX9_takesBest_37 : decode cX9_takesBest 37 = .ok (.getfield 41, 3) := by decide +kernel
theorem dX9_takesBest_40 : decode cX9_takesBest 40 = .ok (.iload_n 1, 1) := by decide +kernel
theorem dX9_takesBest_41 : decode cX9_takesBest 41 = .ok (.iconst 1, 1) := by decide +kernel
theorem dX9_takesBest_42 : decode cX9_takesBest 42 = .ok (.iadd, 1) := by decide +kernel
theorem dX9_takesBest_43 : decode cX9_takesBest 43 = .ok (.iaload, 1) := by decide +kernel
theorem dX9_takesBest_44 : decode cX9_takesBest 44 = .ok (.iastore, 1) := by decide +kernel
theorem dX9_takesBest_45 : decode cX9_takesBest 45 = .ok (.iinc 1 1, 3) := by decide +kernel
theorem dX9_takesBest_48 : decode cX9_takesBest 48 = .ok (.goto (-25), 3) := by decide +kernel
theorem dX9_takesBest_51 : decode cX9_takesBest 51 = .ok (.return_, 1) := by decide +kernel
theorem dX9_isBetter_0 : decode cX9_isBetter 0 = .ok (.aload_n 0, 1) := by decide +kernel
theorem dX9_isBetter_1 : decode cX9_isBetter 1 = .ok (.getfield 319, 3) := by decide +kernel
theorem dX9_isBetter_4 : decode cX9_isBetter 4 = .ok (.ifCond .lt 46, 3) := by decide +kernel
theorem dX9_isBetter_7 : decode cX9_isBetter 7 = .ok (.aload_n 0, 1) := by decide +kernel
theorem dX9_isBetter_8 : decode cX9_isBetter 8 = .ok (.getfield 59, 3) := by decide +kernel
theorem dX9_isBetter_11 : decode cX9_isBetter 11 = .ok (.aload_n 0, 1) := by decide +kernel
theorem dX9_isBetter_12 : decode cX9_isBetter 12 = .ok (.getfield 123, 3) := by decide +kernel
theorem dX9_isBetter_15 : decode cX9_isBetter 15 = .ok (.iaload, 1) := by decide +kernel
theorem dX9_isBetter_16 : decode cX9_isBetter 16 = .ok (.aload_n 0, 1) := by decide +kernel
theorem dX9_isBetter_17 : decode cX9_isBetter 17 = .ok (.getfield 316, 3) := by decide +kernel
theorem dX9_isBetter_20 : decode cX9_isBetter 20 = .ok (.if_icmp .lt 30, 3) := by decide +kernel
theorem dX9_isBetter_23 : decode cX9_isBetter 23 = .ok (.aload_n 0, 1) := by decide +kernel
theorem dX9_isBetter_24 : decode cX9_isBetter 24 = .ok (.getfield 59, 3) := by decide +kernel
theorem dX9_isBetter_27 : decode cX9_isBetter 27 = .ok (.aload_n 0, 1) := by decide +kernel
theorem dX9_isBetter_28 : decode cX9_isBetter 28 = .ok (.getfield 123, 3) := by decide +kernel
theorem dX9_isBetter_31 : decode cX9_isBetter 31 = .ok (.iaload, 1) := by decide +kernel
theorem dX9_isBetter_32 : decode cX9_isBetter 32 = .ok (.aload_n 0, 1) := by decide +kernel
theorem dX9_isBetter_33 : decode cX9_isBetter 33 = .ok (.getfield 316, 3) := by decide +kernel
theorem dX9_isBetter_36 : decode cX9_isBetter 36 = .ok (.if_icmp .ne 18, 3) := by decide +kernel
theorem dX9_isBetter_39 : decode cX9_isBetter 39 = .ok (.aload_n 0, 1) := by decide +kernel
theorem dX9_isBetter_40 : decode cX9_isBetter 40 = .ok (.getfield 123, 3) := by decide +kernel
theorem dX9_isBetter_43 : decode cX9_isBetter 43 = .ok (.aload_n 0, 1) := by decide +kernel
theorem dX9_isBetter_44 : decode cX9_isBetter 44 = .ok (.getfield 319, 3) := by decide +kernel
theorem dX9_isBetter_47 : decode cX9_isBetter 47 = .ok (.if_icmp .ge 7, 3) := by decide +kernel
theorem dX9_isBetter_50 : decode cX9_isBetter 50 = .ok (.iconst 1, 1) := by decide +kernel
theorem dX9_isBetter_51 : decode cX9_isBetter 51 = .ok (.goto 4, 3) := by decide +kernel
theorem dX9_isBetter_54 : decode cX9_isBetter 54 = .ok (.iconst 0, 1) := by decide +kernel
theorem dX9_isBetter_55 : decode cX9_isBetter 55 = .ok (.ireturn, 1) := by decide +kernel
theorem dX9_toldOf_0 : decode cX9_toldOf 0 = .ok (.aload_n 0, 1) := by decide +kernel
theorem dX9_toldOf_1 : decode cX9_toldOf 1 = .ok (.getfield 319, 3) := by decide +kernel
theorem dX9_toldOf_4 : decode cX9_toldOf 4 = .ok (.ifCond .ge 5, 3) := by decide +kernel
theorem dX9_toldOf_7 : decode cX9_toldOf 7 = .ok (.iconst (-1), 1) := by decide +kernel
theorem dX9_toldOf_8 : decode cX9_toldOf 8 = .ok (.ireturn, 1) := by decide +kernel
theorem dX9_toldOf_9 : decode cX9_toldOf 9 = .ok (.iload_n 1, 1) := by decide +kernel
theorem dX9_toldOf_10 : decode cX9_toldOf 10 = .ok (.ifCond .ne 10, 3) := by decide +kernel
theorem dX9_toldOf_13 : decode cX9_toldOf 13 = .ok (.aload_n 0, 1) := by decide +kernel
theorem dX9_toldOf_14 : decode cX9_toldOf 14 = .ok (.getfield 316, 3) := by decide +kernel
theorem dX9_toldOf_17 : decode cX9_toldOf 17 = .ok (.goto 37, 3) := by decide +kernel
theorem dX9_toldOf_20 : decode cX9_toldOf 20 = .ok (.iload_n 1, 1) := by decide +kernel
theorem dX9_toldOf_21 : decode cX9_toldOf 21 = .ok (.iconst 1, 1) := by decide +kernel
theorem dX9_toldOf_22 : decode cX9_toldOf 22 = .ok (.if_icmp .ne 10, 3) := by decide +kernel
theorem dX9_toldOf_25 : decode cX9_toldOf 25 = .ok (.aload_n 0, 1) := by decide +kernel
theorem dX9_toldOf_26 : decode cX9_toldOf 26 = .ok (.getfield 319, 3) := by decide +kernel
theorem dX9_toldOf_29 : decode cX9_toldOf 29 = .ok (.goto 25, 3) := by decide +kernel
theorem dX9_toldOf_32 : decode cX9_toldOf 32 = .ok (.iload_n 1, 1) := by decide +kernel
theorem dX9_toldOf_33 : decode cX9_toldOf 33 = .ok (.iconst 2, 1) := by decide +kernel
theorem dX9_toldOf_34 : decode cX9_toldOf 34 = .ok (.isub, 1) := by decide +kernel
theorem dX9_toldOf_35 : decode cX9_toldOf 35 = .ok (.aload_n 0, 1) := by decide +kernel
theorem dX9_toldOf_36 : decode cX9_toldOf 36 = .ok (.getfield 319, 3) := by decide +kernel
theorem dX9_toldOf_39 : decode cX9_toldOf 39 = .ok (.if_icmp .ge 14, 3) := by decide +kernel
theorem dX9_toldOf_42 : decode cX9_toldOf 42 = .ok (.aload_n 0, 1) := by decide +kernel
theorem dX9_toldOf_43 : decode cX9_toldOf 43 = .ok (.getfield 96, 3) := by decide +kernel
theorem dX9_toldOf_46 : decode cX9_toldOf 46 = .ok (.iload_n 1, 1) := by decide +kernel
theorem dX9_toldOf_47 : decode cX9_toldOf 47 = .ok (.iconst 2, 1) := by decide +kernel
theorem dX9_toldOf_48 : decode cX9_toldOf 48 = .ok (.isub, 1) := by decide +kernel
theorem dX9_toldOf_49 : decode cX9_toldOf 49 = .ok (.iaload, 1) := by decide +kernel
theorem dX9_toldOf_50 : decode cX9_toldOf 50 = .ok (.goto 4, 3) := by decide +kernel
theorem dX9_toldOf_53 : decode cX9_toldOf 53 = .ok (.iconst (-1), 1) := by decide +kernel
theorem dX9_toldOf_54 : decode cX9_toldOf 54 = .ok (.ireturn, 1) := by decide +kernel
theorem dX9_aim_0 : decode cX9_aim 0 = .ok (.aload_n 0, 1) := by decide +kernel
theorem dX9_aim_1 : decode cX9_aim 1 = .ok (.iload_n 1, 1) := by decide +kernel
theorem dX9_aim_2 : decode cX9_aim 2 = .ok (.invokevirtual 188, 3) := by decide +kernel
theorem dX9_aim_5 : decode cX9_aim 5 = .ok (.ifCond .eq 11, 3) := by decide +kernel
theorem dX9_aim_8 : decode cX9_aim 8 = .ok (.aload_n 0, 1) := by decide +kernel
theorem dX9_aim_9 : decode cX9_aim 9 = .ok (.iload_n 2, 1) := by decide +kernel
theorem dX9_aim_10 : decode cX9_aim 10 = .ok (.invokevirtual 188, 3) := by decide +kernel
theorem dX9_aim_13 : decode cX9_aim 13 = .ok (.ifCond .ne 9, 3) := by decide +kernel
theorem dX9_aim_16 : decode cX9_aim 16 = .ok (.aload_n 0, 1) := by decide +kernel
theorem dX9_aim_17 : decode cX9_aim 17 = .ok (.iconst (-1), 1) := by decide +kernel
theorem dX9_aim_18 : decode cX9_aim 18 = .ok (.invokevirtual 300, 3) := by decide +kernel
theorem dX9_aim_21 : decode cX9_aim 21 = .ok (.ireturn, 1) := by decide +kernel
theorem dX9_aim_22 : decode cX9_aim 22 = .ok (.iload 5, 2) := by decide +kernel
theorem dX9_aim_24 : decode cX9_aim 24 = .ok (.ifCond .ge 10, 3) := by decide +kernel
theorem dX9_aim_27 : decode cX9_aim 27 = .ok (.aload_n 0, 1) := by decide +kernel
theorem dX9_aim_28 : decode cX9_aim 28 = .ok (.bipush (-5), 2) := by decide +kernel
theorem dX9_aim_30 : decode cX9_aim 30 = .ok (.invokevirtual 300, 3) := by decide +kernel
theorem dX9_aim_33 : decode cX9_aim 33 = .ok (.ireturn, 1) := by decide +kernel
theorem dX9_aim_34 : decode cX9_aim 34 = .ok (.iload_n 3, 1) := by decide +kernel
theorem dX9_aim_35 : decode cX9_aim 35 = .ok (.invokestatic 195, 3) := by decide +kernel
theorem dX9_aim_38 : decode cX9_aim 38 = .ok (.ifCond .eq 23, 3) := by decide +kernel
theorem dX9_aim_41 : decode cX9_aim 41 = .ok (.iload 4, 2) := by decide +kernel
theorem dX9_aim_43 : decode cX9_aim 43 = .ok (.iconst 1, 1) := by decide +kernel
theorem dX9_aim_44 : decode cX9_aim 44 = .ok (.bipush 6, 2) := by decide +kernel
theorem dX9_aim_46 : decode cX9_aim 46 = .ok (.invokestatic 167, 3) := by decide +kernel
theorem dX9_aim_49 : decode cX9_aim 49 = .ok (.ifCond .eq 12, 3) := by decide +kernel
theorem dX9_aim_52 : decode cX9_aim 52 = .ok (.aload_n 0, 1) := by decide +kernel
theorem dX9_aim_53 : decode cX9_aim 53 = .ok (.getfield 41, 3) := by decide +kernel
theorem dX9_aim_56 : decode cX9_aim 56 = .ok (.iconst 0, 1) := by decide +kernel
theorem dX9_aim_57 : decode cX9_aim 57 = .ok (.iaload, 1) := by decide +kernel
theorem dX9_aim_58 : decode cX9_aim 58 = .ok (.ifCond .ge 10, 3) := by decide +kernel
theorem dX9_aim_61 : decode cX9_aim 61 = .ok (.aload_n 0, 1) := by decide +kernel
theorem dX9_aim_62 : decode cX9_aim 62 = .ok (.bipush (-6), 2) := by decide +kernel
theorem dX9_aim_64 : decode cX9_aim 64 = .ok (.invokevirtual 300, 3) := by decide +kernel
theorem dX9_aim_67 : decode cX9_aim 67 = .ok (.ireturn, 1) := by decide +kernel
theorem dX9_aim_68 : decode cX9_aim 68 = .ok (.aload_n 0, 1) := by decide +kernel
theorem dX9_aim_69 : decode cX9_aim 69 = .ok (.iconst (-1), 1) := by decide +kernel
theorem dX9_aim_70 : decode cX9_aim 70 = .ok (.putfield 319, 3) := by decide +kernel
theorem dX9_aim_73 : decode cX9_aim 73 = .ok (.aload_n 0, 1) := by decide +kernel
theorem dX9_aim_74 : decode cX9_aim 74 = .ok (.iload 4, 2) := by decide +kernel
theorem dX9_aim_76 : decode cX9_aim 76 = .ok (.iconst 0, 1) := by decide +kernel
theorem dX9_aim_77 : decode cX9_aim 77 = .ok (.invokevirtual 322, 3) := by decide +kernel
theorem dX9_aim_80 : decode cX9_aim 80 = .ok (.aload_n 0, 1) := by decide +kernel
theorem dX9_aim_81 : decode cX9_aim 81 = .ok (.invokevirtual 325, 3) := by decide +kernel
theorem dX9_aim_84 : decode cX9_aim 84 = .ok (.ifCond .eq 73, 3) := by decide +kernel
theorem dX9_aim_87 : decode cX9_aim 87 = .ok (.aload_n 0, 1) := by decide +kernel
theorem dX9_aim_88 : decode cX9_aim 88 = .ok (.aload_n 0, 1) := by decide +kernel
theorem dX9_aim_89 : decode cX9_aim 89 = .ok (.getfield 50, 3) := by decide +kernel
theorem dX9_aim_92 : decode cX9_aim 92 = .ok (.bipush 8, 2) := by decide +kernel
theorem dX9_aim_94 : decode cX9_aim 94 = .ok (.aload_n 0, 1) := by decide +kernel
theorem dX9_aim_95 : decode cX9_aim 95 = .ok (.getfield 123, 3) := by decide +kernel
theorem dX9_aim_98 : decode cX9_aim 98 = .ok (.imul, 1) := by decide +kernel
theorem dX9_aim_99 : decode cX9_aim 99 = .ok (.iload_n 2, 1) := by decide +kernel
theorem dX9_aim_100 : decode cX9_aim 100 = .ok (.iadd, 1) := by decide +kernel
theorem dX9_aim_101 : decode cX9_aim 101 = .ok (.iaload, 1) := by decide +kernel
theorem dX9_aim_102 : decode cX9_aim 102 = .ok (.iload_n 3, 1) := by decide +kernel
theorem dX9_aim_103 : decode cX9_aim 103 = .ok (.iand, 1) := by decide +kernel
theorem dX9_aim_104 : decode cX9_aim 104 = .ok (.ifCond .eq 7, 3) := by decide +kernel
theorem dX9_aim_107 : decode cX9_aim 107 = .ok (.iconst 1, 1) := by decide +kernel
theorem dX9_aim_108 : decode cX9_aim 108 = .ok (.goto 4, 3) := by decide +kernel
theorem dX9_aim_111 : decode cX9_aim 111 = .ok (.iconst 0, 1) := by decide +kernel
theorem dX9_aim_112 : decode cX9_aim 112 = .ok (.putfield 133, 3) := by decide +kernel
theorem dX9_aim_115 : decode cX9_aim 115 = .ok (.aload_n 0, 1) := by decide +kernel
theorem dX9_aim_116 : decode cX9_aim 116 = .ok (.getfield 133, 3) := by decide +kernel
theorem dX9_aim_119 : decode cX9_aim 119 = .ok (.ifCond .ne (-39), 3) := by decide +kernel
theorem dX9_aim_122 : decode cX9_aim 122 = .ok (.iload_n 3, 1) := by decide +kernel
theorem dX9_aim_123 : decode cX9_aim 123 = .ok (.aload_n 0, 1) := by decide +kernel
theorem dX9_aim_124 : decode cX9_aim 124 = .ok (.getfield 50, 3) := by decide +kernel
theorem dX9_aim_127 : decode cX9_aim 127 = .ok (.bipush 8, 2) := by decide +kernel
theorem dX9_aim_129 : decode cX9_aim 129 = .ok (.aload_n 0, 1) := by decide +kernel
theorem dX9_aim_130 : decode cX9_aim 130 = .ok (.getfield 123, 3) := by decide +kernel
theorem dX9_aim_133 : decode cX9_aim 133 = .ok (.imul, 1) := by decide +kernel
theorem dX9_aim_134 : decode cX9_aim 134 = .ok (.iload_n 1, 1) := by decide +kernel
theorem dX9_aim_135 : decode cX9_aim 135 = .ok (.iadd, 1) := by decide +kernel
theorem dX9_aim_136 : decode cX9_aim 136 = .ok (.iaload, 1) := by decide +kernel
theorem dX9_aim_137 : decode cX9_aim 137 = .ok (.iconst (-1), 1) := by decide +kernel
theorem dX9_aim_138 : decode cX9_aim 138 = .ok (.ixor, 1) := by decide +kernel
theorem dX9_aim_139 : decode cX9_aim 139 = .ok (.iand, 1) := by decide +kernel
theorem dX9_aim_140 : decode cX9_aim 140 = .ok (.ifCond .ne (-60), 3) := by decide +kernel
theorem dX9_aim_143 : decode cX9_aim 143 = .ok (.aload_n 0, 1) := by decide +kernel
theorem dX9_aim_144 : decode cX9_aim 144 = .ok (.invokevirtual 328, 3) := by decide +kernel
theorem dX9_aim_147 : decode cX9_aim 147 = .ok (.ifCond .eq (-67), 3) := by decide +kernel
theorem dX9_aim_150 : decode cX9_aim 150 = .ok (.aload_n 0, 1) := by decide +kernel
theorem dX9_aim_151 : decode cX9_aim 151 = .ok (.invokevirtual 331, 3) := by decide +kernel
theorem dX9_aim_154 : decode cX9_aim 154 = .ok (.goto (-74), 3) := by decide +kernel
theorem dX9_aim_157 : decode cX9_aim 157 = .ok (.aload_n 0, 1) := by decide +kernel
theorem dX9_aim_158 : decode cX9_aim 158 = .ok (.iload 5, 2) := by decide +kernel
theorem dX9_aim_160 : decode cX9_aim 160 = .ok (.invokevirtual 334, 3) := by decide +kernel
theorem dX9_aim_163 : decode cX9_aim 163 = .ok (.ireturn, 1) := by decide +kernel
theorem dX9_doAllHear_0 : decode cX9_doAllHear 0 = .ok (.iconst 0, 1) := by decide +kernel
theorem dX9_doAllHear_1 : decode cX9_doAllHear 1 = .ok (.istore_n 3, 1) := by decide +kernel
theorem dX9_doAllHear_2 : decode cX9_doAllHear 2 = .ok (.iload_n 3, 1) := by decide +kernel
theorem dX9_doAllHear_3 : decode cX9_doAllHear 3 = .ok (.aload_n 0, 1) := by decide +kernel
theorem dX9_doAllHear_4 : decode cX9_doAllHear 4 = .ok (.getfield 102, 3) := by decide +kernel
theorem dX9_doAllHear_7 : decode cX9_doAllHear 7 = .ok (.if_icmp .ge 41, 3) := by decide +kernel
theorem dX9_doAllHear_10 : decode cX9_doAllHear 10 = .ok (.iload_n 1, 1) := by decide +kernel
theorem dX9_doAllHear_11 : decode cX9_doAllHear 11 = .ok (.iload_n 3, 1) := by decide +kernel
theorem dX9_doAllHear_12 : decode cX9_doAllHear 12 = .ok (.ishr, 1) := by decide +kernel
theorem dX9_doAllHear_13 : decode cX9_doAllHear 13 = .ok (.iconst 1, 1) := by decide +kernel
theorem dX9_doAllHear_14 : decode cX9_doAllHear 14 = .ok (.iand, 1) := by decide +kernel
theorem dX9_doAllHear_15 : decode cX9_doAllHear 15 = .ok (.iconst 1, 1) := by decide +kernel
theorem dX9_doAllHear_16 : decode cX9_doAllHear 16 = .ok (.if_icmp .ne 26, 3) := by decide +kernel
theorem dX9_doAllHear_19 : decode cX9_doAllHear 19 = .ok (.iload_n 2, 1) := by decide +kernel
theorem dX9_doAllHear_20 : decode cX9_doAllHear 20 = .ok (.aload_n 0, 1) := by decide +kernel
theorem dX9_doAllHear_21 : decode cX9_doAllHear 21 = .ok (.getfield 50, 3) := by decide +kernel
theorem dX9_doAllHear_24 : decode cX9_doAllHear 24 = .ok (.bipush 8, 2) := by decide +kernel
theorem dX9_doAllHear_26 : decode cX9_doAllHear 26 = .ok (.aload_n 0, 1) := by decide +kernel
theorem dX9_doAllHear_27 : decode cX9_doAllHear 27 = .ok (.getfield 123, 3) := by decide +kernel
theorem dX9_doAllHear_30 : decode cX9_doAllHear 30 = .ok (.imul, 1) := by decide +kernel
theorem dX9_doAllHear_31 : decode cX9_doAllHear 31 = .ok (.iload_n 3, 1) := by decide +kernel
theorem dX9_doAllHear_32 : decode cX9_doAllHear 32 = .ok (.iadd, 1) := by decide +kernel
theorem dX9_doAllHear_33 : decode cX9_doAllHear 33 = .ok (.iaload, 1) := by decide +kernel
theorem dX9_doAllHear_34 : decode cX9_doAllHear 34 = .ok (.iconst (-1), 1) := by decide +kernel
theorem dX9_doAllHear_35 : decode cX9_doAllHear 35 = .ok (.ixor, 1) := by decide +kernel
theorem dX9_doAllHear_36 : decode cX9_doAllHear 36 = .ok (.iand, 1) := by decide +kernel
theorem dX9_doAllHear_37 : decode cX9_doAllHear 37 = .ok (.ifCond .eq 5, 3) := by decide +kernel
theorem dX9_doAllHear_40 : decode cX9_doAllHear 40 = .ok (.iconst 0, 1) := by decide +kernel
theorem dX9_doAllHear_41 : decode cX9_doAllHear 41 = .ok (.ireturn, 1) := by decide +kernel
theorem dX9_doAllHear_42 : decode cX9_doAllHear 42 = .ok (.iinc 3 1, 3) := by decide +kernel
theorem dX9_doAllHear_45 : decode cX9_doAllHear 45 = .ok (.goto (-43), 3) := by decide +kernel
theorem dX9_doAllHear_48 : decode cX9_doAllHear 48 = .ok (.iconst 1, 1) := by decide +kernel
theorem dX9_doAllHear_49 : decode cX9_doAllHear 49 = .ok (.ireturn, 1) := by decide +kernel
theorem dX9_round_0 : decode cX9_round 0 = .ok (.iload 4, 2) := by decide +kernel
theorem dX9_round_2 : decode cX9_round 2 = .ok (.ifCond .ge 10, 3) := by decide +kernel
theorem dX9_round_5 : decode cX9_round 5 = .ok (.aload_n 0, 1) := by decide +kernel
theorem dX9_round_6 : decode cX9_round 6 = .ok (.bipush (-5), 2) := by decide +kernel
theorem dX9_round_8 : decode cX9_round 8 = .ok (.invokevirtual 300, 3) := by decide +kernel
theorem dX9_round_11 : decode cX9_round 11 = .ok (.ireturn, 1) := by decide +kernel
theorem dX9_round_12 : decode cX9_round 12 = .ok (.iload_n 1, 1) := by decide +kernel
theorem dX9_round_13 : decode cX9_round 13 = .ok (.ifCond .lt 38, 3) := by decide +kernel
theorem dX9_round_16 : decode cX9_round 16 = .ok (.iload_n 1, 1) := by decide +kernel
theorem dX9_round_17 : decode cX9_round 17 = .ok (.aload_n 0, 1) := by decide +kernel
theorem dX9_round_18 : decode cX9_round 18 = .ok (.getfield 102, 3) := by decide +kernel
theorem dX9_round_21 : decode cX9_round 21 = .ok (.ishr, 1) := by decide +kernel
theorem dX9_round_22 : decode cX9_round 22 = .ok (.ifCond .ne 29, 3) := by decide +kernel
theorem dX9_round_25 : decode cX9_round 25 = .ok (.iload_n 2, 1) := by decide +kernel
theorem dX9_round_26 : decode cX9_round 26 = .ok (.invokestatic 195, 3) := by decide +kernel
theorem dX9_round_29 : decode cX9_round 29 = .ok (.ifCond .eq 22, 3) := by decide +kernel
theorem dX9_round_32 : decode cX9_round 32 = .ok (.iload_n 3, 1) := by decide +kernel
theorem dX9_round_33 : decode cX9_round 33 = .ok (.iconst 1, 1) := by decide +kernel
theorem dX9_round_34 : decode cX9_round 34 = .ok (.bipush 6, 2) := by decide +kernel
theorem dX9_round_36 : decode cX9_round 36 = .ok (.invokestatic 167, 3) := by decide +kernel
theorem dX9_round_39 : decode cX9_round 39 = .ok (.ifCond .eq 12, 3) := by decide +kernel
theorem dX9_round_42 : decode cX9_round 42 = .ok (.aload_n 0, 1) := by decide +kernel
theorem dX9_round_43 : decode cX9_round 43 = .ok (.getfield 41, 3) := by decide +kernel
theorem dX9_round_46 : decode cX9_round 46 = .ok (.iconst 0, 1) := by decide +kernel
theorem dX9_round_47 : decode cX9_round 47 = .ok (.iaload, 1) := by decide +kernel
theorem dX9_round_48 : decode cX9_round 48 = .ok (.ifCond .ge 10, 3) := by decide +kernel
theorem dX9_round_51 : decode cX9_round 51 = .ok (.aload_n 0, 1) := by decide +kernel
theorem dX9_round_52 : decode cX9_round 52 = .ok (.bipush (-6), 2) := by decide +kernel
theorem dX9_round_54 : decode cX9_round 54 = .ok (.invokevirtual 300, 3) := by decide +kernel
theorem dX9_round_57 : decode cX9_round 57 = .ok (.ireturn, 1) := by decide +kernel
theorem dX9_round_58 : decode cX9_round 58 = .ok (.aload_n 0, 1) := by decide +kernel
theorem dX9_round_59 : decode cX9_round 59 = .ok (.iconst (-1), 1) := by decide +kernel
theorem dX9_round_60 : decode cX9_round 60 = .ok (.putfield 319, 3) := by decide +kernel
theorem dX9_round_63 : decode cX9_round 63 = .ok (.aload_n 0, 1) := by decide +kernel
theorem dX9_round_64 : decode cX9_round 64 = .ok (.iload_n 3, 1) := by decide +kernel
theorem dX9_round_65 : decode cX9_round 65 = .ok (.iconst 0, 1) := by decide +kernel
theorem dX9_round_66 : decode cX9_round 66 = .ok (.invokevirtual 322, 3) := by decide +kernel
theorem dX9_round_69 : decode cX9_round 69 = .ok (.aload_n 0, 1) := by decide +kernel
theorem dX9_round_70 : decode cX9_round 70 = .ok (.invokevirtual 325, 3) := by decide +kernel
theorem dX9_round_73 : decode cX9_round 73 = .ok (.ifCond .eq 44, 3) := by decide +kernel
theorem dX9_round_76 : decode cX9_round 76 = .ok (.aload_n 0, 1) := by decide +kernel
theorem dX9_round_77 : decode cX9_round 77 = .ok (.getfield 41, 3) := by decide +kernel
theorem dX9_round_80 : decode cX9_round 80 = .ok (.aload_n 0, 1) := by decide +kernel
theorem dX9_round_81 : decode cX9_round 81 = .ok (.getfield 123, 3) := by decide +kernel
theorem dX9_round_84 : decode cX9_round 84 = .ok (.iaload, 1) := by decide +kernel
theorem dX9_round_85 : decode cX9_round 85 = .ok (.aload_n 0, 1) := by decide +kernel
theorem dX9_round_86 : decode cX9_round 86 = .ok (.getfield 41, 3) := by decide +kernel
theorem dX9_round_89 : decode cX9_round 89 = .ok (.iconst 0, 1) := by decide +kernel
theorem dX9_round_90 : decode cX9_round 90 = .ok (.iaload, 1) := by decide +kernel
theorem dX9_round_91 : decode cX9_round 91 = .ok (.if_icmp .ne (-22), 3) := by decide +kernel
theorem dX9_round_94 : decode cX9_round 94 = .ok (.aload_n 0, 1) := by decide +kernel
theorem dX9_round_95 : decode cX9_round 95 = .ok (.iload_n 1, 1) := by decide +kernel
theorem dX9_round_96 : decode cX9_round 96 = .ok (.iload_n 2, 1) := by decide +kernel
theorem dX9_round_97 : decode cX9_round 97 = .ok (.invokevirtual 337, 3) := by decide +kernel
theorem dX9_round_100 : decode cX9_round 100 = .ok (.ifCond .eq (-31), 3) := by decide +kernel
theorem dX9_round_103 : decode cX9_round 103 = .ok (.aload_n 0, 1) := by decide +kernel
theorem dX9_round_104 : decode cX9_round 104 = .ok (.invokevirtual 328, 3) := by decide +kernel
theorem dX9_round_107 : decode cX9_round 107 = .ok (.ifCond .eq (-38), 3) := by decide +kernel
theorem dX9_round_110 : decode cX9_round 110 = .ok (.aload_n 0, 1) := by decide +kernel
theorem dX9_round_111 : decode cX9_round 111 = .ok (.invokevirtual 331, 3) := by decide +kernel
theorem dX9_round_114 : decode cX9_round 114 = .ok (.goto (-45), 3) := by decide +kernel
theorem dX9_round_117 : decode cX9_round 117 = .ok (.aload_n 0, 1) := by decide +kernel
theorem dX9_round_118 : decode cX9_round 118 = .ok (.iload 4, 2) := by decide +kernel
theorem dX9_round_120 : decode cX9_round 120 = .ok (.invokevirtual 334, 3) := by decide +kernel
theorem dX9_round_123 : decode cX9_round 123 = .ok (.ireturn, 1) := by decide +kernel
theorem dX9_findFits_0 : decode cX9_findFits 0 = .ok (.aload_n 0, 1) := by decide +kernel
theorem dX9_findFits_1 : decode cX9_findFits 1 = .ok (.iconst 0, 1) := by decide +kernel
theorem dX9_findFits_2 : decode cX9_findFits 2 = .ok (.putfield 340, 3) := by decide +kernel
theorem dX9_findFits_5 : decode cX9_findFits 5 = .ok (.aload_n 0, 1) := by decide +kernel
theorem dX9_findFits_6 : decode cX9_findFits 6 = .ok (.iconst 0, 1) := by decide +kernel
theorem dX9_findFits_7 : decode cX9_findFits 7 = .ok (.putfield 343, 3) := by decide +kernel
theorem dX9_findFits_10 : decode cX9_findFits 10 = .ok (.aload_n 0, 1) := by decide +kernel
theorem dX9_findFits_11 : decode cX9_findFits 11 = .ok (.iconst (-1), 1) := by decide +kernel
theorem dX9_findFits_12 : decode cX9_findFits 12 = .ok (.putfield 319, 3) := by decide +kernel
theorem dX9_findFits_15 : decode cX9_findFits 15 = .ok (.aload_n 0, 1) := by decide +kernel
theorem dX9_findFits_16 : decode cX9_findFits 16 = .ok (.iload_n 2, 1) := by decide +kernel
theorem dX9_findFits_17 : decode cX9_findFits 17 = .ok (.iconst 0, 1) := by decide +kernel
theorem dX9_findFits_18 : decode cX9_findFits 18 = .ok (.invokevirtual 322, 3) := by decide +kernel
theorem dX9_findFits_21 : decode cX9_findFits 21 = .ok (.aload_n 0, 1) := by decide +kernel
theorem dX9_findFits_22 : decode cX9_findFits 22 = .ok (.invokevirtual 325, 3) := by decide +kernel
theorem dX9_findFits_25 : decode cX9_findFits 25 = .ok (.ifCond .eq 104, 3) := by decide +kernel
theorem dX9_findFits_28 : decode cX9_findFits 28 = .ok (.aload_n 0, 1) := by decide +kernel
theorem dX9_findFits_29 : decode cX9_findFits 29 = .ok (.aload_n 0, 1) := by decide +kernel
theorem dX9_findFits_30 : decode cX9_findFits 30 = .ok (.getfield 123, 3) := by decide +kernel
theorem dX9_findFits_33 : decode cX9_findFits 33 = .ok (.ifCond .le 30, 3) := by decide +kernel
theorem dX9_findFits_36 : decode cX9_findFits 36 = .ok (.aload_n 0, 1) := by decide +kernel
theorem dX9_findFits_37 : decode cX9_findFits 37 = .ok (.getfield 62, 3) := by decide +kernel
theorem dX9_findFits_40 : decode cX9_findFits 40 = .ok (.aload_n 0, 1) := by decide +kernel
theorem dX9_findFits_41 : decode cX9_findFits 41 = .ok (.getfield 123, 3) := by decide +kernel
theorem dX9_findFits_44 : decode cX9_findFits 44 = .ok (.iaload, 1) := by decide +kernel
theorem dX9_findFits_45 : decode cX9_findFits 45 = .ok (.aload_n 0, 1) := by decide +kernel
theorem dX9_findFits_46 : decode cX9_findFits 46 = .ok (.iload_n 1, 1) := by decide +kernel
theorem dX9_findFits_47 : decode cX9_findFits 47 = .ok (.aload_n 0, 1) := by decide +kernel
theorem dX9_findFits_48 : decode cX9_findFits 48 = .ok (.getfield 123, 3) := by decide +kernel
theorem dX9_findFits_51 : decode cX9_findFits 51 = .ok (.iconst 1, 1) := by decide +kernel
theorem dX9_findFits_52 : decode cX9_findFits 52 = .ok (.isub, 1) := by decide +kernel
theorem dX9_findFits_53 : decode cX9_findFits 53 = .ok (.invokevirtual 208, 3) := by decide +kernel
theorem dX9_findFits_56 : decode cX9_findFits 56 = .ok (.if_icmp .eq 7, 3) := by decide +kernel
theorem dX9_findFits_59 : decode cX9_findFits 59 = .ok (.iconst 1, 1) := by decide +kernel
theorem dX9_findFits_60 : decode cX9_findFits 60 = .ok (.goto 4, 3) := by decide +kernel
theorem dX9_findFits_63 : decode cX9_findFits 63 = .ok (.iconst 0, 1) := by decide +kernel
theorem dX9_findFits_64 : decode cX9_findFits 64 = .ok (.putfield 133, 3) := by decide +kernel
theorem dX9_findFits_67 : decode cX9_findFits 67 = .ok (.aload_n 0, 1) := by decide +kernel
theorem dX9_findFits_68 : decode cX9_findFits 68 = .ok (.getfield 133, 3) := by decide +kernel
theorem dX9_findFits_71 : decode cX9_findFits 71 = .ok (.ifCond .ne (-50), 3) := by decide +kernel
theorem dX9_findFits_74 : decode cX9_findFits 74 = .ok (.aload_n 0, 1) := by decide +kernel
theorem dX9_findFits_75 : decode cX9_findFits 75 = .ok (.getfield 123, 3) := by decide +kernel
theorem dX9_findFits_78 : decode cX9_findFits 78 = .ok (.iload_n 2, 1) := by decide +kernel
theorem dX9_findFits_79 : decode cX9_findFits 79 = .ok (.if_icmp .ge 6, 3) := by decide +kernel
theorem dX9_findFits_82 : decode cX9_findFits 82 = .ok (.goto (-61), 3) := by decide +kernel
theorem dX9_findFits_85 : decode cX9_findFits 85 = .ok (.aload_n 0, 1) := by decide +kernel
theorem dX9_findFits_86 : decode cX9_findFits 86 = .ok (.dup, 1) := by decide +kernel
theorem dX9_findFits_87 : decode cX9_findFits 87 = .ok (.getfield 340, 3) := by decide +kernel
theorem dX9_findFits_90 : decode cX9_findFits 90 = .ok (.iconst 1, 1) := by decide +kernel
theorem dX9_findFits_91 : decode cX9_findFits 91 = .ok (.iadd, 1) := by decide +kernel
theorem dX9_findFits_92 : decode cX9_findFits 92 = .ok (.putfield 340, 3) := by decide +kernel
theorem dX9_findFits_95 : decode cX9_findFits 95 = .ok (.aload_n 0, 1) := by decide +kernel
theorem dX9_findFits_96 : decode cX9_findFits 96 = .ok (.dup, 1) := by decide +kernel
theorem dX9_findFits_97 : decode cX9_findFits 97 = .ok (.getfield 343, 3) := by decide +kernel
theorem dX9_findFits_100 : decode cX9_findFits 100 = .ok (.iconst 1, 1) := by decide +kernel
theorem dX9_findFits_101 : decode cX9_findFits 101 = .ok (.aload_n 0, 1) := by decide +kernel
theorem dX9_findFits_102 : decode cX9_findFits 102 = .ok (.getfield 41, 3) := by decide +kernel
theorem dX9_findFits_105 : decode cX9_findFits 105 = .ok (.aload_n 0, 1) := by decide +kernel
theorem dX9_findFits_106 : decode cX9_findFits 106 = .ok (.getfield 123, 3) := by decide +kernel
theorem dX9_findFits_109 : decode cX9_findFits 109 = .ok (.iaload, 1) := by decide +kernel
theorem dX9_findFits_110 : decode cX9_findFits 110 = .ok (.ishl, 1) := by decide +kernel
theorem dX9_findFits_111 : decode cX9_findFits 111 = .ok (.ior, 1) := by decide +kernel
theorem dX9_findFits_112 : decode cX9_findFits 112 = .ok (.putfield 343, 3) := by decide +kernel
theorem dX9_findFits_115 : decode cX9_findFits 115 = .ok (.aload_n 0, 1) := by decide +kernel
theorem dX9_findFits_116 : decode cX9_findFits 116 = .ok (.getfield 319, 3) := by decide +kernel
theorem dX9_findFits_119 : decode cX9_findFits 119 = .ok (.ifCond .ge (-98), 3) := by decide +kernel
theorem dX9_findFits_122 : decode cX9_findFits 122 = .ok (.aload_n 0, 1) := by decide +kernel
theorem dX9_findFits_123 : decode cX9_findFits 123 = .ok (.invokevirtual 331, 3) := by decide +kernel
theorem dX9_findFits_126 : decode cX9_findFits 126 = .ok (.goto (-105), 3) := by decide +kernel
theorem dX9_findFits_129 : decode cX9_findFits 129 = .ok (.return_, 1) := by decide +kernel
theorem dX9_fits_0 : decode cX9_fits 0 = .ok (.aload_n 0, 1) := by decide +kernel
theorem dX9_fits_1 : decode cX9_fits 1 = .ok (.iload_n 1, 1) := by decide +kernel
theorem dX9_fits_2 : decode cX9_fits 2 = .ok (.iload_n 2, 1) := by decide +kernel
theorem dX9_fits_3 : decode cX9_fits 3 = .ok (.bipush 6, 2) := by decide +kernel
theorem dX9_fits_5 : decode cX9_fits 5 = .ok (.invokevirtual 310, 3) := by decide +kernel
theorem dX9_fits_8 : decode cX9_fits 8 = .ok (.istore_n 3, 1) := by decide +kernel
theorem dX9_fits_9 : decode cX9_fits 9 = .ok (.iload_n 3, 1) := by decide +kernel
theorem dX9_fits_10 : decode cX9_fits 10 = .ok (.ifCond .eq 9, 3) := by decide +kernel
theorem dX9_fits_13 : decode cX9_fits 13 = .ok (.aload_n 0, 1) := by decide +kernel
theorem dX9_fits_14 : decode cX9_fits 14 = .ok (.iload_n 3, 1) := by decide +kernel
theorem dX9_fits_15 : decode cX9_fits 15 = .ok (.invokevirtual 171, 3) := by decide +kernel
theorem dX9_fits_18 : decode cX9_fits 18 = .ok (.ireturn, 1) := by decide +kernel
theorem dX9_fits_19 : decode cX9_fits 19 = .ok (.aload_n 0, 1) := by decide +kernel
theorem dX9_fits_20 : decode cX9_fits 20 = .ok (.iload_n 1, 1) := by decide +kernel
theorem dX9_fits_21 : decode cX9_fits 21 = .ok (.iload_n 2, 1) := by decide +kernel
theorem dX9_fits_22 : decode cX9_fits 22 = .ok (.invokevirtual 346, 3) := by decide +kernel
theorem dX9_fits_25 : decode cX9_fits 25 = .ok (.aload_n 0, 1) := by decide +kernel
theorem dX9_fits_26 : decode cX9_fits 26 = .ok (.getfield 340, 3) := by decide +kernel
theorem dX9_fits_29 : decode cX9_fits 29 = .ok (.ireturn, 1) := by decide +kernel
theorem dX9_from_0 : decode cX9_from 0 = .ok (.aload_n 0, 1) := by decide +kernel
theorem dX9_from_1 : decode cX9_from 1 = .ok (.iload_n 1, 1) := by decide +kernel
theorem dX9_from_2 : decode cX9_from 2 = .ok (.invokevirtual 174, 3) := by decide +kernel
theorem dX9_from_5 : decode cX9_from 5 = .ok (.istore 4, 2) := by decide +kernel
theorem dX9_from_7 : decode cX9_from 7 = .ok (.iload 4, 2) := by decide +kernel
theorem dX9_from_9 : decode cX9_from 9 = .ok (.ifCond .ne 60, 3) := by decide +kernel
theorem dX9_from_12 : decode cX9_from 12 = .ok (.iload_n 2, 1) := by decide +kernel
theorem dX9_from_13 : decode cX9_from 13 = .ok (.ifCond .ge 8, 3) := by decide +kernel
theorem dX9_from_16 : decode cX9_from 16 = .ok (.bipush (-4), 2) := by decide +kernel
theorem dX9_from_18 : decode cX9_from 18 = .ok (.goto 49, 3) := by decide +kernel
theorem dX9_from_21 : decode cX9_from 21 = .ok (.iload_n 2, 1) := by decide +kernel
theorem dX9_from_22 : decode cX9_from 22 = .ok (.aload_n 0, 1) := by decide +kernel
theorem dX9_from_23 : decode cX9_from 23 = .ok (.getfield 78, 3) := by decide +kernel
theorem dX9_from_26 : decode cX9_from 26 = .ok (.iload_n 1, 1) := by decide +kernel
theorem dX9_from_27 : decode cX9_from 27 = .ok (.iaload, 1) := by decide +kernel
theorem dX9_from_28 : decode cX9_from 28 = .ok (.if_icmp .gt 13, 3) := by decide +kernel
theorem dX9_from_31 : decode cX9_from 31 = .ok (.iload_n 3, 1) := by decide +kernel
theorem dX9_from_32 : decode cX9_from 32 = .ok (.iconst (-1), 1) := by decide +kernel
theorem dX9_from_33 : decode cX9_from 33 = .ok (.if_icmp .lt 8, 3) := by decide +kernel
theorem dX9_from_36 : decode cX9_from 36 = .ok (.iload_n 3, 1) := by decide +kernel
theorem dX9_from_37 : decode cX9_from 37 = .ok (.iload_n 2, 1) := by decide +kernel
theorem dX9_from_38 : decode cX9_from 38 = .ok (.if_icmp .lt 8, 3) := by decide +kernel
theorem dX9_from_41 : decode cX9_from 41 = .ok (.bipush (-5), 2) := by decide +kernel
theorem dX9_from_43 : decode cX9_from 43 = .ok (.goto 24, 3) := by decide +kernel
theorem dX9_from_46 : decode cX9_from 46 = .ok (.iload_n 2, 1) := by decide +kernel
theorem dX9_from_47 : decode cX9_from 47 = .ok (.bipush 6, 2) := by decide +kernel
theorem dX9_from_49 : decode cX9_from 49 = .ok (.if_icmp .gt 12, 3) := by decide +kernel
theorem dX9_from_52 : decode cX9_from 52 = .ok (.aload_n 0, 1) := by decide +kernel
theorem dX9_from_53 : decode cX9_from 53 = .ok (.getfield 41, 3) := by decide +kernel
theorem dX9_from_56 : decode cX9_from 56 = .ok (.iconst 0, 1) := by decide +kernel
theorem dX9_from_57 : decode cX9_from 57 = .ok (.iaload, 1) := by decide +kernel
theorem dX9_from_58 : decode cX9_from 58 = .ok (.ifCond .ge 8, 3) := by decide +kernel
theorem dX9_from_61 : decode cX9_from 61 = .ok (.bipush (-6), 2) := by decide +kernel
theorem dX9_from_63 : decode cX9_from 63 = .ok (.goto 4, 3) := by decide +kernel
theorem dX9_from_66 : decode cX9_from 66 = .ok (.iconst 0, 1) := by decide +kernel
theorem dX9_from_67 : decode cX9_from 67 = .ok (.istore 4, 2) := by decide +kernel
theorem dX9_from_69 : decode cX9_from 69 = .ok (.iload 4, 2) := by decide +kernel
theorem dX9_from_71 : decode cX9_from 71 = .ok (.ifCond .eq 10, 3) := by decide +kernel
theorem dX9_from_74 : decode cX9_from 74 = .ok (.aload_n 0, 1) := by decide +kernel
theorem dX9_from_75 : decode cX9_from 75 = .ok (.iload 4, 2) := by decide +kernel
theorem dX9_from_77 : decode cX9_from 77 = .ok (.invokevirtual 171, 3) := by decide +kernel
theorem dX9_from_80 : decode cX9_from 80 = .ok (.ireturn, 1) := by decide +kernel
theorem dX9_from_81 : decode cX9_from 81 = .ok (.aload_n 0, 1) := by decide +kernel
theorem dX9_from_82 : decode cX9_from 82 = .ok (.iload_n 1, 1) := by decide +kernel
theorem dX9_from_83 : decode cX9_from 83 = .ok (.iload_n 2, 1) := by decide +kernel
theorem dX9_from_84 : decode cX9_from 84 = .ok (.invokevirtual 346, 3) := by decide +kernel
theorem dX9_from_87 : decode cX9_from 87 = .ok (.iload_n 3, 1) := by decide +kernel
theorem dX9_from_88 : decode cX9_from 88 = .ok (.iconst (-1), 1) := by decide +kernel
theorem dX9_from_89 : decode cX9_from 89 = .ok (.if_icmp .ne 8, 3) := by decide +kernel
theorem dX9_from_92 : decode cX9_from 92 = .ok (.aload_n 0, 1) := by decide +kernel
theorem dX9_from_93 : decode cX9_from 93 = .ok (.getfield 343, 3) := by decide +kernel
theorem dX9_from_96 : decode cX9_from 96 = .ok (.ireturn, 1) := by decide +kernel
theorem dX9_from_97 : decode cX9_from 97 = .ok (.aload_n 0, 1) := by decide +kernel
theorem dX9_from_98 : decode cX9_from 98 = .ok (.getfield 319, 3) := by decide +kernel
theorem dX9_from_101 : decode cX9_from 101 = .ok (.ifCond .ge 12, 3) := by decide +kernel
theorem dX9_from_104 : decode cX9_from 104 = .ok (.aload_n 0, 1) := by decide +kernel
theorem dX9_from_105 : decode cX9_from 105 = .ok (.bipush (-5), 2) := by decide +kernel
theorem dX9_from_107 : decode cX9_from 107 = .ok (.invokevirtual 171, 3) := by decide +kernel
theorem dX9_from_110 : decode cX9_from 110 = .ok (.goto 9, 3) := by decide +kernel
theorem dX9_from_113 : decode cX9_from 113 = .ok (.aload_n 0, 1) := by decide +kernel
theorem dX9_from_114 : decode cX9_from 114 = .ok (.getfield 96, 3) := by decide +kernel
theorem dX9_from_117 : decode cX9_from 117 = .ok (.iload_n 3, 1) := by decide +kernel
theorem dX9_from_118 : decode cX9_from 118 = .ok (.iaload, 1) := by decide +kernel
theorem dX9_from_119 : decode cX9_from 119 = .ok (.ireturn, 1) := by decide +kernel
theorem dX9_odds_0 : decode cX9_odds 0 = .ok (.aload_n 0, 1) := by decide +kernel
theorem dX9_odds_1 : decode cX9_odds 1 = .ok (.iload_n 1, 1) := by decide +kernel
theorem dX9_odds_2 : decode cX9_odds 2 = .ok (.invokevirtual 188, 3) := by decide +kernel
theorem dX9_odds_5 : decode cX9_odds 5 = .ok (.ifCond .ne 10, 3) := by decide +kernel
theorem dX9_odds_8 : decode cX9_odds 8 = .ok (.aload_n 0, 1) := by decide +kernel
theorem dX9_odds_9 : decode cX9_odds 9 = .ok (.iconst (-1), 1) := by decide +kernel
theorem dX9_odds_10 : decode cX9_odds 10 = .ok (.invokevirtual 171, 3) := by decide +kernel
theorem dX9_odds_13 : decode cX9_odds 13 = .ok (.i2l, 1) := by decide +kernel
theorem dX9_odds_14 : decode cX9_odds 14 = .ok (.lreturn, 1) := by decide +kernel
theorem dX9_odds_15 : decode cX9_odds 15 = .ok (.iload_n 2, 1) := by decide +kernel
theorem dX9_odds_16 : decode cX9_odds 16 = .ok (.invokestatic 195, 3) := by decide +kernel
theorem dX9_odds_19 : decode cX9_odds 19 = .ok (.ifCond .eq 21, 3) := by decide +kernel
theorem dX9_odds_22 : decode cX9_odds 22 = .ok (.iload_n 3, 1) := by decide +kernel
theorem dX9_odds_23 : decode cX9_odds 23 = .ok (.iconst 1, 1) := by decide +kernel
theorem dX9_odds_24 : decode cX9_odds 24 = .ok (.iconst 4, 1) := by decide +kernel
theorem dX9_odds_25 : decode cX9_odds 25 = .ok (.invokestatic 167, 3) := by decide +kernel
theorem dX9_odds_28 : decode cX9_odds 28 = .ok (.ifCond .eq 12, 3) := by decide +kernel
theorem dX9_odds_31 : decode cX9_odds 31 = .ok (.aload_n 0, 1) := by decide +kernel
theorem dX9_odds_32 : decode cX9_odds 32 = .ok (.getfield 41, 3) := by decide +kernel
theorem dX9_odds_35 : decode cX9_odds 35 = .ok (.iconst 0, 1) := by decide +kernel
theorem dX9_odds_36 : decode cX9_odds 36 = .ok (.iaload, 1) := by decide +kernel
theorem dX9_odds_37 : decode cX9_odds 37 = .ok (.ifCond .ge 11, 3) := by decide +kernel
theorem dX9_odds_40 : decode cX9_odds 40 = .ok (.aload_n 0, 1) := by decide +kernel
theorem dX9_odds_41 : decode cX9_odds 41 = .ok (.bipush (-6), 2) := by decide +kernel
theorem dX9_odds_43 : decode cX9_odds 43 = .ok (.invokevirtual 171, 3) := by decide +kernel
theorem dX9_odds_46 : decode cX9_odds 46 = .ok (.i2l, 1) := by decide +kernel
theorem dX9_odds_47 : decode cX9_odds 47 = .ok (.lreturn, 1) := by decide +kernel
theorem dX9_odds_48 : decode cX9_odds 48 = .ok (.lconst 0, 1) := by decide +kernel
theorem dX9_odds_49 : decode cX9_odds 49 = .ok (.lstore 4, 2) := by decide +kernel
theorem dX9_odds_51 : decode cX9_odds 51 = .ok (.aload_n 0, 1) := by decide +kernel
theorem dX9_odds_52 : decode cX9_odds 52 = .ok (.iload_n 3, 1) := by decide +kernel
theorem dX9_odds_53 : decode cX9_odds 53 = .ok (.iconst 1, 1) := by decide +kernel
theorem dX9_odds_54 : decode cX9_odds 54 = .ok (.invokevirtual 322, 3) := by decide +kernel
theorem dX9_odds_57 : decode cX9_odds 57 = .ok (.aload_n 0, 1) := by decide +kernel
theorem dX9_odds_58 : decode cX9_odds 58 = .ok (.invokevirtual 325, 3) := by decide +kernel
theorem dX9_odds_61 : decode cX9_odds 61 = .ok (.ifCond .eq 98, 3) := by decide +kernel
theorem dX9_odds_64 : decode cX9_odds 64 = .ok (.aload_n 0, 1) := by decide +kernel
theorem dX9_odds_65 : decode cX9_odds 65 = .ok (.getfield 123, 3) := by decide +kernel
theorem dX9_odds_68 : decode cX9_odds 68 = .ok (.iload_n 3, 1) := by decide +kernel
theorem dX9_odds_69 : decode cX9_odds 69 = .ok (.if_icmp .ge 19, 3) := by decide +kernel
theorem dX9_odds_72 : decode cX9_odds 72 = .ok (.aload_n 0, 1) := by decide +kernel
theorem dX9_odds_73 : decode cX9_odds 73 = .ok (.aload_n 0, 1) := by decide +kernel
theorem dX9_odds_74 : decode cX9_odds 74 = .ok (.getfield 41, 3) := by decide +kernel
theorem dX9_odds_77 : decode cX9_odds 77 = .ok (.aload_n 0, 1) := by decide +kernel
theorem dX9_odds_78 : decode cX9_odds 78 = .ok (.getfield 123, 3) := by decide +kernel
theorem dX9_odds_81 : decode cX9_odds 81 = .ok (.iaload, 1) := by decide +kernel
theorem dX9_odds_82 : decode cX9_odds 82 = .ok (.invokevirtual 147, 3) := by decide +kernel
theorem dX9_odds_85 : decode cX9_odds 85 = .ok (.ifCond .gt (-28), 3) := by decide +kernel
theorem dX9_odds_88 : decode cX9_odds 88 = .ok (.iload_n 2, 1) := by decide +kernel
theorem dX9_odds_89 : decode cX9_odds 89 = .ok (.aload_n 0, 1) := by decide +kernel
theorem dX9_odds_90 : decode cX9_odds 90 = .ok (.getfield 50, 3) := by decide +kernel
theorem dX9_odds_93 : decode cX9_odds 93 = .ok (.bipush 8, 2) := by decide +kernel
theorem dX9_odds_95 : decode cX9_odds 95 = .ok (.aload_n 0, 1) := by decide +kernel
theorem dX9_odds_96 : decode cX9_odds 96 = .ok (.getfield 123, 3) := by decide +kernel
theorem dX9_odds_99 : decode cX9_odds 99 = .ok (.imul, 1) := by decide +kernel
theorem dX9_odds_100 : decode cX9_odds 100 = .ok (.iload_n 1, 1) := by decide +kernel
theorem dX9_odds_101 : decode cX9_odds 101 = .ok (.iadd, 1) := by decide +kernel
theorem dX9_odds_102 : decode cX9_odds 102 = .ok (.iaload, 1) := by decide +kernel
theorem dX9_odds_103 : decode cX9_odds 103 = .ok (.iconst (-1), 1) := by decide +kernel
theorem dX9_odds_104 : decode cX9_odds 104 = .ok (.ixor, 1) := by decide +kernel
theorem dX9_odds_105 : decode cX9_odds 105 = .ok (.iand, 1) := by decide +kernel
theorem dX9_odds_106 : decode cX9_odds 106 = .ok (.ifCond .eq 6, 3) := by decide +kernel
theorem dX9_odds_109 : decode cX9_odds 109 = .ok (.goto (-52), 3) := by decide +kernel
theorem dX9_odds_112 : decode cX9_odds 112 = .ok (.aload_n 0, 1) := by decide +kernel
theorem dX9_odds_113 : decode cX9_odds 113 = .ok (.getfield 65, 3) := by decide +kernel
theorem dX9_odds_116 : decode cX9_odds 116 = .ok (.aload_n 0, 1) := by decide +kernel
theorem dX9_odds_117 : decode cX9_odds 117 = .ok (.getfield 123, 3) := by decide +kernel
theorem dX9_odds_120 : decode cX9_odds 120 = .ok (.laload, 1) := by decide +kernel
theorem dX9_odds_121 : decode cX9_odds 121 = .ok (.lstore 6, 2) := by decide +kernel
theorem dX9_odds_123 : decode cX9_odds 123 = .ok (.aload_n 0, 1) := by decide +kernel
theorem dX9_odds_124 : decode cX9_odds 124 = .ok (.getfield 123, 3) := by decide +kernel
theorem dX9_odds_127 : decode cX9_odds 127 = .ok (.istore 8, 2) := by decide +kernel
theorem dX9_odds_129 : decode cX9_odds 129 = .ok (.iload 8, 2) := by decide +kernel
theorem dX9_odds_131 : decode cX9_odds 131 = .ok (.iload_n 3, 1) := by decide +kernel
theorem dX9_odds_132 : decode cX9_odds 132 = .ok (.if_icmp .ge 17, 3) := by decide +kernel
theorem dX9_odds_135 : decode cX9_odds 135 = .ok (.lload 6, 2) := by decide +kernel
theorem dX9_odds_137 : decode cX9_odds 137 = .ok (.ldc2_w 156, 3) := by decide +kernel
theorem dX9_odds_140 : decode cX9_odds 140 = .ok (.lmul, 1) := by decide +kernel
theorem dX9_odds_141 : decode cX9_odds 141 = .ok (.lstore 6, 2) := by decide +kernel
theorem dX9_odds_143 : decode cX9_odds 143 = .ok (.iinc 8 1, 3) := by decide +kernel
theorem dX9_odds_146 : decode cX9_odds 146 = .ok (.goto (-17), 3) := by decide +kernel
theorem dX9_odds_149 : decode cX9_odds 149 = .ok (.lload 4, 2) := by decide +kernel
theorem dX9_odds_151 : decode cX9_odds 151 = .ok (.lload 6, 2) := by decide +kernel
theorem dX9_odds_153 : decode cX9_odds 153 = .ok (.ladd, 1) := by decide +kernel
theorem dX9_odds_154 : decode cX9_odds 154 = .ok (.lstore 4, 2) := by decide +kernel
theorem dX9_odds_156 : decode cX9_odds 156 = .ok (.goto (-99), 3) := by decide +kernel
theorem dX9_odds_159 : decode cX9_odds 159 = .ok (.lload 4, 2) := by decide +kernel
theorem dX9_odds_161 : decode cX9_odds 161 = .ok (.lreturn, 1) := by decide +kernel
theorem dX9_canHear_0 : decode cX9_canHear 0 = .ok (.aload_n 0, 1) := by decide +kernel
theorem dX9_canHear_1 : decode cX9_canHear 1 = .ok (.iload_n 3, 1) := by decide +kernel
theorem dX9_canHear_2 : decode cX9_canHear 2 = .ok (.iconst 0, 1) := by decide +kernel
theorem dX9_canHear_3 : decode cX9_canHear 3 = .ok (.invokevirtual 322, 3) := by decide +kernel
theorem dX9_canHear_6 : decode cX9_canHear 6 = .ok (.aload_n 0, 1) := by decide +kernel
theorem dX9_canHear_7 : decode cX9_canHear 7 = .ok (.invokevirtual 325, 3) := by decide +kernel
theorem dX9_canHear_10 : decode cX9_canHear 10 = .ok (.ifCond .eq 24, 3) := by decide +kernel
theorem dX9_canHear_13 : decode cX9_canHear 13 = .ok (.aload_n 0, 1) := by decide +kernel
theorem dX9_canHear_14 : decode cX9_canHear 14 = .ok (.getfield 50, 3) := by decide +kernel
theorem dX9_canHear_17 : decode cX9_canHear 17 = .ok (.bipush 8, 2) := by decide +kernel
theorem dX9_canHear_19 : decode cX9_canHear 19 = .ok (.aload_n 0, 1) := by decide +kernel
theorem dX9_canHear_20 : decode cX9_canHear 20 = .ok (.getfield 123, 3) := by decide +kernel
theorem dX9_canHear_23 : decode cX9_canHear 23 = .ok (.imul, 1) := by decide +kernel
theorem dX9_canHear_24 : decode cX9_canHear 24 = .ok (.iload_n 1, 1) := by decide +kernel
theorem dX9_canHear_25 : decode cX9_canHear 25 = .ok (.iadd, 1) := by decide +kernel
theorem dX9_canHear_26 : decode cX9_canHear 26 = .ok (.iaload, 1) := by decide +kernel
theorem dX9_canHear_27 : decode cX9_canHear 27 = .ok (.iload_n 2, 1) := by decide +kernel
theorem dX9_canHear_28 : decode cX9_canHear 28 = .ok (.iand, 1) := by decide +kernel
theorem dX9_canHear_29 : decode cX9_canHear 29 = .ok (.ifCond .eq (-23), 3) := by decide +kernel
theorem dX9_canHear_32 : decode cX9_canHear 32 = .ok (.iconst 1, 1) := by decide +kernel
theorem dX9_canHear_33 : decode cX9_canHear 33 = .ok (.ireturn, 1) := by decide +kernel
theorem dX9_canHear_34 : decode cX9_canHear 34 = .ok (.iconst 0, 1) := by decide +kernel
theorem dX9_canHear_35 : decode cX9_canHear 35 = .ok (.ireturn, 1) := by decide +kernel
theorem dX9_shuts_0 : decode cX9_shuts 0 = .ok (.aload_n 0, 1) := by decide +kernel
theorem dX9_shuts_1 : decode cX9_shuts 1 = .ok (.iload_n 1, 1) := by decide +kernel
theorem dX9_shuts_2 : decode cX9_shuts 2 = .ok (.invokevirtual 188, 3) := by decide +kernel
theorem dX9_shuts_5 : decode cX9_shuts 5 = .ok (.ifCond .ne 9, 3) := by decide +kernel
theorem dX9_shuts_8 : decode cX9_shuts 8 = .ok (.aload_n 0, 1) := by decide +kernel
theorem dX9_shuts_9 : decode cX9_shuts 9 = .ok (.iconst (-1), 1) := by decide +kernel
theorem dX9_shuts_10 : decode cX9_shuts 10 = .ok (.invokevirtual 171, 3) := by decide +kernel
theorem dX9_shuts_13 : decode cX9_shuts 13 = .ok (.ireturn, 1) := by decide +kernel
theorem dX9_shuts_14 : decode cX9_shuts 14 = .ok (.iload_n 2, 1) := by decide +kernel
theorem dX9_shuts_15 : decode cX9_shuts 15 = .ok (.invokestatic 195, 3) := by decide +kernel
theorem dX9_shuts_18 : decode cX9_shuts 18 = .ok (.ifCond .eq 21, 3) := by decide +kernel
theorem dX9_shuts_21 : decode cX9_shuts 21 = .ok (.iload_n 3, 1) := by decide +kernel
theorem dX9_shuts_22 : decode cX9_shuts 22 = .ok (.iconst 1, 1) := by decide +kernel
theorem dX9_shuts_23 : decode cX9_shuts 23 = .ok (.iconst 4, 1) := by decide +kernel
theorem dX9_shuts_24 : decode cX9_shuts 24 = .ok (.invokestatic 167, 3) := by decide +kernel
theorem dX9_shuts_27 : decode cX9_shuts 27 = .ok (.ifCond .eq 12, 3) := by decide +kernel
theorem dX9_shuts_30 : decode cX9_shuts 30 = .ok (.aload_n 0, 1) := by decide +kernel
theorem dX9_shuts_31 : decode cX9_shuts 31 = .ok (.getfield 41, 3) := by decide +kernel
theorem dX9_shuts_34 : decode cX9_shuts 34 = .ok (.iconst 0, 1) := by decide +kernel
theorem dX9_shuts_35 : decode cX9_shuts 35 = .ok (.iaload, 1) := by decide +kernel
theorem dX9_shuts_36 : decode cX9_shuts 36 = .ok (.ifCond .ge 10, 3) := by decide +kernel
theorem dX9_shuts_39 : decode cX9_shuts 39 = .ok (.aload_n 0, 1) := by decide +kernel
theorem dX9_shuts_40 : decode cX9_shuts 40 = .ok (.bipush (-6), 2) := by decide +kernel
theorem dX9_shuts_42 : decode cX9_shuts 42 = .ok (.invokevirtual 171, 3) := by decide +kernel
theorem dX9_shuts_45 : decode cX9_shuts 45 = .ok (.ireturn, 1) := by decide +kernel
theorem dX9_shuts_46 : decode cX9_shuts 46 = .ok (.iconst (-1), 1) := by decide +kernel
theorem dX9_shuts_47 : decode cX9_shuts 47 = .ok (.istore 4, 2) := by decide +kernel
theorem dX9_shuts_49 : decode cX9_shuts 49 = .ok (.iconst 0, 1) := by decide +kernel
theorem dX9_shuts_50 : decode cX9_shuts 50 = .ok (.istore 5, 2) := by decide +kernel
theorem dX9_shuts_52 : decode cX9_shuts 52 = .ok (.iload 5, 2) := by decide +kernel
theorem dX9_shuts_54 : decode cX9_shuts 54 = .ok (.iconst 1, 1) := by decide +kernel
theorem dX9_shuts_55 : decode cX9_shuts 55 = .ok (.aload_n 0, 1) := by decide +kernel
theorem dX9_shuts_56 : decode cX9_shuts 56 = .ok (.getfield 105, 3) := by decide +kernel
theorem dX9_shuts_59 : decode cX9_shuts 59 = .ok (.ishl, 1) := by decide +kernel
theorem dX9_shuts_60 : decode cX9_shuts 60 = .ok (.if_icmp .ge 59, 3) := by decide +kernel
theorem dX9_shuts_63 : decode cX9_shuts 63 = .ok (.iload 4, 2) := by decide +kernel
theorem dX9_shuts_65 : decode cX9_shuts 65 = .ok (.ifCond .lt 16, 3) := by decide +kernel
theorem dX9_shuts_68 : decode cX9_shuts 68 = .ok (.iload 5, 2) := by decide +kernel
theorem dX9_shuts_70 : decode cX9_shuts 70 = .ok (.invokestatic 307, 3) := by decide +kernel
theorem dX9_shuts_73 : decode cX9_shuts 73 = .ok (.iload 4, 2) := by decide +kernel
theorem dX9_shuts_75 : decode cX9_shuts 75 = .ok (.invokestatic 307, 3) := by decide +kernel
theorem dX9_shuts_78 : decode cX9_shuts 78 = .ok (.if_icmp .ge 35, 3) := by decide +kernel
theorem dX9_shuts_81 : decode cX9_shuts 81 = .ok (.aload_n 0, 1) := by decide +kernel
theorem dX9_shuts_82 : decode cX9_shuts 82 = .ok (.iload 5, 2) := by decide +kernel
theorem dX9_shuts_84 : decode cX9_shuts 84 = .ok (.invokevirtual 349, 3) := by decide +kernel
theorem dX9_shuts_87 : decode cX9_shuts 87 = .ok (.ifCond .eq 6, 3) := by decide +kernel
theorem dX9_shuts_90 : decode cX9_shuts 90 = .ok (.goto 23, 3) := by decide +kernel
theorem dX9_shuts_93 : decode cX9_shuts 93 = .ok (.aload_n 0, 1) := by decide +kernel
theorem dX9_shuts_94 : decode cX9_shuts 94 = .ok (.iload 5, 2) := by decide +kernel
theorem dX9_shuts_96 : decode cX9_shuts 96 = .ok (.putfield 108, 3) := by decide +kernel
theorem dX9_shuts_99 : decode cX9_shuts 99 = .ok (.aload_n 0, 1) := by decide +kernel
theorem dX9_shuts_100 : decode cX9_shuts 100 = .ok (.iload_n 1, 1) := by decide +kernel
theorem dX9_shuts_101 : decode cX9_shuts 101 = .ok (.iload_n 2, 1) := by decide +kernel
theorem dX9_shuts_102 : decode cX9_shuts 102 = .ok (.iload_n 3, 1) := by decide +kernel
theorem dX9_shuts_103 : decode cX9_shuts 103 = .ok (.invokevirtual 352, 3) := by decide +kernel
theorem dX9_shuts_106 : decode cX9_shuts 106 = .ok (.ifCond .ne 7, 3) := by decide +kernel
theorem dX9_shuts_109 : decode cX9_shuts 109 = .ok (.iload 5, 2) := by decide +kernel
theorem dX9_shuts_111 : decode cX9_shuts 111 = .ok (.istore 4, 2) := by decide +kernel
theorem dX9_shuts_113 : decode cX9_shuts 113 = .ok (.iinc 5 1, 3) := by decide +kernel
theorem dX9_shuts_116 : decode cX9_shuts 116 = .ok (.goto (-64), 3) := by decide +kernel
theorem dX9_shuts_119 : decode cX9_shuts 119 = .ok (.aload_n 0, 1) := by decide +kernel
theorem dX9_shuts_120 : decode cX9_shuts 120 = .ok (.iconst 0, 1) := by decide +kernel
theorem dX9_shuts_121 : decode cX9_shuts 121 = .ok (.putfield 108, 3) := by decide +kernel
theorem dX9_shuts_124 : decode cX9_shuts 124 = .ok (.iload 4, 2) := by decide +kernel
theorem dX9_shuts_126 : decode cX9_shuts 126 = .ok (.ifCond .ge 12, 3) := by decide +kernel
theorem dX9_shuts_129 : decode cX9_shuts 129 = .ok (.aload_n 0, 1) := by decide +kernel
theorem dX9_shuts_130 : decode cX9_shuts 130 = .ok (.bipush (-6), 2) := by decide +kernel
theorem dX9_shuts_132 : decode cX9_shuts 132 = .ok (.invokevirtual 171, 3) := by decide +kernel
theorem dX9_shuts_135 : decode cX9_shuts 135 = .ok (.goto 5, 3) := by decide +kernel
theorem dX9_shuts_138 : decode cX9_shuts 138 = .ok (.iload 4, 2) := by decide +kernel
theorem dX9_shuts_140 : decode cX9_shuts 140 = .ok (.ireturn, 1) := by decide +kernel
theorem dX9_doesShutTwice_0 : decode cX9_doesShutTwice 0 = .ok (.iconst 0, 1) := by decide +kernel
theorem dX9_doesShutTwice_1 : decode cX9_doesShutTwice 1 = .ok (.istore_n 2, 1) := by decide +kernel
theorem dX9_doesShutTwice_2 : decode cX9_doesShutTwice 2 = .ok (.iload_n 2, 1) := by decide +kernel
theorem dX9_doesShutTwice_3 : decode cX9_doesShutTwice 3 = .ok (.aload_n 0, 1) := by decide +kernel
theorem dX9_doesShutTwice_4 : decode cX9_doesShutTwice 4 = .ok (.getfield 105, 3) := by decide +kernel
theorem dX9_doesShutTwice_7 : decode cX9_doesShutTwice 7 = .ok (.if_icmp .ge 30, 3) := by decide +kernel
theorem dX9_doesShutTwice_10 : decode cX9_doesShutTwice 10 = .ok (.iload_n 1, 1) := by decide +kernel
theorem dX9_doesShutTwice_11 : decode cX9_doesShutTwice 11 = .ok (.iload_n 2, 1) := by decide +kernel
theorem dX9_doesShutTwice_12 : decode cX9_doesShutTwice 12 = .ok (.ishr, 1) := by decide +kernel
theorem dX9_doesShutTwice_13 : decode cX9_doesShutTwice 13 = .ok (.iconst 1, 1) := by decide +kernel
theorem dX9_doesShutTwice_14 : decode cX9_doesShutTwice 14 = .ok (.iand, 1) := by decide +kernel
theorem dX9_doesShutTwice_15 : decode cX9_doesShutTwice 15 = .ok (.iconst 1, 1) := by decide +kernel
theorem dX9_doesShutTwice_16 : decode cX9_doesShutTwice 16 = .ok (.if_icmp .ne 15, 3) := by decide +kernel
theorem dX9_doesShutTwice_19 : decode cX9_doesShutTwice 19 = .ok (.aload_n 0, 1) := by decide +kernel
theorem dX9_doesShutTwice_20 : decode cX9_doesShutTwice 20 = .ok (.getfield 31, 3) := by decide +kernel
theorem dX9_doesShutTwice_23 : decode cX9_doesShutTwice 23 = .ok (.iload_n 2, 1) := by decide +kernel
theorem dX9_doesShutTwice_24 : decode cX9_doesShutTwice 24 = .ok (.iaload, 1) := by decide +kernel
theorem dX9_doesShutTwice_25 : decode cX9_doesShutTwice 25 = .ok (.iconst 1, 1) := by decide +kernel
theorem dX9_doesShutTwice_26 : decode cX9_doesShutTwice 26 = .ok (.if_icmp .ne 5, 3) := by decide +kernel
theorem dX9_doesShutTwice_29 : decode cX9_doesShutTwice 29 = .ok (.iconst 1, 1) := by decide +kernel
theorem dX9_doesShutTwice_30 : decode cX9_doesShutTwice 30 = .ok (.ireturn, 1) := by decide +kernel
theorem dX9_doesShutTwice_31 : decode cX9_doesShutTwice 31 = .ok (.iinc 2 1, 3) := by decide +kernel
theorem dX9_doesShutTwice_34 : decode cX9_doesShutTwice 34 = .ok (.goto (-32), 3) := by decide +kernel
theorem dX9_doesShutTwice_37 : decode cX9_doesShutTwice 37 = .ok (.iconst 0, 1) := by decide +kernel
theorem dX9_doesShutTwice_38 : decode cX9_doesShutTwice 38 = .ok (.ireturn, 1) := by decide +kernel
theorem dX9_reach_0 : decode cX9_reach 0 = .ok (.aload_n 0, 1) := by decide +kernel
theorem dX9_reach_1 : decode cX9_reach 1 = .ok (.iload_n 1, 1) := by decide +kernel
theorem dX9_reach_2 : decode cX9_reach 2 = .ok (.invokevirtual 188, 3) := by decide +kernel
theorem dX9_reach_5 : decode cX9_reach 5 = .ok (.ifCond .ne 9, 3) := by decide +kernel
theorem dX9_reach_8 : decode cX9_reach 8 = .ok (.aload_n 0, 1) := by decide +kernel
theorem dX9_reach_9 : decode cX9_reach 9 = .ok (.iconst (-1), 1) := by decide +kernel
theorem dX9_reach_10 : decode cX9_reach 10 = .ok (.invokevirtual 171, 3) := by decide +kernel
theorem dX9_reach_13 : decode cX9_reach 13 = .ok (.ireturn, 1) := by decide +kernel
theorem dX9_reach_14 : decode cX9_reach 14 = .ok (.iload_n 2, 1) := by decide +kernel
theorem dX9_reach_15 : decode cX9_reach 15 = .ok (.iconst 0, 1) := by decide +kernel
theorem dX9_reach_16 : decode cX9_reach 16 = .ok (.bipush 6, 2) := by decide +kernel
theorem dX9_reach_18 : decode cX9_reach 18 = .ok (.invokestatic 167, 3) := by decide +kernel
theorem dX9_reach_21 : decode cX9_reach 21 = .ok (.ifCond .eq 12, 3) := by decide +kernel
theorem dX9_reach_24 : decode cX9_reach 24 = .ok (.aload_n 0, 1) := by decide +kernel
theorem dX9_reach_25 : decode cX9_reach 25 = .ok (.getfield 41, 3) := by decide +kernel
theorem dX9_reach_28 : decode cX9_reach 28 = .ok (.iconst 0, 1) := by decide +kernel
theorem dX9_reach_29 : decode cX9_reach 29 = .ok (.iaload, 1) := by decide +kernel
theorem dX9_reach_30 : decode cX9_reach 30 = .ok (.ifCond .ge 10, 3) := by decide +kernel
theorem dX9_reach_33 : decode cX9_reach 33 = .ok (.aload_n 0, 1) := by decide +kernel
theorem dX9_reach_34 : decode cX9_reach 34 = .ok (.bipush (-6), 2) := by decide +kernel
theorem dX9_reach_36 : decode cX9_reach 36 = .ok (.invokevirtual 171, 3) := by decide +kernel
theorem dX9_reach_39 : decode cX9_reach 39 = .ok (.ireturn, 1) := by decide +kernel
theorem dX9_reach_40 : decode cX9_reach 40 = .ok (.iconst 0, 1) := by decide +kernel
theorem dX9_reach_41 : decode cX9_reach 41 = .ok (.istore_n 3, 1) := by decide +kernel
theorem dX9_reach_42 : decode cX9_reach 42 = .ok (.aload_n 0, 1) := by decide +kernel
theorem dX9_reach_43 : decode cX9_reach 43 = .ok (.iload_n 2, 1) := by decide +kernel
theorem dX9_reach_44 : decode cX9_reach 44 = .ok (.iconst 0, 1) := by decide +kernel
theorem dX9_reach_45 : decode cX9_reach 45 = .ok (.invokevirtual 322, 3) := by decide +kernel
theorem dX9_reach_48 : decode cX9_reach 48 = .ok (.aload_n 0, 1) := by decide +kernel
theorem dX9_reach_49 : decode cX9_reach 49 = .ok (.invokevirtual 325, 3) := by decide +kernel
theorem dX9_reach_52 : decode cX9_reach 52 = .ok (.ifCond .eq 23, 3) := by decide +kernel
theorem dX9_reach_55 : decode cX9_reach 55 = .ok (.iload_n 3, 1) := by decide +kernel
theorem dX9_reach_56 : decode cX9_reach 56 = .ok (.aload_n 0, 1) := by decide +kernel
theorem dX9_reach_57 : decode cX9_reach 57 = .ok (.getfield 50, 3) := by decide +kernel
theorem dX9_reach_60 : decode cX9_reach 60 = .ok (.bipush 8, 2) := by decide +kernel
theorem dX9_reach_62 : decode cX9_reach 62 = .ok (.aload_n 0, 1) := by decide +kernel
theorem dX9_reach_63 : decode cX9_reach 63 = .ok (.getfield 123, 3) := by decide +kernel
theorem dX9_reach_66 : decode cX9_reach 66 = .ok (.imul, 1) := by decide +kernel
theorem dX9_reach_67 : decode cX9_reach 67 = .ok (.iload_n 1, 1) := by decide +kernel
theorem dX9_reach_68 : decode cX9_reach 68 = .ok (.iadd, 1) := by decide +kernel
theorem dX9_reach_69 : decode cX9_reach 69 = .ok (.iaload, 1) := by decide +kernel
theorem dX9_reach_70 : decode cX9_reach 70 = .ok (.ior, 1) := by decide +kernel
theorem dX9_reach_71 : decode cX9_reach 71 = .ok (.istore_n 3, 1) := by decide +kernel
theorem dX9_reach_72 : decode cX9_reach 72 = .ok (.goto (-24), 3) := by decide +kernel
theorem dX9_reach_75 : decode cX9_reach 75 = .ok (.iload_n 3, 1) := by decide +kernel
theorem dX9_reach_76 : decode cX9_reach 76 = .ok (.ireturn, 1) := by decide +kernel
theorem dX9_first_0 : decode cX9_first 0 = .ok (.aload_n 0, 1) := by decide +kernel
theorem dX9_first_1 : decode cX9_first 1 = .ok (.iload_n 1, 1) := by decide +kernel
theorem dX9_first_2 : decode cX9_first 2 = .ok (.invokevirtual 188, 3) := by decide +kernel
theorem dX9_first_5 : decode cX9_first 5 = .ok (.ifCond .ne 9, 3) := by decide +kernel
theorem dX9_first_8 : decode cX9_first 8 = .ok (.aload_n 0, 1) := by decide +kernel
theorem dX9_first_9 : decode cX9_first 9 = .ok (.iconst (-1), 1) := by decide +kernel
theorem dX9_first_10 : decode cX9_first 10 = .ok (.invokevirtual 300, 3) := by decide +kernel
theorem dX9_first_13 : decode cX9_first 13 = .ok (.ireturn, 1) := by decide +kernel
theorem dX9_first_14 : decode cX9_first 14 = .ok (.iload_n 2, 1) := by decide +kernel
theorem dX9_first_15 : decode cX9_first 15 = .ok (.invokestatic 195, 3) := by decide +kernel
theorem dX9_first_18 : decode cX9_first 18 = .ok (.ifCond .eq 12, 3) := by decide +kernel
theorem dX9_first_21 : decode cX9_first 21 = .ok (.aload_n 0, 1) := by decide +kernel
theorem dX9_first_22 : decode cX9_first 22 = .ok (.getfield 41, 3) := by decide +kernel
theorem dX9_first_25 : decode cX9_first 25 = .ok (.iconst 0, 1) := by decide +kernel
theorem dX9_first_26 : decode cX9_first 26 = .ok (.iaload, 1) := by decide +kernel
theorem dX9_first_27 : decode cX9_first 27 = .ok (.ifCond .ge 10, 3) := by decide +kernel
theorem dX9_first_30 : decode cX9_first 30 = .ok (.aload_n 0, 1) := by decide +kernel
theorem dX9_first_31 : decode cX9_first 31 = .ok (.bipush (-6), 2) := by decide +kernel
theorem dX9_first_33 : decode cX9_first 33 = .ok (.invokevirtual 300, 3) := by decide +kernel
theorem dX9_first_36 : decode cX9_first 36 = .ok (.ireturn, 1) := by decide +kernel
theorem dX9_first_37 : decode cX9_first 37 = .ok (.iconst (-1), 1) := by decide +kernel
theorem dX9_first_38 : decode cX9_first 38 = .ok (.istore_n 3, 1) := by decide +kernel
theorem dX9_first_39 : decode cX9_first 39 = .ok (.aload_n 0, 1) := by decide +kernel
theorem dX9_first_40 : decode cX9_first 40 = .ok (.bipush 6, 2) := by decide +kernel
theorem dX9_first_42 : decode cX9_first 42 = .ok (.iconst 0, 1) := by decide +kernel
theorem dX9_first_43 : decode cX9_first 43 = .ok (.invokevirtual 322, 3) := by decide +kernel
theorem dX9_first_46 : decode cX9_first 46 = .ok (.aload_n 0, 1) := by decide +kernel
theorem dX9_first_47 : decode cX9_first 47 = .ok (.invokevirtual 325, 3) := by decide +kernel
theorem dX9_first_50 : decode cX9_first 50 = .ok (.ifCond .eq 67, 3) := by decide +kernel
theorem dX9_first_53 : decode cX9_first 53 = .ok (.iload_n 2, 1) := by decide +kernel
theorem dX9_first_54 : decode cX9_first 54 = .ok (.aload_n 0, 1) := by decide +kernel
theorem dX9_first_55 : decode cX9_first 55 = .ok (.getfield 50, 3) := by decide +kernel
theorem dX9_first_58 : decode cX9_first 58 = .ok (.bipush 8, 2) := by decide +kernel
theorem dX9_first_60 : decode cX9_first 60 = .ok (.aload_n 0, 1) := by decide +kernel
theorem dX9_first_61 : decode cX9_first 61 = .ok (.getfield 123, 3) := by decide +kernel
theorem dX9_first_64 : decode cX9_first 64 = .ok (.imul, 1) := by decide +kernel
theorem dX9_first_65 : decode cX9_first 65 = .ok (.iload_n 1, 1) := by decide +kernel
theorem dX9_first_66 : decode cX9_first 66 = .ok (.iadd, 1) := by decide +kernel
theorem dX9_first_67 : decode cX9_first 67 = .ok (.iaload, 1) := by decide +kernel
theorem dX9_first_68 : decode cX9_first 68 = .ok (.iconst (-1), 1) := by decide +kernel
theorem dX9_first_69 : decode cX9_first 69 = .ok (.ixor, 1) := by decide +kernel
theorem dX9_first_70 : decode cX9_first 70 = .ok (.iand, 1) := by decide +kernel
theorem dX9_first_71 : decode cX9_first 71 = .ok (.ifCond .ne 20, 3) := by decide +kernel
theorem dX9_first_74 : decode cX9_first 74 = .ok (.iload_n 3, 1) := by decide +kernel
theorem dX9_first_75 : decode cX9_first 75 = .ok (.ifCond .lt 11, 3) := by decide +kernel
theorem dX9_first_78 : decode cX9_first 78 = .ok (.aload_n 0, 1) := by decide +kernel
theorem dX9_first_79 : decode cX9_first 79 = .ok (.getfield 123, 3) := by decide +kernel
theorem dX9_first_82 : decode cX9_first 82 = .ok (.iload_n 3, 1) := by decide +kernel
theorem dX9_first_83 : decode cX9_first 83 = .ok (.if_icmp .ge 8, 3) := by decide +kernel
theorem dX9_first_86 : decode cX9_first 86 = .ok (.aload_n 0, 1) := by decide +kernel
theorem dX9_first_87 : decode cX9_first 87 = .ok (.getfield 123, 3) := by decide +kernel
theorem dX9_first_90 : decode cX9_first 90 = .ok (.istore_n 3, 1) := by decide +kernel
theorem dX9_first_91 : decode cX9_first 91 = .ok (.aload_n 0, 1) := by decide +kernel
theorem dX9_first_92 : decode cX9_first 92 = .ok (.iload_n 3, 1) := by decide +kernel
theorem dX9_first_93 : decode cX9_first 93 = .ok (.ifCond .lt 17, 3) := by decide +kernel
theorem dX9_first_96 : decode cX9_first 96 = .ok (.aload_n 0, 1) := by decide +kernel
theorem dX9_first_97 : decode cX9_first 97 = .ok (.getfield 123, 3) := by decide +kernel
theorem dX9_first_100 : decode cX9_first 100 = .ok (.iconst 1, 1) := by decide +kernel
theorem dX9_first_101 : decode cX9_first 101 = .ok (.iadd, 1) := by decide +kernel
theorem dX9_first_102 : decode cX9_first 102 = .ok (.iload_n 3, 1) := by decide +kernel
theorem dX9_first_103 : decode cX9_first 103 = .ok (.if_icmp .lt 7, 3) := by decide +kernel
theorem dX9_first_106 : decode cX9_first 106 = .ok (.iconst 1, 1) := by decide +kernel
theorem dX9_first_107 : decode cX9_first 107 = .ok (.goto 4, 3) := by decide +kernel
theorem dX9_first_110 : decode cX9_first 110 = .ok (.iconst 0, 1) := by decide +kernel
theorem dX9_first_111 : decode cX9_first 111 = .ok (.putfield 133, 3) := by decide +kernel
theorem dX9_first_114 : decode cX9_first 114 = .ok (.goto (-68), 3) := by decide +kernel
theorem dX9_first_117 : decode cX9_first 117 = .ok (.iload_n 3, 1) := by decide +kernel
theorem dX9_first_118 : decode cX9_first 118 = .ok (.ireturn, 1) := by decide +kernel
theorem dX9_note_0 : decode cX9_note 0 = .ok (.aload_n 0, 1) := by decide +kernel
theorem dX9_note_1 : decode cX9_note 1 = .ok (.getfield 355, 3) := by decide +kernel
theorem dX9_note_4 : decode cX9_note 4 = .ok (.bipush 20, 2) := by decide +kernel
theorem dX9_note_6 : decode cX9_note 6 = .ok (.if_icmp .ge 13, 3) := by decide +kernel
theorem dX9_note_9 : decode cX9_note 9 = .ok (.aload_n 0, 1) := by decide +kernel
theorem dX9_note_10 : decode cX9_note 10 = .ok (.getfield 99, 3) := by decide +kernel
theorem dX9_note_13 : decode cX9_note 13 = .ok (.aload_n 0, 1) := by decide +kernel
theorem dX9_note_14 : decode cX9_note 14 = .ok (.getfield 355, 3) := by decide +kernel
theorem dX9_note_17 : decode cX9_note 17 = .ok (.iload_n 1, 1) := by decide +kernel
theorem dX9_note_18 : decode cX9_note 18 = .ok (.iastore, 1) := by decide +kernel
theorem dX9_note_19 : decode cX9_note 19 = .ok (.aload_n 0, 1) := by decide +kernel
theorem dX9_note_20 : decode cX9_note 20 = .ok (.dup, 1) := by decide +kernel
theorem dX9_note_21 : decode cX9_note 21 = .ok (.getfield 355, 3) := by decide +kernel
theorem dX9_note_24 : decode cX9_note 24 = .ok (.iconst 1, 1) := by decide +kernel
theorem dX9_note_25 : decode cX9_note 25 = .ok (.iadd, 1) := by decide +kernel
theorem dX9_note_26 : decode cX9_note 26 = .ok (.putfield 355, 3) := by decide +kernel
theorem dX9_note_29 : decode cX9_note 29 = .ok (.return_, 1) := by decide +kernel
theorem dX9_callsOf_0 : decode cX9_callsOf 0 = .ok (.aload_n 0, 1) := by decide +kernel
theorem dX9_callsOf_1 : decode cX9_callsOf 1 = .ok (.getfield 13, 3) := by decide +kernel
theorem dX9_callsOf_4 : decode cX9_callsOf 4 = .ok (.iload_n 1, 1) := by decide +kernel
theorem dX9_callsOf_5 : decode cX9_callsOf 5 = .ok (.iaload, 1) := by decide +kernel
theorem dX9_callsOf_6 : decode cX9_callsOf 6 = .ok (.iconst 1, 1) := by decide +kernel
theorem dX9_callsOf_7 : decode cX9_callsOf 7 = .ok (.if_icmp .ne 9, 3) := by decide +kernel
theorem dX9_callsOf_10 : decode cX9_callsOf 10 = .ok (.aload_n 0, 1) := by decide +kernel
theorem dX9_callsOf_11 : decode cX9_callsOf 11 = .ok (.bipush 20, 2) := by decide +kernel
theorem dX9_callsOf_13 : decode cX9_callsOf 13 = .ok (.invokevirtual 358, 3) := by decide +kernel
theorem dX9_callsOf_16 : decode cX9_callsOf 16 = .ok (.aload_n 0, 1) := by decide +kernel
theorem dX9_callsOf_17 : decode cX9_callsOf 17 = .ok (.getfield 13, 3) := by decide +kernel
theorem dX9_callsOf_20 : decode cX9_callsOf 20 = .ok (.iload_n 1, 1) := by decide +kernel
theorem dX9_callsOf_21 : decode cX9_callsOf 21 = .ok (.iaload, 1) := by decide +kernel
theorem dX9_callsOf_22 : decode cX9_callsOf 22 = .ok (.bipush 6, 2) := by decide +kernel
theorem dX9_callsOf_24 : decode cX9_callsOf 24 = .ok (.if_icmp .ne 9, 3) := by decide +kernel
theorem dX9_callsOf_27 : decode cX9_callsOf 27 = .ok (.aload_n 0, 1) := by decide +kernel
theorem dX9_callsOf_28 : decode cX9_callsOf 28 = .ok (.bipush 70, 2) := by decide +kernel
theorem dX9_callsOf_30 : decode cX9_callsOf 30 = .ok (.invokevirtual 358, 3) := by decide +kernel
theorem dX9_callsOf_33 : decode cX9_callsOf 33 = .ok (.aload_n 0, 1) := by decide +kernel
theorem dX9_callsOf_34 : decode cX9_callsOf 34 = .ok (.bipush 10, 2) := by decide +kernel
theorem dX9_callsOf_36 : decode cX9_callsOf 36 = .ok (.invokevirtual 358, 3) := by decide +kernel
theorem dX9_callsOf_39 : decode cX9_callsOf 39 = .ok (.iload_n 2, 1) := by decide +kernel
theorem dX9_callsOf_40 : decode cX9_callsOf 40 = .ok (.iload_n 1, 1) := by decide +kernel
theorem dX9_callsOf_41 : decode cX9_callsOf 41 = .ok (.iadd, 1) := by decide +kernel
theorem dX9_callsOf_42 : decode cX9_callsOf 42 = .ok (.istore_n 3, 1) := by decide +kernel
theorem dX9_callsOf_43 : decode cX9_callsOf 43 = .ok (.aload_n 0, 1) := by decide +kernel
theorem dX9_callsOf_44 : decode cX9_callsOf 44 = .ok (.getfield 13, 3) := by decide +kernel
theorem dX9_callsOf_47 : decode cX9_callsOf 47 = .ok (.iload_n 1, 1) := by decide +kernel
theorem dX9_callsOf_48 : decode cX9_callsOf 48 = .ok (.iaload, 1) := by decide +kernel
theorem dX9_callsOf_49 : decode cX9_callsOf 49 = .ok (.iconst 1, 1) := by decide +kernel
theorem dX9_callsOf_50 : decode cX9_callsOf 50 = .ok (.if_icmp .ne 14, 3) := by decide +kernel
theorem dX9_callsOf_53 : decode cX9_callsOf 53 = .ok (.iload_n 3, 1) := by decide +kernel
theorem dX9_callsOf_54 : decode cX9_callsOf 54 = .ok (.aload_n 0, 1) := by decide +kernel
theorem dX9_callsOf_55 : decode cX9_callsOf 55 = .ok (.getfield 19, 3) := by decide +kernel
theorem dX9_callsOf_58 : decode cX9_callsOf 58 = .ok (.iload_n 1, 1) := by decide +kernel
theorem dX9_callsOf_59 : decode cX9_callsOf 59 = .ok (.iaload, 1) := by decide +kernel
theorem dX9_callsOf_60 : decode cX9_callsOf 60 = .ok (.iadd, 1) := by decide +kernel
theorem dX9_callsOf_61 : decode cX9_callsOf 61 = .ok (.goto 21, 3) := by decide +kernel
theorem dX9_callsOf_64 : decode cX9_callsOf 64 = .ok (.aload_n 0, 1) := by decide +kernel
theorem dX9_callsOf_65 : decode cX9_callsOf 65 = .ok (.getfield 13, 3) := by decide +kernel
theorem dX9_callsOf_68 : decode cX9_callsOf 68 = .ok (.iload_n 1, 1) := by decide +kernel
theorem dX9_callsOf_69 : decode cX9_callsOf 69 = .ok (.iaload, 1) := by decide +kernel
theorem dX9_callsOf_70 : decode cX9_callsOf 70 = .ok (.bipush 6, 2) := by decide +kernel
theorem dX9_callsOf_72 : decode cX9_callsOf 72 = .ok (.if_icmp .ne 9, 3) := by decide +kernel
theorem dX9_callsOf_75 : decode cX9_callsOf 75 = .ok (.iload_n 3, 1) := by decide +kernel
theorem dX9_callsOf_76 : decode cX9_callsOf 76 = .ok (.iconst 2, 1) := by decide +kernel
theorem dX9_callsOf_77 : decode cX9_callsOf 77 = .ok (.imul, 1) := by decide +kernel
theorem dX9_callsOf_78 : decode cX9_callsOf 78 = .ok (.goto 4, 3) := by decide +kernel
theorem dX9_callsOf_81 : decode cX9_callsOf 81 = .ok (.iload_n 3, 1) := by decide +kernel
theorem dX9_callsOf_82 : decode cX9_callsOf 82 = .ok (.ireturn, 1) := by decide +kernel
theorem dX9_plainHushes_0 : decode cX9_plainHushes 0 = .ok (.aload_n 0, 1) := by decide +kernel
theorem dX9_plainHushes_1 : decode cX9_plainHushes 1 = .ok (.bipush 11, 2) := by decide +kernel
theorem dX9_plainHushes_3 : decode cX9_plainHushes 3 = .ok (.invokevirtual 358, 3) := by decide +kernel
theorem dX9_plainHushes_6 : decode cX9_plainHushes 6 = .ok (.aload_n 0, 1) := by decide +kernel
theorem dX9_plainHushes_7 : decode cX9_plainHushes 7 = .ok (.iload_n 1, 1) := by decide +kernel
theorem dX9_plainHushes_8 : decode cX9_plainHushes 8 = .ok (.iload_n 2, 1) := by decide +kernel
theorem dX9_plainHushes_9 : decode cX9_plainHushes 9 = .ok (.invokevirtual 361, 3) := by decide +kernel
theorem dX9_plainHushes_12 : decode cX9_plainHushes 12 = .ok (.iconst 2, 1) := by decide +kernel
theorem dX9_plainHushes_13 : decode cX9_plainHushes 13 = .ok (.imul, 1) := by decide +kernel
theorem dX9_plainHushes_14 : decode cX9_plainHushes 14 = .ok (.ireturn, 1) := by decide +kernel
theorem dX9_hushesOf_0 : decode cX9_hushesOf 0 = .ok (.aload_n 0, 1) := by decide +kernel
theorem dX9_hushesOf_1 : decode cX9_hushesOf 1 = .ok (.getfield 13, 3) := by decide +kernel
theorem dX9_hushesOf_4 : decode cX9_hushesOf 4 = .ok (.iload_n 1, 1) := by decide +kernel
theorem dX9_hushesOf_5 : decode cX9_hushesOf 5 = .ok (.iaload, 1) := by decide +kernel
theorem dX9_hushesOf_6 : decode cX9_hushesOf 6 = .ok (.tableswitch 92 2 6 #[34, 49, 92, 92, 72], 34) := by decide +kernel
theorem dX9_hushesOf_40 : decode cX9_hushesOf 40 = .ok (.aload_n 0, 1) := by decide +kernel
theorem dX9_hushesOf_41 : decode cX9_hushesOf 41 = .ok (.bipush 30, 2) := by decide +kernel
theorem dX9_hushesOf_43 : decode cX9_hushesOf 43 = .ok (.invokevirtual 358, 3) := by decide +kernel
theorem dX9_hushesOf_46 : decode cX9_hushesOf 46 = .ok (.aload_n 0, 1) := by decide +kernel
theorem dX9_hushesOf_47 : decode cX9_hushesOf 47 = .ok (.iload_n 1, 1) := by decide +kernel
theorem dX9_hushesOf_48 : decode cX9_hushesOf 48 = .ok (.iload_n 2, 1) := by decide +kernel
theorem dX9_hushesOf_49 : decode cX9_hushesOf 49 = .ok (.invokevirtual 364, 3) := by decide +kernel
theorem dX9_hushesOf_52 : decode cX9_hushesOf 52 = .ok (.iconst 3, 1) := by decide +kernel
theorem dX9_hushesOf_53 : decode cX9_hushesOf 53 = .ok (.imul, 1) := by decide +kernel
theorem dX9_hushesOf_54 : decode cX9_hushesOf 54 = .ok (.ireturn, 1) := by decide +kernel
theorem dX9_hushesOf_55 : decode cX9_hushesOf 55 = .ok (.aload_n 0, 1) := by decide +kernel
theorem dX9_hushesOf_56 : decode cX9_hushesOf 56 = .ok (.bipush 40, 2) := by decide +kernel
theorem dX9_hushesOf_58 : decode cX9_hushesOf 58 = .ok (.invokevirtual 358, 3) := by decide +kernel
theorem dX9_hushesOf_61 : decode cX9_hushesOf 61 = .ok (.aload_n 0, 1) := by decide +kernel
theorem dX9_hushesOf_62 : decode cX9_hushesOf 62 = .ok (.bipush 30, 2) := by decide +kernel
theorem dX9_hushesOf_64 : decode cX9_hushesOf 64 = .ok (.invokevirtual 358, 3) := by decide +kernel
theorem dX9_hushesOf_67 : decode cX9_hushesOf 67 = .ok (.aload_n 0, 1) := by decide +kernel
theorem dX9_hushesOf_68 : decode cX9_hushesOf 68 = .ok (.iload_n 1, 1) := by decide +kernel
theorem dX9_hushesOf_69 : decode cX9_hushesOf 69 = .ok (.iload_n 2, 1) := by decide +kernel
theorem dX9_hushesOf_70 : decode cX9_hushesOf 70 = .ok (.iconst 1, 1) := by decide +kernel
theorem dX9_hushesOf_71 : decode cX9_hushesOf 71 = .ok (.iadd, 1) := by decide +kernel
theorem dX9_hushesOf_72 : decode cX9_hushesOf 72 = .ok (.invokevirtual 364, 3) := by decide +kernel
theorem dX9_hushesOf_75 : decode cX9_hushesOf 75 = .ok (.iconst 3, 1) := by decide +kernel
theorem dX9_hushesOf_76 : decode cX9_hushesOf 76 = .ok (.imul, 1) := by decide +kernel
theorem dX9_hushesOf_77 : decode cX9_hushesOf 77 = .ok (.ireturn, 1) := by decide +kernel
theorem dX9_hushesOf_78 : decode cX9_hushesOf 78 = .ok (.aload_n 0, 1) := by decide +kernel
theorem dX9_hushesOf_79 : decode cX9_hushesOf 79 = .ok (.bipush 71, 2) := by decide +kernel
theorem dX9_hushesOf_81 : decode cX9_hushesOf 81 = .ok (.invokevirtual 358, 3) := by decide +kernel
theorem dX9_hushesOf_84 : decode cX9_hushesOf 84 = .ok (.aload_n 0, 1) := by decide +kernel
theorem dX9_hushesOf_85 : decode cX9_hushesOf 85 = .ok (.iload_n 1, 1) := by decide +kernel
theorem dX9_hushesOf_86 : decode cX9_hushesOf 86 = .ok (.iload_n 2, 1) := by decide +kernel
theorem dX9_hushesOf_87 : decode cX9_hushesOf 87 = .ok (.aload_n 0, 1) := by decide +kernel
theorem dX9_hushesOf_88 : decode cX9_hushesOf 88 = .ok (.getfield 19, 3) := by decide +kernel
theorem dX9_hushesOf_91 : decode cX9_hushesOf 91 = .ok (.iload_n 1, 1) := by decide +kernel
theorem dX9_hushesOf_92 : decode cX9_hushesOf 92 = .ok (.iaload, 1) := by decide +kernel
theorem dX9_hushesOf_93 : decode cX9_hushesOf 93 = .ok (.isub, 1) := by decide +kernel
theorem dX9_hushesOf_94 : decode cX9_hushesOf 94 = .ok (.invokevirtual 364, 3) := by decide +kernel
theorem dX9_hushesOf_97 : decode cX9_hushesOf 97 = .ok (.ireturn, 1) := by decide +kernel
theorem dX9_hushesOf_98 : decode cX9_hushesOf 98 = .ok (.aload_n 0, 1) := by decide +kernel
theorem dX9_hushesOf_99 : decode cX9_hushesOf 99 = .ok (.iload_n 1, 1) := by decide +kernel
theorem dX9_hushesOf_100 : decode cX9_hushesOf 100 = .ok (.iload_n 2, 1) := by decide +kernel
theorem dX9_hushesOf_101 : decode cX9_hushesOf 101 = .ok (.invokevirtual 364, 3) := by decide +kernel
theorem dX9_hushesOf_104 : decode cX9_hushesOf 104 = .ok (.ireturn, 1) := by decide +kernel
theorem dX9_plainOpens_0 : decode cX9_plainOpens 0 = .ok (.aload_n 0, 1) := by decide +kernel
theorem dX9_plainOpens_1 : decode cX9_plainOpens 1 = .ok (.bipush 12, 2) := by decide +kernel
theorem dX9_plainOpens_3 : decode cX9_plainOpens 3 = .ok (.invokevirtual 358, 3) := by decide +kernel
theorem dX9_plainOpens_6 : decode cX9_plainOpens 6 = .ok (.aload_n 0, 1) := by decide +kernel
theorem dX9_plainOpens_7 : decode cX9_plainOpens 7 = .ok (.iload_n 1, 1) := by decide +kernel
theorem dX9_plainOpens_8 : decode cX9_plainOpens 8 = .ok (.iload_n 2, 1) := by decide +kernel
theorem dX9_plainOpens_9 : decode cX9_plainOpens 9 = .ok (.invokevirtual 367, 3) := by decide +kernel
theorem dX9_plainOpens_12 : decode cX9_plainOpens 12 = .ok (.istore_n 3, 1) := by decide +kernel
theorem dX9_plainOpens_13 : decode cX9_plainOpens 13 = .ok (.iload_n 3, 1) := by decide +kernel
theorem dX9_plainOpens_14 : decode cX9_plainOpens 14 = .ok (.aload_n 0, 1) := by decide +kernel
theorem dX9_plainOpens_15 : decode cX9_plainOpens 15 = .ok (.iload_n 1, 1) := by decide +kernel
theorem dX9_plainOpens_16 : decode cX9_plainOpens 16 = .ok (.iload_n 2, 1) := by decide +kernel
theorem dX9_plainOpens_17 : decode cX9_plainOpens 17 = .ok (.aload_n 0, 1) := by decide +kernel
theorem dX9_plainOpens_18 : decode cX9_plainOpens 18 = .ok (.getfield 19, 3) := by decide +kernel
theorem dX9_plainOpens_21 : decode cX9_plainOpens 21 = .ok (.iload_n 1, 1) := by decide +kernel
theorem dX9_plainOpens_22 : decode cX9_plainOpens 22 = .ok (.iaload, 1) := by decide +kernel
theorem dX9_plainOpens_23 : decode cX9_plainOpens 23 = .ok (.isub, 1) := by decide +kernel
theorem dX9_plainOpens_24 : decode cX9_plainOpens 24 = .ok (.invokevirtual 361, 3) := by decide +kernel
theorem dX9_plainOpens_27 : decode cX9_plainOpens 27 = .ok (.ixor, 1) := by decide +kernel
theorem dX9_plainOpens_28 : decode cX9_plainOpens 28 = .ok (.ireturn, 1) := by decide +kernel
theorem dX9_opensOf_0 : decode cX9_opensOf 0 = .ok (.aload_n 0, 1) := by decide +kernel
theorem dX9_opensOf_1 : decode cX9_opensOf 1 = .ok (.getfield 13, 3) := by decide +kernel
theorem dX9_opensOf_4 : decode cX9_opensOf 4 = .ok (.iload_n 1, 1) := by decide +kernel
theorem dX9_opensOf_5 : decode cX9_opensOf 5 = .ok (.iaload, 1) := by decide +kernel
theorem dX9_opensOf_6 : decode cX9_opensOf 6 = .ok (.tableswitch 77 3 5 #[26, 41, 55], 26) := by decide +kernel
theorem dX9_opensOf_32 : decode cX9_opensOf 32 = .ok (.aload_n 0, 1) := by decide +kernel
theorem dX9_opensOf_33 : decode cX9_opensOf 33 = .ok (.bipush 41, 2) := by decide +kernel
theorem dX9_opensOf_35 : decode cX9_opensOf 35 = .ok (.invokevirtual 358, 3) := by decide +kernel
theorem dX9_opensOf_38 : decode cX9_opensOf 38 = .ok (.aload_n 0, 1) := by decide +kernel
theorem dX9_opensOf_39 : decode cX9_opensOf 39 = .ok (.iload_n 1, 1) := by decide +kernel
theorem dX9_opensOf_40 : decode cX9_opensOf 40 = .ok (.iload_n 2, 1) := by decide +kernel
theorem dX9_opensOf_41 : decode cX9_opensOf 41 = .ok (.invokevirtual 370, 3) := by decide +kernel
theorem dX9_opensOf_44 : decode cX9_opensOf 44 = .ok (.iload_n 1, 1) := by decide +kernel
theorem dX9_opensOf_45 : decode cX9_opensOf 45 = .ok (.isub, 1) := by decide +kernel
theorem dX9_opensOf_46 : decode cX9_opensOf 46 = .ok (.ireturn, 1) := by decide +kernel
theorem dX9_opensOf_47 : decode cX9_opensOf 47 = .ok (.aload_n 0, 1) := by decide +kernel
theorem dX9_opensOf_48 : decode cX9_opensOf 48 = .ok (.bipush 50, 2) := by decide +kernel
theorem dX9_opensOf_50 : decode cX9_opensOf 50 = .ok (.invokevirtual 358, 3) := by decide +kernel
theorem dX9_opensOf_53 : decode cX9_opensOf 53 = .ok (.aload_n 0, 1) := by decide +kernel
theorem dX9_opensOf_54 : decode cX9_opensOf 54 = .ok (.iload_n 1, 1) := by decide +kernel
theorem dX9_opensOf_55 : decode cX9_opensOf 55 = .ok (.iload_n 2, 1) := by decide +kernel
theorem dX9_opensOf_56 : decode cX9_opensOf 56 = .ok (.invokevirtual 370, 3) := by decide +kernel
theorem dX9_opensOf_59 : decode cX9_opensOf 59 = .ok (.ineg, 1) := by decide +kernel
theorem dX9_opensOf_60 : decode cX9_opensOf 60 = .ok (.ireturn, 1) := by decide +kernel
theorem dX9_opensOf_61 : decode cX9_opensOf 61 = .ok (.aload_n 0, 1) := by decide +kernel
theorem dX9_opensOf_62 : decode cX9_opensOf 62 = .ok (.bipush 60, 2) := by decide +kernel
theorem dX9_opensOf_64 : decode cX9_opensOf 64 = .ok (.invokevirtual 358, 3) := by decide +kernel
theorem dX9_opensOf_67 : decode cX9_opensOf 67 = .ok (.aload_n 0, 1) := by decide +kernel
theorem dX9_opensOf_68 : decode cX9_opensOf 68 = .ok (.bipush 50, 2) := by decide +kernel
theorem dX9_opensOf_70 : decode cX9_opensOf 70 = .ok (.invokevirtual 358, 3) := by decide +kernel
theorem dX9_opensOf_73 : decode cX9_opensOf 73 = .ok (.aload_n 0, 1) := by decide +kernel
theorem dX9_opensOf_74 : decode cX9_opensOf 74 = .ok (.iload_n 1, 1) := by decide +kernel
theorem dX9_opensOf_75 : decode cX9_opensOf 75 = .ok (.iload_n 2, 1) := by decide +kernel
theorem dX9_opensOf_76 : decode cX9_opensOf 76 = .ok (.invokevirtual 370, 3) := by decide +kernel
theorem dX9_opensOf_79 : decode cX9_opensOf 79 = .ok (.ineg, 1) := by decide +kernel
theorem dX9_opensOf_80 : decode cX9_opensOf 80 = .ok (.iconst 5, 1) := by decide +kernel
theorem dX9_opensOf_81 : decode cX9_opensOf 81 = .ok (.ixor, 1) := by decide +kernel
theorem dX9_opensOf_82 : decode cX9_opensOf 82 = .ok (.ireturn, 1) := by decide +kernel
theorem dX9_opensOf_83 : decode cX9_opensOf 83 = .ok (.aload_n 0, 1) := by decide +kernel
theorem dX9_opensOf_84 : decode cX9_opensOf 84 = .ok (.iload_n 1, 1) := by decide +kernel
theorem dX9_opensOf_85 : decode cX9_opensOf 85 = .ok (.iload_n 2, 1) := by decide +kernel
theorem dX9_opensOf_86 : decode cX9_opensOf 86 = .ok (.invokevirtual 370, 3) := by decide +kernel
theorem dX9_opensOf_89 : decode cX9_opensOf 89 = .ok (.ireturn, 1) := by decide +kernel
theorem dX9_act_0 : decode cX9_act 0 = .ok (.aload_n 0, 1) := by decide +kernel
theorem dX9_act_1 : decode cX9_act 1 = .ok (.iconst 0, 1) := by decide +kernel
theorem dX9_act_2 : decode cX9_act 2 = .ok (.putfield 355, 3) := by decide +kernel
theorem dX9_act_5 : decode cX9_act 5 = .ok (.aload_n 0, 1) := by decide +kernel
theorem dX9_act_6 : decode cX9_act 6 = .ok (.iload_n 1, 1) := by decide +kernel
theorem dX9_act_7 : decode cX9_act 7 = .ok (.invokevirtual 188, 3) := by decide +kernel
theorem dX9_act_10 : decode cX9_act 10 = .ok (.ifCond .eq 12, 3) := by decide +kernel
theorem dX9_act_13 : decode cX9_act 13 = .ok (.iload_n 2, 1) := by decide +kernel
theorem dX9_act_14 : decode cX9_act 14 = .ok (.iconst 0, 1) := by decide +kernel
theorem dX9_act_15 : decode cX9_act 15 = .ok (.iconst 2, 1) := by decide +kernel
theorem dX9_act_16 : decode cX9_act 16 = .ok (.invokestatic 167, 3) := by decide +kernel
theorem dX9_act_19 : decode cX9_act 19 = .ok (.ifCond .ne 5, 3) := by decide +kernel
theorem dX9_act_22 : decode cX9_act 22 = .ok (.iconst 0, 1) := by decide +kernel
theorem dX9_act_23 : decode cX9_act 23 = .ok (.ireturn, 1) := by decide +kernel
theorem dX9_act_24 : decode cX9_act 24 = .ok (.iload_n 2, 1) := by decide +kernel
theorem dX9_act_25 : decode cX9_act 25 = .ok (.ifCond .ne 12, 3) := by decide +kernel
theorem dX9_act_28 : decode cX9_act 28 = .ok (.aload_n 0, 1) := by decide +kernel
theorem dX9_act_29 : decode cX9_act 29 = .ok (.iload_n 1, 1) := by decide +kernel
theorem dX9_act_30 : decode cX9_act 30 = .ok (.iload_n 3, 1) := by decide +kernel
theorem dX9_act_31 : decode cX9_act 31 = .ok (.invokevirtual 361, 3) := by decide +kernel
theorem dX9_act_34 : decode cX9_act 34 = .ok (.goto 23, 3) := by decide +kernel
theorem dX9_act_37 : decode cX9_act 37 = .ok (.iload_n 2, 1) := by decide +kernel
theorem dX9_act_38 : decode cX9_act 38 = .ok (.iconst 1, 1) := by decide +kernel
theorem dX9_act_39 : decode cX9_act 39 = .ok (.if_icmp .ne 12, 3) := by decide +kernel
theorem dX9_act_42 : decode cX9_act 42 = .ok (.aload_n 0, 1) := by decide +kernel
theorem dX9_act_43 : decode cX9_act 43 = .ok (.iload_n 1, 1) := by decide +kernel
theorem dX9_act_44 : decode cX9_act 44 = .ok (.iload_n 3, 1) := by decide +kernel
theorem dX9_act_45 : decode cX9_act 45 = .ok (.invokevirtual 367, 3) := by decide +kernel
theorem dX9_act_48 : decode cX9_act 48 = .ok (.goto 9, 3) := by decide +kernel
theorem dX9_act_51 : decode cX9_act 51 = .ok (.aload_n 0, 1) := by decide +kernel
theorem dX9_act_52 : decode cX9_act 52 = .ok (.iload_n 1, 1) := by decide +kernel
theorem dX9_act_53 : decode cX9_act 53 = .ok (.iload_n 3, 1) := by decide +kernel
theorem dX9_act_54 : decode cX9_act 54 = .ok (.invokevirtual 373, 3) := by decide +kernel
theorem dX9_act_57 : decode cX9_act 57 = .ok (.ireturn, 1) := by decide +kernel
theorem dX9_trace_0 : decode cX9_trace 0 = .ok (.iload_n 1, 1) := by decide +kernel
theorem dX9_trace_1 : decode cX9_trace 1 = .ok (.iconst 0, 1) := by decide +kernel
theorem dX9_trace_2 : decode cX9_trace 2 = .ok (.bipush 19, 2) := by decide +kernel
theorem dX9_trace_4 : decode cX9_trace 4 = .ok (.invokestatic 167, 3) := by decide +kernel
theorem dX9_trace_7 : decode cX9_trace 7 = .ok (.ifCond .eq 20, 3) := by decide +kernel
theorem dX9_trace_10 : decode cX9_trace 10 = .ok (.iload_n 1, 1) := by decide +kernel
theorem dX9_trace_11 : decode cX9_trace 11 = .ok (.aload_n 0, 1) := by decide +kernel
theorem dX9_trace_12 : decode cX9_trace 12 = .ok (.getfield 355, 3) := by decide +kernel
theorem dX9_trace_15 : decode cX9_trace 15 = .ok (.if_icmp .ge 12, 3) := by decide +kernel
theorem dX9_trace_18 : decode cX9_trace 18 = .ok (.aload_n 0, 1) := by decide +kernel
theorem dX9_trace_19 : decode cX9_trace 19 = .ok (.getfield 99, 3) := by decide +kernel
theorem dX9_trace_22 : decode cX9_trace 22 = .ok (.iload_n 1, 1) := by decide +kernel
theorem dX9_trace_23 : decode cX9_trace 23 = .ok (.iaload, 1) := by decide +kernel
theorem dX9_trace_24 : decode cX9_trace 24 = .ok (.goto 4, 3) := by decide +kernel
theorem dX9_trace_27 : decode cX9_trace 27 = .ok (.iconst (-1), 1) := by decide +kernel
theorem dX9_trace_28 : decode cX9_trace 28 = .ok (.ireturn, 1) := by decide +kernel
theorem dX9_status_0 : decode cX9_status 0 = .ok (.iload_n 1, 1) := by decide +kernel
theorem dX9_status_1 : decode cX9_status 1 = .ok (.bipush 11, 2) := by decide +kernel
theorem dX9_status_3 : decode cX9_status 3 = .ok (.bipush 17, 2) := by decide +kernel
theorem dX9_status_5 : decode cX9_status 5 = .ok (.invokestatic 167, 3) := by decide +kernel
theorem dX9_status_8 : decode cX9_status 8 = .ok (.ifCond .eq 13, 3) := by decide +kernel
theorem dX9_status_11 : decode cX9_status 11 = .ok (.aload_n 0, 1) := by decide +kernel
theorem dX9_status_12 : decode cX9_status 12 = .ok (.getfield 7, 3) := by decide +kernel
theorem dX9_status_15 : decode cX9_status 15 = .ok (.iload_n 1, 1) := by decide +kernel
theorem dX9_status_16 : decode cX9_status 16 = .ok (.bipush 10, 2) := by decide +kernel
theorem dX9_status_18 : decode cX9_status 18 = .ok (.isub, 1) := by decide +kernel
theorem dX9_status_19 : decode cX9_status 19 = .ok (.iaload, 1) := by decide +kernel
theorem dX9_status_20 : decode cX9_status 20 = .ok (.ireturn, 1) := by decide +kernel
theorem dX9_status_21 : decode cX9_status 21 = .ok (.iconst 0, 1) := by decide +kernel
theorem dX9_status_22 : decode cX9_status 22 = .ok (.istore_n 2, 1) := by decide +kernel
theorem dX9_status_23 : decode cX9_status 23 = .ok (.iload_n 1, 1) := by decide +kernel
theorem dX9_status_24 : decode cX9_status 24 = .ok (.tableswitch 110 0 7 #[48, 53, 58, 85, 90, 95, 100, 105], 48) := by decide +kernel
theorem dX9_status_72 : decode cX9_status 72 = .ok (.aload_n 0, 1) := by decide +kernel
theorem dX9_status_73 : decode cX9_status 73 = .ok (.getfield 102, 3) := by decide +kernel
theorem dX9_status_76 : decode cX9_status 76 = .ok (.ireturn, 1) := by decide +kernel
theorem dX9_status_77 : decode cX9_status 77 = .ok (.aload_n 0, 1) := by decide +kernel
theorem dX9_status_78 : decode cX9_status 78 = .ok (.getfield 105, 3) := by decide +kernel
theorem dX9_status_81 : decode cX9_status 81 = .ok (.ireturn, 1) := by decide +kernel
theorem dX9_status_82 : decode cX9_status 82 = .ok (.iconst 0, 1) := by decide +kernel
theorem dX9_status_83 : decode cX9_status 83 = .ok (.istore_n 3, 1) := by decide +kernel
theorem dX9_status_84 : decode cX9_status 84 = .ok (.iload_n 3, 1) := by decide +kernel
theorem dX9_status_85 : decode cX9_status 85 = .ok (.aload_n 0, 1) := by decide +kernel
theorem dX9_status_86 : decode cX9_status 86 = .ok (.getfield 105, 3) := by decide +kernel
theorem dX9_status_89 : decode cX9_status 89 = .ok (.if_icmp .ge 18, 3) := by decide +kernel
theorem dX9_status_92 : decode cX9_status 92 = .ok (.iload_n 2, 1) := by decide +kernel
theorem dX9_status_93 : decode cX9_status 93 = .ok (.aload_n 0, 1) := by decide +kernel
theorem dX9_status_94 : decode cX9_status 94 = .ok (.getfield 31, 3) := by decide +kernel
theorem dX9_status_97 : decode cX9_status 97 = .ok (.iload_n 3, 1) := by decide +kernel
theorem dX9_status_98 : decode cX9_status 98 = .ok (.iaload, 1) := by decide +kernel
theorem dX9_status_99 : decode cX9_status 99 = .ok (.iadd, 1) := by decide +kernel
theorem dX9_status_100 : decode cX9_status 100 = .ok (.istore_n 2, 1) := by decide +kernel
theorem dX9_status_101 : decode cX9_status 101 = .ok (.iinc 3 1, 3) := by decide +kernel
theorem dX9_status_104 : decode cX9_status 104 = .ok (.goto (-20), 3) := by decide +kernel
theorem dX9_status_107 : decode cX9_status 107 = .ok (.iload_n 2, 1) := by decide +kernel
theorem dX9_status_108 : decode cX9_status 108 = .ok (.ireturn, 1) := by decide +kernel
theorem dX9_status_109 : decode cX9_status 109 = .ok (.aload_n 0, 1) := by decide +kernel
theorem dX9_status_110 : decode cX9_status 110 = .ok (.getfield 34, 3) := by decide +kernel
theorem dX9_status_113 : decode cX9_status 113 = .ok (.ireturn, 1) := by decide +kernel
theorem dX9_status_114 : decode cX9_status 114 = .ok (.aload_n 0, 1) := by decide +kernel
theorem dX9_status_115 : decode cX9_status 115 = .ok (.getfield 282, 3) := by decide +kernel
theorem dX9_status_118 : decode cX9_status 118 = .ok (.ireturn, 1) := by decide +kernel
theorem dX9_status_119 : decode cX9_status 119 = .ok (.aload_n 0, 1) := by decide +kernel
theorem dX9_status_120 : decode cX9_status 120 = .ok (.getfield 285, 3) := by decide +kernel
theorem dX9_status_123 : decode cX9_status 123 = .ok (.ireturn, 1) := by decide +kernel
theorem dX9_status_124 : decode cX9_status 124 = .ok (.aload_n 0, 1) := by decide +kernel
theorem dX9_status_125 : decode cX9_status 125 = .ok (.getfield 38, 3) := by decide +kernel
theorem dX9_status_128 : decode cX9_status 128 = .ok (.ireturn, 1) := by decide +kernel
theorem dX9_status_129 : decode cX9_status 129 = .ok (.aload_n 0, 1) := by decide +kernel
theorem dX9_status_130 : decode cX9_status 130 = .ok (.getfield 355, 3) := by decide +kernel
theorem dX9_status_133 : decode cX9_status 133 = .ok (.ireturn, 1) := by decide +kernel
theorem dX9_status_134 : decode cX9_status 134 = .ok (.iconst (-1), 1) := by decide +kernel
theorem dX9_status_135 : decode cX9_status 135 = .ok (.ireturn, 1) := by decide +kernel
