theorem dX7_readTie_89 : decode cX7_readTie 89 = .ok (.iconst 1, 1) := by decide +kernel
theorem dX7_readTie_90 : decode cX7_readTie 90 = .ok (.isub, 1) := by decide +kernel
theorem dX7_readTie_91 : decode cX7_readTie 91 = .ok (.invokevirtual 93, 3) := by decide +kernel
theorem dX7_readTie_94 : decode cX7_readTie 94 = .ok (.aload_n 0, 1) := by decide +kernel
theorem dX7_readTie_95 : decode cX7_readTie 95 = .ok (.iconst 2, 1) := by decide +kernel
theorem dX7_readTie_96 : decode cX7_readTie 96 = .ok (.invokevirtual 117, 3) := by decide +kernel
theorem dX7_readTie_99 : decode cX7_readTie 99 = .ok (.istore 4, 2) := by decide +kernel
theorem dX7_readTie_101 : decode cX7_readTie 101 = .ok (.aload_n 0, 1) := by decide +kernel
theorem dX7_readTie_102 : decode cX7_readTie 102 = .ok (.invokevirtual 85, 3) := by decide +kernel
theorem dX7_readTie_105 : decode cX7_readTie 105 = .ok (.ifCond .eq 23, 3) := by decide +kernel
theorem dX7_readTie_108 : decode cX7_readTie 108 = .ok (.aload_n 0, 1) := by decide +kernel
theorem dX7_readTie_109 : decode cX7_readTie 109 = .ok (.iconst 0, 1) := by decide +kernel
theorem dX7_readTie_110 : decode cX7_readTie 110 = .ok (.iload 4, 2) := by decide +kernel
theorem dX7_readTie_112 : decode cX7_readTie 112 = .ok (.invokevirtual 121, 3) := by decide +kernel
theorem dX7_readTie_115 : decode cX7_readTie 115 = .ok (.ifCond .ne 13, 3) := by decide +kernel
theorem dX7_readTie_118 : decode cX7_readTie 118 = .ok (.aload_n 0, 1) := by decide +kernel
theorem dX7_readTie_119 : decode cX7_readTie 119 = .ok (.aload_n 0, 1) := by decide +kernel
theorem dX7_readTie_120 : decode cX7_readTie 120 = .ok (.getfield 79, 3) := by decide +kernel
theorem dX7_readTie_123 : decode cX7_readTie 123 = .ok (.iconst 1, 1) := by decide +kernel
theorem dX7_readTie_124 : decode cX7_readTie 124 = .ok (.isub, 1) := by decide +kernel
theorem dX7_readTie_125 : decode cX7_readTie 125 = .ok (.invokevirtual 93, 3) := by decide +kernel
theorem dX7_readTie_128 : decode cX7_readTie 128 = .ok (.aload_n 0, 1) := by decide +kernel
theorem dX7_readTie_129 : decode cX7_readTie 129 = .ok (.getfield 21, 3) := by decide +kernel
theorem dX7_readTie_132 : decode cX7_readTie 132 = .ok (.iconst 3, 1) := by decide +kernel
theorem dX7_readTie_133 : decode cX7_readTie 133 = .ok (.iload_n 1, 1) := by decide +kernel
theorem dX7_readTie_134 : decode cX7_readTie 134 = .ok (.imul, 1) := by decide +kernel
theorem dX7_readTie_135 : decode cX7_readTie 135 = .ok (.iload_n 2, 1) := by decide +kernel
theorem dX7_readTie_136 : decode cX7_readTie 136 = .ok (.iastore, 1) := by decide +kernel
theorem dX7_readTie_137 : decode cX7_readTie 137 = .ok (.aload_n 0, 1) := by decide +kernel
theorem dX7_readTie_138 : decode cX7_readTie 138 = .ok (.getfield 21, 3) := by decide +kernel
theorem dX7_readTie_141 : decode cX7_readTie 141 = .ok (.iconst 3, 1) := by decide +kernel
theorem dX7_readTie_142 : decode cX7_readTie 142 = .ok (.iload_n 1, 1) := by decide +kernel
theorem dX7_readTie_143 : decode cX7_readTie 143 = .ok (.imul, 1) := by decide +kernel
theorem dX7_readTie_144 : decode cX7_readTie 144 = .ok (.iconst 1, 1) := by decide +kernel
theorem dX7_readTie_145 : decode cX7_readTie 145 = .ok (.iadd, 1) := by decide +kernel
theorem dX7_readTie_146 : decode cX7_readTie 146 = .ok (.iload_n 3, 1) := by decide +kernel
theorem dX7_readTie_147 : decode cX7_readTie 147 = .ok (.iastore, 1) := by decide +kernel
theorem dX7_readTie_148 : decode cX7_readTie 148 = .ok (.aload_n 0, 1) := by decide +kernel
theorem dX7_readTie_149 : decode cX7_readTie 149 = .ok (.getfield 21, 3) := by decide +kernel
theorem dX7_readTie_152 : decode cX7_readTie 152 = .ok (.iconst 3, 1) := by decide +kernel
theorem dX7_readTie_153 : decode cX7_readTie 153 = .ok (.iload_n 1, 1) := by decide +kernel
theorem dX7_readTie_154 : decode cX7_readTie 154 = .ok (.imul, 1) := by decide +kernel
theorem dX7_readTie_155 : decode cX7_readTie 155 = .ok (.iconst 2, 1) := by decide +kernel
theorem dX7_readTie_156 : decode cX7_readTie 156 = .ok (.iadd, 1) := by decide +kernel
theorem dX7_readTie_157 : decode cX7_readTie 157 = .ok (.iload 4, 2) := by decide +kernel
theorem dX7_readTie_159 : decode cX7_readTie 159 = .ok (.iastore, 1) := by decide +kernel
theorem dX7_readTie_160 : decode cX7_readTie 160 = .ok (.return_, 1) := by decide +kernel
theorem dX7_ties_0 : decode cX7_ties 0 = .ok (.aload_n 0, 1) := by decide +kernel
theorem dX7_ties_1 : decode cX7_ties 1 = .ok (.iconst 0, 1) := by decide +kernel
theorem dX7_ties_2 : decode cX7_ties 2 = .ok (.putfield 58, 3) := by decide +kernel
theorem dX7_ties_5 : decode cX7_ties 5 = .ok (.aload_n 0, 1) := by decide +kernel
theorem dX7_ties_6 : decode cX7_ties 6 = .ok (.invokevirtual 101, 3) := by decide +kernel
theorem dX7_ties_9 : decode cX7_ties 9 = .ok (.iconst 0, 1) := by decide +kernel
theorem dX7_ties_10 : decode cX7_ties 10 = .ok (.istore_n 1, 1) := by decide +kernel
theorem dX7_ties_11 : decode cX7_ties 11 = .ok (.aload_n 0, 1) := by decide +kernel
theorem dX7_ties_12 : decode cX7_ties 12 = .ok (.invokevirtual 85, 3) := by decide +kernel
theorem dX7_ties_15 : decode cX7_ties 15 = .ok (.ifCond .eq 42, 3) := by decide +kernel
theorem dX7_ties_18 : decode cX7_ties 18 = .ok (.aload_n 0, 1) := by decide +kernel
theorem dX7_ties_19 : decode cX7_ties 19 = .ok (.getfield 79, 3) := by decide +kernel
theorem dX7_ties_22 : decode cX7_ties 22 = .ok (.aload_n 0, 1) := by decide +kernel
theorem dX7_ties_23 : decode cX7_ties 23 = .ok (.getfield 76, 3) := by decide +kernel
theorem dX7_ties_26 : decode cX7_ties 26 = .ok (.if_icmp .ge 31, 3) := by decide +kernel
theorem dX7_ties_29 : decode cX7_ties 29 = .ok (.iload_n 1, 1) := by decide +kernel
theorem dX7_ties_30 : decode cX7_ties 30 = .ok (.bipush 12, 2) := by decide +kernel
theorem dX7_ties_32 : decode cX7_ties 32 = .ok (.if_icmp .ne 14, 3) := by decide +kernel
theorem dX7_ties_35 : decode cX7_ties 35 = .ok (.aload_n 0, 1) := by decide +kernel
theorem dX7_ties_36 : decode cX7_ties 36 = .ok (.aload_n 0, 1) := by decide +kernel
theorem dX7_ties_37 : decode cX7_ties 37 = .ok (.getfield 79, 3) := by decide +kernel
theorem dX7_ties_40 : decode cX7_ties 40 = .ok (.invokevirtual 93, 3) := by decide +kernel
theorem dX7_ties_43 : decode cX7_ties 43 = .ok (.goto (-32), 3) := by decide +kernel
theorem dX7_ties_46 : decode cX7_ties 46 = .ok (.aload_n 0, 1) := by decide +kernel
theorem dX7_ties_47 : decode cX7_ties 47 = .ok (.iload_n 1, 1) := by decide +kernel
theorem dX7_ties_48 : decode cX7_ties 48 = .ok (.invokevirtual 128, 3) := by decide +kernel
theorem dX7_ties_51 : decode cX7_ties 51 = .ok (.iinc 1 1, 3) := by decide +kernel
theorem dX7_ties_54 : decode cX7_ties 54 = .ok (.goto (-43), 3) := by decide +kernel
theorem dX7_ties_57 : decode cX7_ties 57 = .ok (.aload_n 0, 1) := by decide +kernel
theorem dX7_ties_58 : decode cX7_ties 58 = .ok (.invokevirtual 104, 3) := by decide +kernel
theorem dX7_ties_61 : decode cX7_ties 61 = .ok (.ifCond .ne 10, 3) := by decide +kernel
theorem dX7_ties_64 : decode cX7_ties 64 = .ok (.iconst (-1), 1) := by decide +kernel
theorem dX7_ties_65 : decode cX7_ties 65 = .ok (.aload_n 0, 1) := by decide +kernel
theorem dX7_ties_66 : decode cX7_ties 66 = .ok (.getfield 82, 3) := by decide +kernel
theorem dX7_ties_69 : decode cX7_ties 69 = .ok (.isub, 1) := by decide +kernel
theorem dX7_ties_70 : decode cX7_ties 70 = .ok (.ireturn, 1) := by decide +kernel
theorem dX7_ties_71 : decode cX7_ties 71 = .ok (.aload_n 0, 1) := by decide +kernel
theorem dX7_ties_72 : decode cX7_ties 72 = .ok (.invokevirtual 107, 3) := by decide +kernel
theorem dX7_ties_75 : decode cX7_ties 75 = .ok (.aload_n 0, 1) := by decide +kernel
theorem dX7_ties_76 : decode cX7_ties 76 = .ok (.getfield 9, 3) := by decide +kernel
theorem dX7_ties_79 : decode cX7_ties 79 = .ok (.sipush 218, 3) := by decide +kernel
theorem dX7_ties_82 : decode cX7_ties 82 = .ok (.iload_n 1, 1) := by decide +kernel
theorem dX7_ties_83 : decode cX7_ties 83 = .ok (.iastore, 1) := by decide +kernel
theorem dX7_ties_84 : decode cX7_ties 84 = .ok (.iconst 0, 1) := by decide +kernel
theorem dX7_ties_85 : decode cX7_ties 85 = .ok (.istore_n 2, 1) := by decide +kernel
theorem dX7_ties_86 : decode cX7_ties 86 = .ok (.iload_n 2, 1) := by decide +kernel
theorem dX7_ties_87 : decode cX7_ties 87 = .ok (.bipush 36, 2) := by decide +kernel
theorem dX7_ties_89 : decode cX7_ties 89 = .ok (.if_icmp .ge 36, 3) := by decide +kernel
theorem dX7_ties_92 : decode cX7_ties 92 = .ok (.aload_n 0, 1) := by decide +kernel
theorem dX7_ties_93 : decode cX7_ties 93 = .ok (.getfield 9, 3) := by decide +kernel
theorem dX7_ties_96 : decode cX7_ties 96 = .ok (.sipush 219, 3) := by decide +kernel
theorem dX7_ties_99 : decode cX7_ties 99 = .ok (.iload_n 2, 1) := by decide +kernel
theorem dX7_ties_100 : decode cX7_ties 100 = .ok (.iadd, 1) := by decide +kernel
theorem dX7_ties_101 : decode cX7_ties 101 = .ok (.iload_n 2, 1) := by decide +kernel
theorem dX7_ties_102 : decode cX7_ties 102 = .ok (.iconst 3, 1) := by decide +kernel
theorem dX7_ties_103 : decode cX7_ties 103 = .ok (.iload_n 1, 1) := by decide +kernel
theorem dX7_ties_104 : decode cX7_ties 104 = .ok (.imul, 1) := by decide +kernel
theorem dX7_ties_105 : decode cX7_ties 105 = .ok (.if_icmp .ge 12, 3) := by decide +kernel
theorem dX7_ties_108 : decode cX7_ties 108 = .ok (.aload_n 0, 1) := by decide +kernel
theorem dX7_ties_109 : decode cX7_ties 109 = .ok (.getfield 21, 3) := by decide +kernel
theorem dX7_ties_112 : decode cX7_ties 112 = .ok (.iload_n 2, 1) := by decide +kernel
theorem dX7_ties_113 : decode cX7_ties 113 = .ok (.iaload, 1) := by decide +kernel
theorem dX7_ties_114 : decode cX7_ties 114 = .ok (.goto 4, 3) := by decide +kernel
theorem dX7_ties_117 : decode cX7_ties 117 = .ok (.iconst 0, 1) := by decide +kernel
theorem dX7_ties_118 : decode cX7_ties 118 = .ok (.iastore, 1) := by decide +kernel
theorem dX7_ties_119 : decode cX7_ties 119 = .ok (.iinc 2 1, 3) := by decide +kernel
theorem dX7_ties_122 : decode cX7_ties 122 = .ok (.goto (-36), 3) := by decide +kernel
theorem dX7_ties_125 : decode cX7_ties 125 = .ok (.iload_n 1, 1) := by decide +kernel
theorem dX7_ties_126 : decode cX7_ties 126 = .ok (.ireturn, 1) := by decide +kernel
theorem dX7_entryOf_0 : decode cX7_entryOf 0 = .ok (.iload_n 1, 1) := by decide +kernel
theorem dX7_entryOf_1 : decode cX7_entryOf 1 = .ok (.iload_n 3, 1) := by decide +kernel
theorem dX7_entryOf_2 : decode cX7_entryOf 2 = .ok (.iload_n 2, 1) := by decide +kernel
theorem dX7_entryOf_3 : decode cX7_entryOf 3 = .ok (.imul, 1) := by decide +kernel
theorem dX7_entryOf_4 : decode cX7_entryOf 4 = .ok (.iadd, 1) := by decide +kernel
theorem dX7_entryOf_5 : decode cX7_entryOf 5 = .ok (.istore 4, 2) := by decide +kernel
theorem dX7_entryOf_7 : decode cX7_entryOf 7 = .ok (.iload_n 0, 1) := by decide +kernel
theorem dX7_entryOf_8 : decode cX7_entryOf 8 = .ok (.ifCond .ne 9, 3) := by decide +kernel
theorem dX7_entryOf_11 : decode cX7_entryOf 11 = .ok (.iload 4, 2) := by decide +kernel
theorem dX7_entryOf_13 : decode cX7_entryOf 13 = .ok (.i2b, 1) := by decide +kernel
theorem dX7_entryOf_14 : decode cX7_entryOf 14 = .ok (.goto 16, 3) := by decide +kernel
theorem dX7_entryOf_17 : decode cX7_entryOf 17 = .ok (.iload_n 0, 1) := by decide +kernel
theorem dX7_entryOf_18 : decode cX7_entryOf 18 = .ok (.iconst 1, 1) := by decide +kernel
theorem dX7_entryOf_19 : decode cX7_entryOf 19 = .ok (.if_icmp .ne 9, 3) := by decide +kernel
theorem dX7_entryOf_22 : decode cX7_entryOf 22 = .ok (.iload 4, 2) := by decide +kernel
theorem dX7_entryOf_24 : decode cX7_entryOf 24 = .ok (.i2s, 1) := by decide +kernel
theorem dX7_entryOf_25 : decode cX7_entryOf 25 = .ok (.goto 5, 3) := by decide +kernel
theorem dX7_entryOf_28 : decode cX7_entryOf 28 = .ok (.iload 4, 2) := by decide +kernel
theorem dX7_entryOf_30 : decode cX7_entryOf 30 = .ok (.ireturn, 1) := by decide +kernel
theorem dX7_sheet_0 : decode cX7_sheet 0 = .ok (.aload_n 0, 1) := by decide +kernel
theorem dX7_sheet_1 : decode cX7_sheet 1 = .ok (.iconst 0, 1) := by decide +kernel
theorem dX7_sheet_2 : decode cX7_sheet 2 = .ok (.putfield 58, 3) := by decide +kernel
theorem dX7_sheet_5 : decode cX7_sheet 5 = .ok (.iload_n 1, 1) := by decide +kernel
theorem dX7_sheet_6 : decode cX7_sheet 6 = .ok (.invokestatic 69, 3) := by decide +kernel
theorem dX7_sheet_9 : decode cX7_sheet 9 = .ok (.ifCond .eq 19, 3) := by decide +kernel
theorem dX7_sheet_12 : decode cX7_sheet 12 = .ok (.iload_n 3, 1) := by decide +kernel
theorem dX7_sheet_13 : decode cX7_sheet 13 = .ok (.iconst 0, 1) := by decide +kernel
theorem dX7_sheet_14 : decode cX7_sheet 14 = .ok (.iconst 3, 1) := by decide +kernel
theorem dX7_sheet_15 : decode cX7_sheet 15 = .ok (.invokestatic 65, 3) := by decide +kernel
theorem dX7_sheet_18 : decode cX7_sheet 18 = .ok (.ifCond .eq 10, 3) := by decide +kernel
theorem dX7_sheet_21 : decode cX7_sheet 21 = .ok (.iload 4, 2) := by decide +kernel
theorem dX7_sheet_23 : decode cX7_sheet 23 = .ok (.bipush 70, 2) := by decide +kernel
theorem dX7_sheet_25 : decode cX7_sheet 25 = .ok (.if_icmp .le 5, 3) := by decide +kernel
theorem dX7_sheet_28 : decode cX7_sheet 28 = .ok (.iconst (-1), 1) := by decide +kernel
theorem dX7_sheet_29 : decode cX7_sheet 29 = .ok (.ireturn, 1) := by decide +kernel
theorem dX7_sheet_30 : decode cX7_sheet 30 = .ok (.iload_n 3, 1) := by decide +kernel
theorem dX7_sheet_31 : decode cX7_sheet 31 = .ok (.iconst 3, 1) := by decide +kernel
theorem dX7_sheet_32 : decode cX7_sheet 32 = .ok (.if_icmp .ne 6, 3) := by decide +kernel
theorem dX7_sheet_35 : decode cX7_sheet 35 = .ok (.bipush (-3), 2) := by decide +kernel
theorem dX7_sheet_37 : decode cX7_sheet 37 = .ok (.ireturn, 1) := by decide +kernel
theorem dX7_sheet_38 : decode cX7_sheet 38 = .ok (.iload 4, 2) := by decide +kernel
theorem dX7_sheet_40 : decode cX7_sheet 40 = .ok (.ifCond .ge 6, 3) := by decide +kernel
theorem dX7_sheet_43 : decode cX7_sheet 43 = .ok (.bipush (-2), 2) := by decide +kernel
theorem dX7_sheet_45 : decode cX7_sheet 45 = .ok (.ireturn, 1) := by decide +kernel
theorem dX7_sheet_46 : decode cX7_sheet 46 = .ok (.iconst 0, 1) := by decide +kernel
theorem dX7_sheet_47 : decode cX7_sheet 47 = .ok (.istore 7, 2) := by decide +kernel
theorem dX7_sheet_49 : decode cX7_sheet 49 = .ok (.iload 7, 2) := by decide +kernel
theorem dX7_sheet_51 : decode cX7_sheet 51 = .ok (.iload 4, 2) := by decide +kernel
theorem dX7_sheet_53 : decode cX7_sheet 53 = .ok (.if_icmp .ge 104, 3) := by decide +kernel
theorem dX7_sheet_56 : decode cX7_sheet 56 = .ok (.iload_n 2, 1) := by decide +kernel
theorem dX7_sheet_57 : decode cX7_sheet 57 = .ok (.i2l, 1) := by decide +kernel
theorem dX7_sheet_58 : decode cX7_sheet 58 = .ok (.iload 7, 2) := by decide +kernel
theorem dX7_sheet_60 : decode cX7_sheet 60 = .ok (.i2l, 1) := by decide +kernel
theorem dX7_sheet_61 : decode cX7_sheet 61 = .ok (.ladd, 1) := by decide +kernel
theorem dX7_sheet_62 : decode cX7_sheet 62 = .ok (.lstore 8, 2) := by decide +kernel
theorem dX7_sheet_64 : decode cX7_sheet 64 = .ok (.lload 8, 2) := by decide +kernel
theorem dX7_sheet_66 : decode cX7_sheet 66 = .ok (.lconst 0, 1) := by decide +kernel
theorem dX7_sheet_67 : decode cX7_sheet 67 = .ok (.lcmp, 1) := by decide +kernel
theorem dX7_sheet_68 : decode cX7_sheet 68 = .ok (.ifCond .lt 18, 3) := by decide +kernel
theorem dX7_sheet_71 : decode cX7_sheet 71 = .ok (.lload 8, 2) := by decide +kernel
theorem dX7_sheet_73 : decode cX7_sheet 73 = .ok (.aload_n 0, 1) := by decide +kernel
theorem dX7_sheet_74 : decode cX7_sheet 74 = .ok (.getfield 9, 3) := by decide +kernel
theorem dX7_sheet_77 : decode cX7_sheet 77 = .ok (.iconst 5, 1) := by decide +kernel
theorem dX7_sheet_78 : decode cX7_sheet 78 = .ok (.iload_n 1, 1) := by decide +kernel
theorem dX7_sheet_79 : decode cX7_sheet 79 = .ok (.iadd, 1) := by decide +kernel
theorem dX7_sheet_80 : decode cX7_sheet 80 = .ok (.iaload, 1) := by decide +kernel
theorem dX7_sheet_81 : decode cX7_sheet 81 = .ok (.i2l, 1) := by decide +kernel
theorem dX7_sheet_82 : decode cX7_sheet 82 = .ok (.lcmp, 1) := by decide +kernel
theorem dX7_sheet_83 : decode cX7_sheet 83 = .ok (.ifCond .lt 7, 3) := by decide +kernel
theorem dX7_sheet_86 : decode cX7_sheet 86 = .ok (.iconst 1, 1) := by decide +kernel
theorem dX7_sheet_87 : decode cX7_sheet 87 = .ok (.goto 4, 3) := by decide +kernel
theorem dX7_sheet_90 : decode cX7_sheet 90 = .ok (.iconst 0, 1) := by decide +kernel
theorem dX7_sheet_91 : decode cX7_sheet 91 = .ok (.istore 10, 2) := by decide +kernel
theorem dX7_sheet_93 : decode cX7_sheet 93 = .ok (.iload 10, 2) := by decide +kernel
theorem dX7_sheet_95 : decode cX7_sheet 95 = .ok (.ifCond .ne 25, 3) := by decide +kernel
theorem dX7_sheet_98 : decode cX7_sheet 98 = .ok (.iload_n 3, 1) := by decide +kernel
theorem dX7_sheet_99 : decode cX7_sheet 99 = .ok (.iload 5, 2) := by decide +kernel
theorem dX7_sheet_101 : decode cX7_sheet 101 = .ok (.iload 6, 2) := by decide +kernel
theorem dX7_sheet_103 : decode cX7_sheet 103 = .ok (.iload 7, 2) := by decide +kernel
theorem dX7_sheet_105 : decode cX7_sheet 105 = .ok (.invokestatic 131, 3) := by decide +kernel
theorem dX7_sheet_108 : decode cX7_sheet 108 = .ok (.iconst 1, 1) := by decide +kernel
theorem dX7_sheet_109 : decode cX7_sheet 109 = .ok (.bipush 9, 2) := by decide +kernel
theorem dX7_sheet_111 : decode cX7_sheet 111 = .ok (.invokestatic 65, 3) := by decide +kernel
theorem dX7_sheet_114 : decode cX7_sheet 114 = .ok (.ifCond .eq 6, 3) := by decide +kernel
theorem dX7_sheet_117 : decode cX7_sheet 117 = .ok (.goto 34, 3) := by decide +kernel
theorem dX7_sheet_120 : decode cX7_sheet 120 = .ok (.aload_n 0, 1) := by decide +kernel
theorem dX7_sheet_121 : decode cX7_sheet 121 = .ok (.iconst 0, 1) := by decide +kernel
theorem dX7_sheet_122 : decode cX7_sheet 122 = .ok (.putfield 62, 3) := by decide +kernel
theorem dX7_sheet_125 : decode cX7_sheet 125 = .ok (.aload_n 0, 1) := by decide +kernel
theorem dX7_sheet_126 : decode cX7_sheet 126 = .ok (.iload 7, 2) := by decide +kernel
theorem dX7_sheet_128 : decode cX7_sheet 128 = .ok (.i2l, 1) := by decide +kernel
theorem dX7_sheet_129 : decode cX7_sheet 129 = .ok (.invokevirtual 135, 3) := by decide +kernel
theorem dX7_sheet_132 : decode cX7_sheet 132 = .ok (.aload_n 0, 1) := by decide +kernel
theorem dX7_sheet_133 : decode cX7_sheet 133 = .ok (.iload 10, 2) := by decide +kernel
theorem dX7_sheet_135 : decode cX7_sheet 135 = .ok (.ifCond .eq 7, 3) := by decide +kernel
theorem dX7_sheet_138 : decode cX7_sheet 138 = .ok (.lconst 1, 1) := by decide +kernel
theorem dX7_sheet_139 : decode cX7_sheet 139 = .ok (.goto 6, 3) := by decide +kernel
theorem dX7_sheet_142 : decode cX7_sheet 142 = .ok (.ldc2_w 139, 3) := by decide +kernel
theorem dX7_sheet_145 : decode cX7_sheet 145 = .ok (.invokevirtual 135, 3) := by decide +kernel
theorem dX7_sheet_148 : decode cX7_sheet 148 = .ok (.bipush (-4), 2) := by decide +kernel
theorem dX7_sheet_150 : decode cX7_sheet 150 = .ok (.ireturn, 1) := by decide +kernel
theorem dX7_sheet_151 : decode cX7_sheet 151 = .ok (.iinc 7 1, 3) := by decide +kernel
theorem dX7_sheet_154 : decode cX7_sheet 154 = .ok (.goto (-105), 3) := by decide +kernel
theorem dX7_sheet_157 : decode cX7_sheet 157 = .ok (.iconst 0, 1) := by decide +kernel
theorem dX7_sheet_158 : decode cX7_sheet 158 = .ok (.istore 7, 2) := by decide +kernel
theorem dX7_sheet_160 : decode cX7_sheet 160 = .ok (.iconst 0, 1) := by decide +kernel
theorem dX7_sheet_161 : decode cX7_sheet 161 = .ok (.istore 8, 2) := by decide +kernel
theorem dX7_sheet_163 : decode cX7_sheet 163 = .ok (.iload 8, 2) := by decide +kernel
theorem dX7_sheet_165 : decode cX7_sheet 165 = .ok (.iload 4, 2) := by decide +kernel
theorem dX7_sheet_167 : decode cX7_sheet 167 = .ok (.if_icmp .ge 66, 3) := by decide +kernel
theorem dX7_sheet_170 : decode cX7_sheet 170 = .ok (.bipush 8, 2) := by decide +kernel
theorem dX7_sheet_172 : decode cX7_sheet 172 = .ok (.bipush 70, 2) := by decide +kernel
theorem dX7_sheet_174 : decode cX7_sheet 174 = .ok (.iload_n 1, 1) := by decide +kernel
theorem dX7_sheet_175 : decode cX7_sheet 175 = .ok (.imul, 1) := by decide +kernel
theorem dX7_sheet_176 : decode cX7_sheet 176 = .ok (.iadd, 1) := by decide +kernel
theorem dX7_sheet_177 : decode cX7_sheet 177 = .ok (.iload_n 2, 1) := by decide +kernel
theorem dX7_sheet_178 : decode cX7_sheet 178 = .ok (.iadd, 1) := by decide +kernel
theorem dX7_sheet_179 : decode cX7_sheet 179 = .ok (.iload 8, 2) := by decide +kernel
theorem dX7_sheet_181 : decode cX7_sheet 181 = .ok (.iadd, 1) := by decide +kernel
theorem dX7_sheet_182 : decode cX7_sheet 182 = .ok (.istore 9, 2) := by decide +kernel
theorem dX7_sheet_184 : decode cX7_sheet 184 = .ok (.iload_n 3, 1) := by decide +kernel
theorem dX7_sheet_185 : decode cX7_sheet 185 = .ok (.iload 5, 2) := by decide +kernel
theorem dX7_sheet_187 : decode cX7_sheet 187 = .ok (.iload 6, 2) := by decide +kernel
theorem dX7_sheet_189 : decode cX7_sheet 189 = .ok (.iload 8, 2) := by decide +kernel
theorem dX7_sheet_191 : decode cX7_sheet 191 = .ok (.invokestatic 131, 3) := by decide +kernel
theorem dX7_sheet_194 : decode cX7_sheet 194 = .ok (.istore 10, 2) := by decide +kernel
theorem dX7_sheet_196 : decode cX7_sheet 196 = .ok (.iload 7, 2) := by decide +kernel
theorem dX7_sheet_198 : decode cX7_sheet 198 = .ok (.aload_n 0, 1) := by decide +kernel
theorem dX7_sheet_199 : decode cX7_sheet 199 = .ok (.getfield 9, 3) := by decide +kernel
theorem dX7_sheet_202 : decode cX7_sheet 202 = .ok (.iload 9, 2) := by decide +kernel
theorem dX7_sheet_204 : decode cX7_sheet 204 = .ok (.iaload, 1) := by decide +kernel
theorem dX7_sheet_205 : decode cX7_sheet 205 = .ok (.iload 10, 2) := by decide +kernel
theorem dX7_sheet_207 : decode cX7_sheet 207 = .ok (.if_icmp .eq 7, 3) := by decide +kernel
theorem dX7_sheet_210 : decode cX7_sheet 210 = .ok (.iconst 1, 1) := by decide +kernel
theorem dX7_sheet_211 : decode cX7_sheet 211 = .ok (.goto 4, 3) := by decide +kernel
theorem dX7_sheet_214 : decode cX7_sheet 214 = .ok (.iconst 0, 1) := by decide +kernel
theorem dX7_sheet_215 : decode cX7_sheet 215 = .ok (.iadd, 1) := by decide +kernel
theorem dX7_sheet_216 : decode cX7_sheet 216 = .ok (.istore 7, 2) := by decide +kernel
theorem dX7_sheet_218 : decode cX7_sheet 218 = .ok (.aload_n 0, 1) := by decide +kernel
theorem dX7_sheet_219 : decode cX7_sheet 219 = .ok (.getfield 9, 3) := by decide +kernel
theorem dX7_sheet_222 : decode cX7_sheet 222 = .ok (.iload 9, 2) := by decide +kernel
theorem dX7_sheet_224 : decode cX7_sheet 224 = .ok (.iload 10, 2) := by decide +kernel
theorem dX7_sheet_226 : decode cX7_sheet 226 = .ok (.iastore, 1) := by decide +kernel
theorem dX7_sheet_227 : decode cX7_sheet 227 = .ok (.iinc 8 1, 3) := by decide +kernel
theorem dX7_sheet_230 : decode cX7_sheet 230 = .ok (.goto (-67), 3) := by decide +kernel
theorem dX7_sheet_233 : decode cX7_sheet 233 = .ok (.iload 7, 2) := by decide +kernel
theorem dX7_sheet_235 : decode cX7_sheet 235 = .ok (.ireturn, 1) := by decide +kernel
theorem dX7_isLeft_0 : decode cX7_isLeft 0 = .ok (.aload_n 0, 1) := by decide +kernel
theorem dX7_isLeft_1 : decode cX7_isLeft 1 = .ok (.getfield 30, 3) := by decide +kernel
theorem dX7_isLeft_4 : decode cX7_isLeft 4 = .ok (.iload_n 1, 1) := by decide +kernel
theorem dX7_isLeft_5 : decode cX7_isLeft 5 = .ok (.iaload, 1) := by decide +kernel
theorem dX7_isLeft_6 : decode cX7_isLeft 6 = .ok (.aload_n 0, 1) := by decide +kernel
theorem dX7_isLeft_7 : decode cX7_isLeft 7 = .ok (.getfield 9, 3) := by decide +kernel
theorem dX7_isLeft_10 : decode cX7_isLeft 10 = .ok (.iconst 5, 1) := by decide +kernel
theorem dX7_isLeft_11 : decode cX7_isLeft 11 = .ok (.iload_n 1, 1) := by decide +kernel
theorem dX7_isLeft_12 : decode cX7_isLeft 12 = .ok (.iadd, 1) := by decide +kernel
theorem dX7_isLeft_13 : decode cX7_isLeft 13 = .ok (.iaload, 1) := by decide +kernel
theorem dX7_isLeft_14 : decode cX7_isLeft 14 = .ok (.if_icmp .ge 7, 3) := by decide +kernel
theorem dX7_isLeft_17 : decode cX7_isLeft 17 = .ok (.iconst 1, 1) := by decide +kernel
theorem dX7_isLeft_18 : decode cX7_isLeft 18 = .ok (.goto 4, 3) := by decide +kernel
theorem dX7_isLeft_21 : decode cX7_isLeft 21 = .ok (.iconst 0, 1) := by decide +kernel
theorem dX7_isLeft_22 : decode cX7_isLeft 22 = .ok (.ireturn, 1) := by decide +kernel
theorem dX7_areLeft_0 : decode cX7_areLeft 0 = .ok (.aload_n 0, 1) := by decide +kernel
theorem dX7_areLeft_1 : decode cX7_areLeft 1 = .ok (.iconst 0, 1) := by decide +kernel
theorem dX7_areLeft_2 : decode cX7_areLeft 2 = .ok (.invokevirtual 141, 3) := by decide +kernel
theorem dX7_areLeft_5 : decode cX7_areLeft 5 = .ok (.ifCond .ne 19, 3) := by decide +kernel
theorem dX7_areLeft_8 : decode cX7_areLeft 8 = .ok (.aload_n 0, 1) := by decide +kernel
theorem dX7_areLeft_9 : decode cX7_areLeft 9 = .ok (.iconst 1, 1) := by decide +kernel
theorem dX7_areLeft_10 : decode cX7_areLeft 10 = .ok (.invokevirtual 141, 3) := by decide +kernel
theorem dX7_areLeft_13 : decode cX7_areLeft 13 = .ok (.ifCond .ne 11, 3) := by decide +kernel
theorem dX7_areLeft_16 : decode cX7_areLeft 16 = .ok (.aload_n 0, 1) := by decide +kernel
theorem dX7_areLeft_17 : decode cX7_areLeft 17 = .ok (.iconst 2, 1) := by decide +kernel
theorem dX7_areLeft_18 : decode cX7_areLeft 18 = .ok (.invokevirtual 141, 3) := by decide +kernel
theorem dX7_areLeft_21 : decode cX7_areLeft 21 = .ok (.ifCond .eq 7, 3) := by decide +kernel
theorem dX7_areLeft_24 : decode cX7_areLeft 24 = .ok (.iconst 1, 1) := by decide +kernel
theorem dX7_areLeft_25 : decode cX7_areLeft 25 = .ok (.goto 4, 3) := by decide +kernel
theorem dX7_areLeft_28 : decode cX7_areLeft 28 = .ok (.iconst 0, 1) := by decide +kernel
theorem dX7_areLeft_29 : decode cX7_areLeft 29 = .ok (.ireturn, 1) := by decide +kernel
theorem dX7_setPart_0 : decode cX7_setPart 0 = .ok (.bipush 8, 2) := by decide +kernel
theorem dX7_setPart_2 : decode cX7_setPart 2 = .ok (.aload_n 0, 1) := by decide +kernel
theorem dX7_setPart_3 : decode cX7_setPart 3 = .ok (.getfield 144, 3) := by decide +kernel
theorem dX7_setPart_6 : decode cX7_setPart 6 = .ok (.imul, 1) := by decide +kernel
theorem dX7_setPart_7 : decode cX7_setPart 7 = .ok (.istore 6, 2) := by decide +kernel
theorem dX7_setPart_9 : decode cX7_setPart 9 = .ok (.aload_n 0, 1) := by decide +kernel
theorem dX7_setPart_10 : decode cX7_setPart 10 = .ok (.getfield 30, 3) := by decide +kernel
theorem dX7_setPart_13 : decode cX7_setPart 13 = .ok (.iload_n 1, 1) := by decide +kernel
theorem dX7_setPart_14 : decode cX7_setPart 14 = .ok (.iaload, 1) := by decide +kernel
theorem dX7_setPart_15 : decode cX7_setPart 15 = .ok (.istore 7, 2) := by decide +kernel
theorem dX7_setPart_17 : decode cX7_setPart 17 = .ok (.iconst 0, 1) := by decide +kernel
theorem dX7_setPart_18 : decode cX7_setPart 18 = .ok (.istore 8, 2) := by decide +kernel
theorem dX7_setPart_20 : decode cX7_setPart 20 = .ok (.iconst 0, 1) := by decide +kernel
theorem dX7_setPart_21 : decode cX7_setPart 21 = .ok (.istore 9, 2) := by decide +kernel
theorem dX7_setPart_23 : decode cX7_setPart 23 = .ok (.aload_n 0, 1) := by decide +kernel
theorem dX7_setPart_24 : decode cX7_setPart 24 = .ok (.iload_n 1, 1) := by decide +kernel
theorem dX7_setPart_25 : decode cX7_setPart 25 = .ok (.invokevirtual 141, 3) := by decide +kernel
theorem dX7_setPart_28 : decode cX7_setPart 28 = .ok (.ifCond .eq 96, 3) := by decide +kernel
theorem dX7_setPart_31 : decode cX7_setPart 31 = .ok (.iload 9, 2) := by decide +kernel
theorem dX7_setPart_33 : decode cX7_setPart 33 = .ok (.iload 8, 2) := by decide +kernel
theorem dX7_setPart_35 : decode cX7_setPart 35 = .ok (.ifCond .le 7, 3) := by decide +kernel
theorem dX7_setPart_38 : decode cX7_setPart 38 = .ok (.iconst 1, 1) := by decide +kernel
theorem dX7_setPart_39 : decode cX7_setPart 39 = .ok (.goto 4, 3) := by decide +kernel
theorem dX7_setPart_42 : decode cX7_setPart 42 = .ok (.iconst 0, 1) := by decide +kernel
theorem dX7_setPart_43 : decode cX7_setPart 43 = .ok (.iadd, 1) := by decide +kernel
theorem dX7_setPart_44 : decode cX7_setPart 44 = .ok (.aload_n 0, 1) := by decide +kernel
theorem dX7_setPart_45 : decode cX7_setPart 45 = .ok (.iload_n 1, 1) := by decide +kernel
theorem dX7_setPart_46 : decode cX7_setPart 46 = .ok (.aload_n 0, 1) := by decide +kernel
theorem dX7_setPart_47 : decode cX7_setPart 47 = .ok (.getfield 30, 3) := by decide +kernel
theorem dX7_setPart_50 : decode cX7_setPart 50 = .ok (.iload_n 1, 1) := by decide +kernel
theorem dX7_setPart_51 : decode cX7_setPart 51 = .ok (.iaload, 1) := by decide +kernel
theorem dX7_setPart_52 : decode cX7_setPart 52 = .ok (.invokevirtual 147, 3) := by decide +kernel
theorem dX7_setPart_55 : decode cX7_setPart 55 = .ok (.iadd, 1) := by decide +kernel
theorem dX7_setPart_56 : decode cX7_setPart 56 = .ok (.iload 4, 2) := by decide +kernel
theorem dX7_setPart_58 : decode cX7_setPart 58 = .ok (.if_icmp .gt 66, 3) := by decide +kernel
theorem dX7_setPart_61 : decode cX7_setPart 61 = .ok (.iload 9, 2) := by decide +kernel
theorem dX7_setPart_63 : decode cX7_setPart 63 = .ok (.iload 8, 2) := by decide +kernel
theorem dX7_setPart_65 : decode cX7_setPart 65 = .ok (.ifCond .le 7, 3) := by decide +kernel
theorem dX7_setPart_68 : decode cX7_setPart 68 = .ok (.iconst 1, 1) := by decide +kernel
theorem dX7_setPart_69 : decode cX7_setPart 69 = .ok (.goto 4, 3) := by decide +kernel
theorem dX7_setPart_72 : decode cX7_setPart 72 = .ok (.iconst 0, 1) := by decide +kernel
theorem dX7_setPart_73 : decode cX7_setPart 73 = .ok (.aload_n 0, 1) := by decide +kernel
theorem dX7_setPart_74 : decode cX7_setPart 74 = .ok (.iload_n 1, 1) := by decide +kernel
theorem dX7_setPart_75 : decode cX7_setPart 75 = .ok (.aload_n 0, 1) := by decide +kernel
theorem dX7_setPart_76 : decode cX7_setPart 76 = .ok (.getfield 30, 3) := by decide +kernel
theorem dX7_setPart_79 : decode cX7_setPart 79 = .ok (.iload_n 1, 1) := by decide +kernel
theorem dX7_setPart_80 : decode cX7_setPart 80 = .ok (.iaload, 1) := by decide +kernel
theorem dX7_setPart_81 : decode cX7_setPart 81 = .ok (.invokevirtual 147, 3) := by decide +kernel
theorem dX7_setPart_84 : decode cX7_setPart 84 = .ok (.iadd, 1) := by decide +kernel
theorem dX7_setPart_85 : decode cX7_setPart 85 = .ok (.iadd, 1) := by decide +kernel
theorem dX7_setPart_86 : decode cX7_setPart 86 = .ok (.istore 9, 2) := by decide +kernel
theorem dX7_setPart_88 : decode cX7_setPart 88 = .ok (.aload_n 0, 1) := by decide +kernel
theorem dX7_setPart_89 : decode cX7_setPart 89 = .ok (.getfield 27, 3) := by decide +kernel
theorem dX7_setPart_92 : decode cX7_setPart 92 = .ok (.bipush 70, 2) := by decide +kernel
theorem dX7_setPart_94 : decode cX7_setPart 94 = .ok (.iload_n 1, 1) := by decide +kernel
theorem dX7_setPart_95 : decode cX7_setPart 95 = .ok (.imul, 1) := by decide +kernel
theorem dX7_setPart_96 : decode cX7_setPart 96 = .ok (.aload_n 0, 1) := by decide +kernel
theorem dX7_setPart_97 : decode cX7_setPart 97 = .ok (.getfield 30, 3) := by decide +kernel
theorem dX7_setPart_100 : decode cX7_setPart 100 = .ok (.iload_n 1, 1) := by decide +kernel
theorem dX7_setPart_101 : decode cX7_setPart 101 = .ok (.iaload, 1) := by decide +kernel
theorem dX7_setPart_102 : decode cX7_setPart 102 = .ok (.iadd, 1) := by decide +kernel
theorem dX7_setPart_103 : decode cX7_setPart 103 = .ok (.aload_n 0, 1) := by decide +kernel
theorem dX7_setPart_104 : decode cX7_setPart 104 = .ok (.getfield 144, 3) := by decide +kernel
theorem dX7_setPart_107 : decode cX7_setPart 107 = .ok (.iastore, 1) := by decide +kernel
theorem dX7_setPart_108 : decode cX7_setPart 108 = .ok (.aload_n 0, 1) := by decide +kernel
theorem dX7_setPart_109 : decode cX7_setPart 109 = .ok (.getfield 30, 3) := by decide +kernel
theorem dX7_setPart_112 : decode cX7_setPart 112 = .ok (.iload_n 1, 1) := by decide +kernel
theorem dX7_setPart_113 : decode cX7_setPart 113 = .ok (.dup2, 1) := by decide +kernel
theorem dX7_setPart_114 : decode cX7_setPart 114 = .ok (.iaload, 1) := by decide +kernel
theorem dX7_setPart_115 : decode cX7_setPart 115 = .ok (.iconst 1, 1) := by decide +kernel
theorem dX7_setPart_116 : decode cX7_setPart 116 = .ok (.iadd, 1) := by decide +kernel
theorem dX7_setPart_117 : decode cX7_setPart 117 = .ok (.iastore, 1) := by decide +kernel
theorem dX7_setPart_118 : decode cX7_setPart 118 = .ok (.iinc 8 1, 3) := by decide +kernel
theorem dX7_setPart_121 : decode cX7_setPart 121 = .ok (.goto (-98), 3) := by decide +kernel
theorem dX7_setPart_124 : decode cX7_setPart 124 = .ok (.aload_n 0, 1) := by decide +kernel
theorem dX7_setPart_125 : decode cX7_setPart 125 = .ok (.getfield 24, 3) := by decide +kernel
theorem dX7_setPart_128 : decode cX7_setPart 128 = .ok (.iload 6, 2) := by decide +kernel
theorem dX7_setPart_130 : decode cX7_setPart 130 = .ok (.iload_n 1, 1) := by decide +kernel
theorem dX7_setPart_131 : decode cX7_setPart 131 = .ok (.iastore, 1) := by decide +kernel
theorem dX7_setPart_132 : decode cX7_setPart 132 = .ok (.aload_n 0, 1) := by decide +kernel
theorem dX7_setPart_133 : decode cX7_setPart 133 = .ok (.getfield 24, 3) := by decide +kernel
theorem dX7_setPart_136 : decode cX7_setPart 136 = .ok (.iload 6, 2) := by decide +kernel
theorem dX7_setPart_138 : decode cX7_setPart 138 = .ok (.iconst 1, 1) := by decide +kernel
theorem dX7_setPart_139 : decode cX7_setPart 139 = .ok (.iadd, 1) := by decide +kernel
theorem dX7_setPart_140 : decode cX7_setPart 140 = .ok (.iload_n 2, 1) := by decide +kernel
theorem dX7_setPart_141 : decode cX7_setPart 141 = .ok (.iastore, 1) := by decide +kernel
theorem dX7_setPart_142 : decode cX7_setPart 142 = .ok (.aload_n 0, 1) := by decide +kernel
theorem dX7_setPart_143 : decode cX7_setPart 143 = .ok (.getfield 24, 3) := by decide +kernel
theorem dX7_setPart_146 : decode cX7_setPart 146 = .ok (.iload 6, 2) := by decide +kernel
theorem dX7_setPart_148 : decode cX7_setPart 148 = .ok (.iconst 2, 1) := by decide +kernel
theorem dX7_setPart_149 : decode cX7_setPart 149 = .ok (.iadd, 1) := by decide +kernel
theorem dX7_setPart_150 : decode cX7_setPart 150 = .ok (.iload_n 3, 1) := by decide +kernel
theorem dX7_setPart_151 : decode cX7_setPart 151 = .ok (.iastore, 1) := by decide +kernel
theorem dX7_setPart_152 : decode cX7_setPart 152 = .ok (.aload_n 0, 1) := by decide +kernel
theorem dX7_setPart_153 : decode cX7_setPart 153 = .ok (.getfield 24, 3) := by decide +kernel
theorem dX7_setPart_156 : decode cX7_setPart 156 = .ok (.iload 6, 2) := by decide +kernel
theorem dX7_setPart_158 : decode cX7_setPart 158 = .ok (.iconst 3, 1) := by decide +kernel
theorem dX7_setPart_159 : decode cX7_setPart 159 = .ok (.iadd, 1) := by decide +kernel
theorem dX7_setPart_160 : decode cX7_setPart 160 = .ok (.iload 7, 2) := by decide +kernel
theorem dX7_setPart_162 : decode cX7_setPart 162 = .ok (.iastore, 1) := by decide +kernel
theorem dX7_setPart_163 : decode cX7_setPart 163 = .ok (.aload_n 0, 1) := by decide +kernel
theorem dX7_setPart_164 : decode cX7_setPart 164 = .ok (.getfield 24, 3) := by decide +kernel
theorem dX7_setPart_167 : decode cX7_setPart 167 = .ok (.iload 6, 2) := by decide +kernel
theorem dX7_setPart_169 : decode cX7_setPart 169 = .ok (.iconst 4, 1) := by decide +kernel
theorem dX7_setPart_170 : decode cX7_setPart 170 = .ok (.iadd, 1) := by decide +kernel
theorem dX7_setPart_171 : decode cX7_setPart 171 = .ok (.iload 8, 2) := by decide +kernel
theorem dX7_setPart_173 : decode cX7_setPart 173 = .ok (.iastore, 1) := by decide +kernel
theorem dX7_setPart_174 : decode cX7_setPart 174 = .ok (.aload_n 0, 1) := by decide +kernel
theorem dX7_setPart_175 : decode cX7_setPart 175 = .ok (.getfield 24, 3) := by decide +kernel
theorem dX7_setPart_178 : decode cX7_setPart 178 = .ok (.iload 6, 2) := by decide +kernel
theorem dX7_setPart_180 : decode cX7_setPart 180 = .ok (.iconst 5, 1) := by decide +kernel
theorem dX7_setPart_181 : decode cX7_setPart 181 = .ok (.iadd, 1) := by decide +kernel
theorem dX7_setPart_182 : decode cX7_setPart 182 = .ok (.iload 4, 2) := by decide +kernel
theorem dX7_setPart_184 : decode cX7_setPart 184 = .ok (.iastore, 1) := by decide +kernel
theorem dX7_setPart_185 : decode cX7_setPart 185 = .ok (.aload_n 0, 1) := by decide +kernel
theorem dX7_setPart_186 : decode cX7_setPart 186 = .ok (.getfield 24, 3) := by decide +kernel
theorem dX7_setPart_189 : decode cX7_setPart 189 = .ok (.iload 6, 2) := by decide +kernel
theorem dX7_setPart_191 : decode cX7_setPart 191 = .ok (.bipush 6, 2) := by decide +kernel
theorem dX7_setPart_193 : decode cX7_setPart 193 = .ok (.iadd, 1) := by decide +kernel
theorem dX7_setPart_194 : decode cX7_setPart 194 = .ok (.iload 5, 2) := by decide +kernel
theorem dX7_setPart_196 : decode cX7_setPart 196 = .ok (.iastore, 1) := by decide +kernel
theorem dX7_setPart_197 : decode cX7_setPart 197 = .ok (.aload_n 0, 1) := by decide +kernel
theorem dX7_setPart_198 : decode cX7_setPart 198 = .ok (.getfield 24, 3) := by decide +kernel
theorem dX7_setPart_201 : decode cX7_setPart 201 = .ok (.iload 6, 2) := by decide +kernel
theorem dX7_setPart_203 : decode cX7_setPart 203 = .ok (.bipush 7, 2) := by decide +kernel
theorem dX7_setPart_205 : decode cX7_setPart 205 = .ok (.iadd, 1) := by decide +kernel
theorem dX7_setPart_206 : decode cX7_setPart 206 = .ok (.aload_n 0, 1) := by decide +kernel
theorem dX7_setPart_207 : decode cX7_setPart 207 = .ok (.iload_n 1, 1) := by decide +kernel
theorem dX7_setPart_208 : decode cX7_setPart 208 = .ok (.invokevirtual 141, 3) := by decide +kernel
theorem dX7_setPart_211 : decode cX7_setPart 211 = .ok (.ifCond .eq 17, 3) := by decide +kernel
theorem dX7_setPart_214 : decode cX7_setPart 214 = .ok (.iload 4, 2) := by decide +kernel
theorem dX7_setPart_216 : decode cX7_setPart 216 = .ok (.iload 9, 2) := by decide +kernel
theorem dX7_setPart_218 : decode cX7_setPart 218 = .ok (.isub, 1) := by decide +kernel
theorem dX7_setPart_219 : decode cX7_setPart 219 = .ok (.iload 4, 2) := by decide +kernel
theorem dX7_setPart_221 : decode cX7_setPart 221 = .ok (.iload 9, 2) := by decide +kernel
theorem dX7_setPart_223 : decode cX7_setPart 223 = .ok (.isub, 1) := by decide +kernel
theorem dX7_setPart_224 : decode cX7_setPart 224 = .ok (.imul, 1) := by decide +kernel
theorem dX7_setPart_225 : decode cX7_setPart 225 = .ok (.goto 4, 3) := by decide +kernel
theorem dX7_setPart_228 : decode cX7_setPart 228 = .ok (.iconst 0, 1) := by decide +kernel
theorem dX7_setPart_229 : decode cX7_setPart 229 = .ok (.iastore, 1) := by decide +kernel
theorem dX7_setPart_230 : decode cX7_setPart 230 = .ok (.aload_n 0, 1) := by decide +kernel
theorem dX7_setPart_231 : decode cX7_setPart 231 = .ok (.dup, 1) := by decide +kernel
theorem dX7_setPart_232 : decode cX7_setPart 232 = .ok (.getfield 144, 3) := by decide +kernel
theorem dX7_setPart_235 : decode cX7_setPart 235 = .ok (.iconst 1, 1) := by decide +kernel
theorem dX7_setPart_236 : decode cX7_setPart 236 = .ok (.iadd, 1) := by decide +kernel
theorem dX7_setPart_237 : decode cX7_setPart 237 = .ok (.putfield 144, 3) := by decide +kernel
theorem dX7_setPart_240 : decode cX7_setPart 240 = .ok (.return_, 1) := by decide +kernel
theorem dX7_setLine_0 : decode cX7_setLine 0 = .ok (.aload_n 0, 1) := by decide +kernel
theorem dX7_setLine_1 : decode cX7_setLine 1 = .ok (.iconst 1, 1) := by decide +kernel
theorem dX7_setLine_2 : decode cX7_setLine 2 = .ok (.invokevirtual 141, 3) := by decide +kernel
theorem dX7_setLine_5 : decode cX7_setLine 5 = .ok (.istore_n 3, 1) := by decide +kernel
theorem dX7_setLine_6 : decode cX7_setLine 6 = .ok (.aload_n 0, 1) := by decide +kernel
theorem dX7_setLine_7 : decode cX7_setLine 7 = .ok (.iconst 2, 1) := by decide +kernel
theorem dX7_setLine_8 : decode cX7_setLine 8 = .ok (.invokevirtual 141, 3) := by decide +kernel
theorem dX7_setLine_11 : decode cX7_setLine 11 = .ok (.istore 4, 2) := by decide +kernel
theorem dX7_setLine_13 : decode cX7_setLine 13 = .ok (.aload_n 0, 1) := by decide +kernel
theorem dX7_setLine_14 : decode cX7_setLine 14 = .ok (.iconst 0, 1) := by decide +kernel
theorem dX7_setLine_15 : decode cX7_setLine 15 = .ok (.invokevirtual 141, 3) := by decide +kernel
theorem dX7_setLine_18 : decode cX7_setLine 18 = .ok (.ifCond .eq 26, 3) := by decide +kernel
theorem dX7_setLine_21 : decode cX7_setLine 21 = .ok (.iload_n 2, 1) := by decide +kernel
theorem dX7_setLine_22 : decode cX7_setLine 22 = .ok (.aload_n 0, 1) := by decide +kernel
theorem dX7_setLine_23 : decode cX7_setLine 23 = .ok (.getfield 9, 3) := by decide +kernel
theorem dX7_setLine_26 : decode cX7_setLine 26 = .ok (.iconst 2, 1) := by decide +kernel
theorem dX7_setLine_27 : decode cX7_setLine 27 = .ok (.iaload, 1) := by decide +kernel
theorem dX7_setLine_28 : decode cX7_setLine 28 = .ok (.if_icmp .ge 12, 3) := by decide +kernel
theorem dX7_setLine_31 : decode cX7_setLine 31 = .ok (.iload_n 3, 1) := by decide +kernel
theorem dX7_setLine_32 : decode cX7_setLine 32 = .ok (.ifCond .ne 12, 3) := by decide +kernel
theorem dX7_setLine_35 : decode cX7_setLine 35 = .ok (.iload 4, 2) := by decide +kernel
theorem dX7_setLine_37 : decode cX7_setLine 37 = .ok (.ifCond .ne 7, 3) := by decide +kernel
theorem dX7_setLine_40 : decode cX7_setLine 40 = .ok (.iconst 1, 1) := by decide +kernel
theorem dX7_setLine_41 : decode cX7_setLine 41 = .ok (.goto 4, 3) := by decide +kernel
theorem dX7_setLine_44 : decode cX7_setLine 44 = .ok (.iconst 0, 1) := by decide +kernel
theorem dX7_setLine_45 : decode cX7_setLine 45 = .ok (.istore 5, 2) := by decide +kernel
theorem dX7_setLine_47 : decode cX7_setLine 47 = .ok (.aload_n 0, 1) := by decide +kernel
theorem dX7_setLine_48 : decode cX7_setLine 48 = .ok (.getfield 9, 3) := by decide +kernel
theorem dX7_setLine_51 : decode cX7_setLine 51 = .ok (.iconst 0, 1) := by decide +kernel
theorem dX7_setLine_52 : decode cX7_setLine 52 = .ok (.iaload, 1) := by decide +kernel
theorem dX7_setLine_53 : decode cX7_setLine 53 = .ok (.istore 6, 2) := by decide +kernel
theorem dX7_setLine_55 : decode cX7_setLine 55 = .ok (.aload_n 0, 1) := by decide +kernel
theorem dX7_setLine_56 : decode cX7_setLine 56 = .ok (.getfield 9, 3) := by decide +kernel
theorem dX7_setLine_59 : decode cX7_setLine 59 = .ok (.sipush 255, 3) := by decide +kernel
theorem dX7_setLine_62 : decode cX7_setLine 62 = .ok (.iaload, 1) := by decide +kernel
theorem dX7_setLine_63 : decode cX7_setLine 63 = .ok (.istore 7, 2) := by decide +kernel
theorem dX7_setLine_65 : decode cX7_setLine 65 = .ok (.iload 5, 2) := by decide +kernel
theorem dX7_setLine_67 : decode cX7_setLine 67 = .ok (.ifCond .ne 79, 3) := by decide +kernel
theorem dX7_setLine_70 : decode cX7_setLine 70 = .ok (.iload 6, 2) := by decide +kernel
theorem dX7_setLine_72 : decode cX7_setLine 72 = .ok (.iload 7, 2) := by decide +kernel
theorem dX7_setLine_74 : decode cX7_setLine 74 = .ok (.isub, 1) := by decide +kernel
theorem dX7_setLine_75 : decode cX7_setLine 75 = .ok (.iconst 2, 1) := by decide +kernel
theorem dX7_setLine_76 : decode cX7_setLine 76 = .ok (.idiv, 1) := by decide +kernel
theorem dX7_setLine_77 : decode cX7_setLine 77 = .ok (.istore 8, 2) := by decide +kernel
theorem dX7_setLine_79 : decode cX7_setLine 79 = .ok (.iload_n 3, 1) := by decide +kernel
theorem dX7_setLine_80 : decode cX7_setLine 80 = .ok (.ifCond .eq 23, 3) := by decide +kernel
theorem dX7_setLine_83 : decode cX7_setLine 83 = .ok (.aload_n 0, 1) := by decide +kernel
theorem dX7_setLine_84 : decode cX7_setLine 84 = .ok (.iconst 1, 1) := by decide +kernel
theorem dX7_setLine_85 : decode cX7_setLine 85 = .ok (.iload_n 1, 1) := by decide +kernel
theorem dX7_setLine_86 : decode cX7_setLine 86 = .ok (.iload_n 2, 1) := by decide +kernel
theorem dX7_setLine_87 : decode cX7_setLine 87 = .ok (.iload 4, 2) := by decide +kernel
theorem dX7_setLine_89 : decode cX7_setLine 89 = .ok (.ifCond .eq 8, 3) := by decide +kernel
theorem dX7_setLine_92 : decode cX7_setLine 92 = .ok (.iload 8, 2) := by decide +kernel
theorem dX7_setLine_94 : decode cX7_setLine 94 = .ok (.goto 5, 3) := by decide +kernel
theorem dX7_setLine_97 : decode cX7_setLine 97 = .ok (.iload 6, 2) := by decide +kernel
theorem dX7_setLine_99 : decode cX7_setLine 99 = .ok (.iconst 0, 1) := by decide +kernel
theorem dX7_setLine_100 : decode cX7_setLine 100 = .ok (.invokevirtual 150, 3) := by decide +kernel
theorem dX7_setLine_103 : decode cX7_setLine 103 = .ok (.iload 4, 2) := by decide +kernel
theorem dX7_setLine_105 : decode cX7_setLine 105 = .ok (.ifCond .eq 40, 3) := by decide +kernel
theorem dX7_setLine_108 : decode cX7_setLine 108 = .ok (.aload_n 0, 1) := by decide +kernel
theorem dX7_setLine_109 : decode cX7_setLine 109 = .ok (.iconst 2, 1) := by decide +kernel
theorem dX7_setLine_110 : decode cX7_setLine 110 = .ok (.iload_n 1, 1) := by decide +kernel
theorem dX7_setLine_111 : decode cX7_setLine 111 = .ok (.iload_n 2, 1) := by decide +kernel
theorem dX7_setLine_112 : decode cX7_setLine 112 = .ok (.iload_n 3, 1) := by decide +kernel
theorem dX7_setLine_113 : decode cX7_setLine 113 = .ok (.ifCond .eq 14, 3) := by decide +kernel
theorem dX7_setLine_116 : decode cX7_setLine 116 = .ok (.iload 6, 2) := by decide +kernel
theorem dX7_setLine_118 : decode cX7_setLine 118 = .ok (.iload 7, 2) := by decide +kernel
theorem dX7_setLine_120 : decode cX7_setLine 120 = .ok (.isub, 1) := by decide +kernel
theorem dX7_setLine_121 : decode cX7_setLine 121 = .ok (.iload 8, 2) := by decide +kernel
theorem dX7_setLine_123 : decode cX7_setLine 123 = .ok (.isub, 1) := by decide +kernel
theorem dX7_setLine_124 : decode cX7_setLine 124 = .ok (.goto 5, 3) := by decide +kernel
theorem dX7_setLine_127 : decode cX7_setLine 127 = .ok (.iload 6, 2) := by decide +kernel
theorem dX7_setLine_129 : decode cX7_setLine 129 = .ok (.iload_n 3, 1) := by decide +kernel
theorem dX7_setLine_130 : decode cX7_setLine 130 = .ok (.ifCond .eq 11, 3) := by decide +kernel
theorem dX7_setLine_133 : decode cX7_setLine 133 = .ok (.iload 8, 2) := by decide +kernel
theorem dX7_setLine_135 : decode cX7_setLine 135 = .ok (.iload 7, 2) := by decide +kernel
theorem dX7_setLine_137 : decode cX7_setLine 137 = .ok (.iadd, 1) := by decide +kernel
theorem dX7_setLine_138 : decode cX7_setLine 138 = .ok (.goto 4, 3) := by decide +kernel
theorem dX7_setLine_141 : decode cX7_setLine 141 = .ok (.iconst 0, 1) := by decide +kernel
theorem dX7_setLine_142 : decode cX7_setLine 142 = .ok (.invokevirtual 150, 3) := by decide +kernel
theorem dX7_setLine_145 : decode cX7_setLine 145 = .ok (.return_, 1) := by decide +kernel
theorem dX7_setLine_146 : decode cX7_setLine 146 = .ok (.iload_n 3, 1) := by decide +kernel
theorem dX7_setLine_147 : decode cX7_setLine 147 = .ok (.ifCond .eq 15, 3) := by decide +kernel
theorem dX7_setLine_150 : decode cX7_setLine 150 = .ok (.aload_n 0, 1) := by decide +kernel
theorem dX7_setLine_151 : decode cX7_setLine 151 = .ok (.getfield 9, 3) := by decide +kernel
theorem dX7_setLine_154 : decode cX7_setLine 154 = .ok (.iconst 3, 1) := by decide +kernel
theorem dX7_setLine_155 : decode cX7_setLine 155 = .ok (.iaload, 1) := by decide +kernel
theorem dX7_setLine_156 : decode cX7_setLine 156 = .ok (.iload 7, 2) := by decide +kernel
theorem dX7_setLine_158 : decode cX7_setLine 158 = .ok (.iadd, 1) := by decide +kernel
theorem dX7_setLine_159 : decode cX7_setLine 159 = .ok (.goto 4, 3) := by decide +kernel
theorem dX7_setLine_162 : decode cX7_setLine 162 = .ok (.iconst 0, 1) := by decide +kernel
theorem dX7_setLine_163 : decode cX7_setLine 163 = .ok (.istore 8, 2) := by decide +kernel
theorem dX7_setLine_165 : decode cX7_setLine 165 = .ok (.iload 6, 2) := by decide +kernel
theorem dX7_setLine_167 : decode cX7_setLine 167 = .ok (.iload 8, 2) := by decide +kernel
theorem dX7_setLine_169 : decode cX7_setLine 169 = .ok (.isub, 1) := by decide +kernel
theorem dX7_setLine_170 : decode cX7_setLine 170 = .ok (.iload 4, 2) := by decide +kernel
theorem dX7_setLine_172 : decode cX7_setLine 172 = .ok (.ifCond .eq 15, 3) := by decide +kernel
theorem dX7_setLine_175 : decode cX7_setLine 175 = .ok (.aload_n 0, 1) := by decide +kernel
theorem dX7_setLine_176 : decode cX7_setLine 176 = .ok (.getfield 9, 3) := by decide +kernel
theorem dX7_setLine_179 : decode cX7_setLine 179 = .ok (.iconst 4, 1) := by decide +kernel
theorem dX7_setLine_180 : decode cX7_setLine 180 = .ok (.iaload, 1) := by decide +kernel
theorem dX7_setLine_181 : decode cX7_setLine 181 = .ok (.iload 7, 2) := by decide +kernel
theorem dX7_setLine_183 : decode cX7_setLine 183 = .ok (.iadd, 1) := by decide +kernel
theorem dX7_setLine_184 : decode cX7_setLine 184 = .ok (.goto 4, 3) := by decide +kernel
theorem dX7_setLine_187 : decode cX7_setLine 187 = .ok (.iconst 0, 1) := by decide +kernel
theorem dX7_setLine_188 : decode cX7_setLine 188 = .ok (.isub, 1) := by decide +kernel
theorem dX7_setLine_189 : decode cX7_setLine 189 = .ok (.istore 9, 2) := by decide +kernel
theorem dX7_setLine_191 : decode cX7_setLine 191 = .ok (.iload_n 3, 1) := by decide +kernel
theorem dX7_setLine_192 : decode cX7_setLine 192 = .ok (.ifCond .eq 17, 3) := by decide +kernel
theorem dX7_setLine_195 : decode cX7_setLine 195 = .ok (.aload_n 0, 1) := by decide +kernel
theorem dX7_setLine_196 : decode cX7_setLine 196 = .ok (.iconst 1, 1) := by decide +kernel
theorem dX7_setLine_197 : decode cX7_setLine 197 = .ok (.iload_n 1, 1) := by decide +kernel
theorem dX7_setLine_198 : decode cX7_setLine 198 = .ok (.iload_n 2, 1) := by decide +kernel
theorem dX7_setLine_199 : decode cX7_setLine 199 = .ok (.aload_n 0, 1) := by decide +kernel
theorem dX7_setLine_200 : decode cX7_setLine 200 = .ok (.getfield 9, 3) := by decide +kernel
theorem dX7_setLine_203 : decode cX7_setLine 203 = .ok (.iconst 3, 1) := by decide +kernel
theorem dX7_setLine_204 : decode cX7_setLine 204 = .ok (.iaload, 1) := by decide +kernel
theorem dX7_setLine_205 : decode cX7_setLine 205 = .ok (.iconst 0, 1) := by decide +kernel
theorem dX7_setLine_206 : decode cX7_setLine 206 = .ok (.invokevirtual 150, 3) := by decide +kernel
theorem dX7_setLine_209 : decode cX7_setLine 209 = .ok (.aload_n 0, 1) := by decide +kernel
theorem dX7_setLine_210 : decode cX7_setLine 210 = .ok (.iconst 0, 1) := by decide +kernel
theorem dX7_setLine_211 : decode cX7_setLine 211 = .ok (.iload_n 1, 1) := by decide +kernel
theorem dX7_setLine_212 : decode cX7_setLine 212 = .ok (.iload_n 2, 1) := by decide +kernel
theorem dX7_setLine_213 : decode cX7_setLine 213 = .ok (.iload 9, 2) := by decide +kernel
theorem dX7_setLine_215 : decode cX7_setLine 215 = .ok (.iload 8, 2) := by decide +kernel
theorem dX7_setLine_217 : decode cX7_setLine 217 = .ok (.invokevirtual 150, 3) := by decide +kernel
theorem dX7_setLine_220 : decode cX7_setLine 220 = .ok (.iload 4, 2) := by decide +kernel
theorem dX7_setLine_222 : decode cX7_setLine 222 = .ok (.ifCond .eq 24, 3) := by decide +kernel
theorem dX7_setLine_225 : decode cX7_setLine 225 = .ok (.aload_n 0, 1) := by decide +kernel
theorem dX7_setLine_226 : decode cX7_setLine 226 = .ok (.iconst 2, 1) := by decide +kernel
theorem dX7_setLine_227 : decode cX7_setLine 227 = .ok (.iload_n 1, 1) := by decide +kernel
theorem dX7_setLine_228 : decode cX7_setLine 228 = .ok (.iload_n 2, 1) := by decide +kernel
theorem dX7_setLine_229 : decode cX7_setLine 229 = .ok (.aload_n 0, 1) := by decide +kernel
theorem dX7_setLine_230 : decode cX7_setLine 230 = .ok (.getfield 9, 3) := by decide +kernel
theorem dX7_setLine_233 : decode cX7_setLine 233 = .ok (.iconst 4, 1) := by decide +kernel
theorem dX7_setLine_234 : decode cX7_setLine 234 = .ok (.iaload, 1) := by decide +kernel
theorem dX7_setLine_235 : decode cX7_setLine 235 = .ok (.iload 8, 2) := by decide +kernel
theorem dX7_setLine_237 : decode cX7_setLine 237 = .ok (.iload 9, 2) := by decide +kernel
theorem dX7_setLine_239 : decode cX7_setLine 239 = .ok (.iadd, 1) := by decide +kernel
theorem dX7_setLine_240 : decode cX7_setLine 240 = .ok (.iload 7, 2) := by decide +kernel
theorem dX7_setLine_242 : decode cX7_setLine 242 = .ok (.iadd, 1) := by decide +kernel
theorem dX7_setLine_243 : decode cX7_setLine 243 = .ok (.invokevirtual 150, 3) := by decide +kernel
theorem dX7_setLine_246 : decode cX7_setLine 246 = .ok (.return_, 1) := by decide +kernel
theorem dX7_set_0 : decode cX7_set 0 = .ok (.aload_n 0, 1) := by decide +kernel
theorem dX7_set_1 : decode cX7_set 1 = .ok (.iconst 0, 1) := by decide +kernel
theorem dX7_set_2 : decode cX7_set 2 = .ok (.putfield 144, 3) := by decide +kernel
theorem dX7_set_5 : decode cX7_set 5 = .ok (.aload_n 0, 1) := by decide +kernel
theorem dX7_set_6 : decode cX7_set 6 = .ok (.iconst 0, 1) := by decide +kernel
theorem dX7_set_7 : decode cX7_set 7 = .ok (.putfield 154, 3) := by decide +kernel
theorem dX7_set_10 : decode cX7_set 10 = .ok (.iconst 0, 1) := by decide +kernel
theorem dX7_set_11 : decode cX7_set 11 = .ok (.istore_n 1, 1) := by decide +kernel
theorem dX7_set_12 : decode cX7_set 12 = .ok (.iload_n 1, 1) := by decide +kernel
theorem dX7_set_13 : decode cX7_set 13 = .ok (.iconst 3, 1) := by decide +kernel
theorem dX7_set_14 : decode cX7_set 14 = .ok (.if_icmp .ge 16, 3) := by decide +kernel
theorem dX7_set_17 : decode cX7_set 17 = .ok (.aload_n 0, 1) := by decide +kernel
theorem dX7_set_18 : decode cX7_set 18 = .ok (.getfield 30, 3) := by decide +kernel
theorem dX7_set_21 : decode cX7_set 21 = .ok (.iload_n 1, 1) := by decide +kernel
theorem dX7_set_22 : decode cX7_set 22 = .ok (.iconst 0, 1) := by decide +kernel
theorem dX7_set_23 : decode cX7_set 23 = .ok (.iastore, 1) := by decide +kernel
theorem dX7_set_24 : decode cX7_set 24 = .ok (.iinc 1 1, 3) := by decide +kernel
theorem dX7_set_27 : decode cX7_set 27 = .ok (.goto (-15), 3) := by decide +kernel
theorem dX7_set_30 : decode cX7_set 30 = .ok (.aload_n 0, 1) := by decide +kernel
theorem dX7_set_31 : decode cX7_set 31 = .ok (.invokevirtual 157, 3) := by decide +kernel
theorem dX7_set_34 : decode cX7_set 34 = .ok (.ifCond .eq 50, 3) := by decide +kernel
theorem dX7_set_37 : decode cX7_set 37 = .ok (.iconst 0, 1) := by decide +kernel
theorem dX7_set_38 : decode cX7_set 38 = .ok (.istore_n 1, 1) := by decide +kernel
theorem dX7_set_39 : decode cX7_set 39 = .ok (.iload_n 1, 1) := by decide +kernel
theorem dX7_set_40 : decode cX7_set 40 = .ok (.aload_n 0, 1) := by decide +kernel
theorem dX7_set_41 : decode cX7_set 41 = .ok (.getfield 9, 3) := by decide +kernel
theorem dX7_set_44 : decode cX7_set 44 = .ok (.iconst 1, 1) := by decide +kernel
theorem dX7_set_45 : decode cX7_set 45 = .ok (.iaload, 1) := by decide +kernel
theorem dX7_set_46 : decode cX7_set 46 = .ok (.if_icmp .ge 25, 3) := by decide +kernel
theorem dX7_set_49 : decode cX7_set 49 = .ok (.aload_n 0, 1) := by decide +kernel
theorem dX7_set_50 : decode cX7_set 50 = .ok (.invokevirtual 157, 3) := by decide +kernel
theorem dX7_set_53 : decode cX7_set 53 = .ok (.ifCond .eq 18, 3) := by decide +kernel
theorem dX7_set_56 : decode cX7_set 56 = .ok (.aload_n 0, 1) := by decide +kernel
theorem dX7_set_57 : decode cX7_set 57 = .ok (.aload_n 0, 1) := by decide +kernel
theorem dX7_set_58 : decode cX7_set 58 = .ok (.getfield 154, 3) := by decide +kernel
theorem dX7_set_61 : decode cX7_set 61 = .ok (.iload_n 1, 1) := by decide +kernel
theorem dX7_set_62 : decode cX7_set 62 = .ok (.invokevirtual 160, 3) := by decide +kernel
theorem dX7_set_65 : decode cX7_set 65 = .ok (.iinc 1 1, 3) := by decide +kernel
theorem dX7_set_68 : decode cX7_set 68 = .ok (.goto (-29), 3) := by decide +kernel
theorem dX7_set_71 : decode cX7_set 71 = .ok (.aload_n 0, 1) := by decide +kernel
theorem dX7_set_72 : decode cX7_set 72 = .ok (.dup, 1) := by decide +kernel
theorem dX7_set_73 : decode cX7_set 73 = .ok (.getfield 154, 3) := by decide +kernel
theorem dX7_set_76 : decode cX7_set 76 = .ok (.iconst 1, 1) := by decide +kernel
theorem dX7_set_77 : decode cX7_set 77 = .ok (.iadd, 1) := by decide +kernel
theorem dX7_set_78 : decode cX7_set 78 = .ok (.putfield 154, 3) := by decide +kernel
theorem dX7_set_81 : decode cX7_set 81 = .ok (.goto (-51), 3) := by decide +kernel
theorem dX7_set_84 : decode cX7_set 84 = .ok (.return_, 1) := by decide +kernel
theorem dX7_partAt_0 : decode cX7_partAt 0 = .ok (.iconst 0, 1) := by decide +kernel
theorem dX7_partAt_1 : decode cX7_partAt 1 = .ok (.istore 4, 2) := by decide +kernel
theorem dX7_partAt_3 : decode cX7_partAt 3 = .ok (.iload 4, 2) := by decide +kernel
theorem dX7_partAt_5 : decode cX7_partAt 5 = .ok (.aload_n 0, 1) := by decide +kernel
theorem dX7_partAt_6 : decode cX7_partAt 6 = .ok (.getfield 144, 3) := by decide +kernel
theorem dX7_partAt_9 : decode cX7_partAt 9 = .ok (.if_icmp .ge 58, 3) := by decide +kernel
theorem dX7_partAt_12 : decode cX7_partAt 12 = .ok (.aload_n 0, 1) := by decide +kernel
theorem dX7_partAt_13 : decode cX7_partAt 13 = .ok (.getfield 24, 3) := by decide +kernel
theorem dX7_partAt_16 : decode cX7_partAt 16 = .ok (.bipush 8, 2) := by decide +kernel
theorem dX7_partAt_18 : decode cX7_partAt 18 = .ok (.iload 4, 2) := by decide +kernel
theorem dX7_partAt_20 : decode cX7_partAt 20 = .ok (.imul, 1) := by decide +kernel
theorem dX7_partAt_21 : decode cX7_partAt 21 = .ok (.iaload, 1) := by decide +kernel
theorem dX7_partAt_22 : decode cX7_partAt 22 = .ok (.iload_n 3, 1) := by decide +kernel
theorem dX7_partAt_23 : decode cX7_partAt 23 = .ok (.if_icmp .ne 38, 3) := by decide +kernel
theorem dX7_partAt_26 : decode cX7_partAt 26 = .ok (.aload_n 0, 1) := by decide +kernel
theorem dX7_partAt_27 : decode cX7_partAt 27 = .ok (.getfield 24, 3) := by decide +kernel
theorem dX7_partAt_30 : decode cX7_partAt 30 = .ok (.bipush 8, 2) := by decide +kernel
theorem dX7_partAt_32 : decode cX7_partAt 32 = .ok (.iload 4, 2) := by decide +kernel
theorem dX7_partAt_34 : decode cX7_partAt 34 = .ok (.imul, 1) := by decide +kernel
theorem dX7_partAt_35 : decode cX7_partAt 35 = .ok (.iconst 1, 1) := by decide +kernel
theorem dX7_partAt_36 : decode cX7_partAt 36 = .ok (.iadd, 1) := by decide +kernel
theorem dX7_partAt_37 : decode cX7_partAt 37 = .ok (.iaload, 1) := by decide +kernel
theorem dX7_partAt_38 : decode cX7_partAt 38 = .ok (.iload_n 1, 1) := by decide +kernel
theorem dX7_partAt_39 : decode cX7_partAt 39 = .ok (.if_icmp .ne 22, 3) := by decide +kernel
theorem dX7_partAt_42 : decode cX7_partAt 42 = .ok (.aload_n 0, 1) := by decide +kernel
theorem dX7_partAt_43 : decode cX7_partAt 43 = .ok (.getfield 24, 3) := by decide +kernel
theorem dX7_partAt_46 : decode cX7_partAt 46 = .ok (.bipush 8, 2) := by decide +kernel
theorem dX7_partAt_48 : decode cX7_partAt 48 = .ok (.iload 4, 2) := by decide +kernel
theorem dX7_partAt_50 : decode cX7_partAt 50 = .ok (.imul, 1) := by decide +kernel
theorem dX7_partAt_51 : decode cX7_partAt 51 = .ok (.iconst 2, 1) := by decide +kernel
theorem dX7_partAt_52 : decode cX7_partAt 52 = .ok (.iadd, 1) := by decide +kernel
theorem dX7_partAt_53 : decode cX7_partAt 53 = .ok (.iaload, 1) := by decide +kernel
theorem dX7_partAt_54 : decode cX7_partAt 54 = .ok (.iload_n 2, 1) := by decide +kernel
theorem dX7_partAt_55 : decode cX7_partAt 55 = .ok (.if_icmp .ne 6, 3) := by decide +kernel
theorem dX7_partAt_58 : decode cX7_partAt 58 = .ok (.iload 4, 2) := by decide +kernel
theorem dX7_partAt_60 : decode cX7_partAt 60 = .ok (.ireturn, 1) := by decide +kernel
theorem dX7_partAt_61 : decode cX7_partAt 61 = .ok (.iinc 4 1, 3) := by decide +kernel
theorem dX7_partAt_64 : decode cX7_partAt 64 = .ok (.goto (-61), 3) := by decide +kernel
theorem dX7_partAt_67 : decode cX7_partAt 67 = .ok (.iconst (-1), 1) := by decide +kernel
theorem dX7_partAt_68 : decode cX7_partAt 68 = .ok (.ireturn, 1) := by decide +kernel
theorem dX7_told_0 : decode cX7_told 0 = .ok (.aload_n 0, 1) := by decide +kernel
theorem dX7_told_1 : decode cX7_told 1 = .ok (.getfield 24, 3) := by decide +kernel
theorem dX7_told_4 : decode cX7_told 4 = .ok (.bipush 8, 2) := by decide +kernel
theorem dX7_told_6 : decode cX7_told 6 = .ok (.iload_n 1, 1) := by decide +kernel
theorem dX7_told_7 : decode cX7_told 7 = .ok (.imul, 1) := by decide +kernel
theorem dX7_told_8 : decode cX7_told 8 = .ok (.iload_n 2, 1) := by decide +kernel
theorem dX7_told_9 : decode cX7_told 9 = .ok (.iadd, 1) := by decide +kernel
theorem dX7_told_10 : decode cX7_told 10 = .ok (.iaload, 1) := by decide +kernel
theorem dX7_told_11 : decode cX7_told 11 = .ok (.ireturn, 1) := by decide +kernel
theorem dX7_pages_0 : decode cX7_pages 0 = .ok (.aload_n 0, 1) := by decide +kernel
theorem dX7_pages_1 : decode cX7_pages 1 = .ok (.iconst 0, 1) := by decide +kernel
theorem dX7_pages_2 : decode cX7_pages 2 = .ok (.putfield 58, 3) := by decide +kernel
theorem dX7_pages_5 : decode cX7_pages 5 = .ok (.aload_n 0, 1) := by decide +kernel
theorem dX7_pages_6 : decode cX7_pages 6 = .ok (.invokevirtual 164, 3) := by decide +kernel
theorem dX7_pages_9 : decode cX7_pages 9 = .ok (.aload_n 0, 1) := by decide +kernel
theorem dX7_pages_10 : decode cX7_pages 10 = .ok (.iconst 0, 1) := by decide +kernel
theorem dX7_pages_11 : decode cX7_pages 11 = .ok (.putfield 62, 3) := by decide +kernel
theorem dX7_pages_14 : decode cX7_pages 14 = .ok (.aload_n 0, 1) := by decide +kernel
theorem dX7_pages_15 : decode cX7_pages 15 = .ok (.aload_n 0, 1) := by decide +kernel
theorem dX7_pages_16 : decode cX7_pages 16 = .ok (.getfield 144, 3) := by decide +kernel
theorem dX7_pages_19 : decode cX7_pages 19 = .ok (.ifCond .ne 7, 3) := by decide +kernel
theorem dX7_pages_22 : decode cX7_pages 22 = .ok (.lconst 0, 1) := by decide +kernel
theorem dX7_pages_23 : decode cX7_pages 23 = .ok (.goto 17, 3) := by decide +kernel
theorem dX7_pages_26 : decode cX7_pages 26 = .ok (.aload_n 0, 1) := by decide +kernel
theorem dX7_pages_27 : decode cX7_pages 27 = .ok (.aload_n 0, 1) := by decide +kernel
theorem dX7_pages_28 : decode cX7_pages 28 = .ok (.getfield 144, 3) := by decide +kernel
theorem dX7_pages_31 : decode cX7_pages 31 = .ok (.iconst 1, 1) := by decide +kernel
theorem dX7_pages_32 : decode cX7_pages 32 = .ok (.isub, 1) := by decide +kernel
theorem dX7_pages_33 : decode cX7_pages 33 = .ok (.iconst 2, 1) := by decide +kernel
theorem dX7_pages_34 : decode cX7_pages 34 = .ok (.invokevirtual 167, 3) := by decide +kernel
theorem dX7_pages_37 : decode cX7_pages 37 = .ok (.iconst 1, 1) := by decide +kernel
theorem dX7_pages_38 : decode cX7_pages 38 = .ok (.iadd, 1) := by decide +kernel
theorem dX7_pages_39 : decode cX7_pages 39 = .ok (.i2l, 1) := by decide +kernel
theorem dX7_pages_40 : decode cX7_pages 40 = .ok (.invokevirtual 135, 3) := by decide +kernel
theorem dX7_pages_43 : decode cX7_pages 43 = .ok (.aload_n 0, 1) := by decide +kernel
theorem dX7_pages_44 : decode cX7_pages 44 = .ok (.getfield 154, 3) := by decide +kernel
theorem dX7_pages_47 : decode cX7_pages 47 = .ok (.ireturn, 1) := by decide +kernel
theorem dX7_isLine_0 : decode cX7_isLine 0 = .ok (.iload_n 1, 1) := by decide +kernel
theorem dX7_isLine_1 : decode cX7_isLine 1 = .ok (.iconst 0, 1) := by decide +kernel
theorem dX7_isLine_2 : decode cX7_isLine 2 = .ok (.aload_n 0, 1) := by decide +kernel
theorem dX7_isLine_3 : decode cX7_isLine 3 = .ok (.getfield 154, 3) := by decide +kernel
theorem dX7_isLine_6 : decode cX7_isLine 6 = .ok (.iconst 1, 1) := by decide +kernel
theorem dX7_isLine_7 : decode cX7_isLine 7 = .ok (.isub, 1) := by decide +kernel
theorem dX7_isLine_8 : decode cX7_isLine 8 = .ok (.invokestatic 65, 3) := by decide +kernel
theorem dX7_isLine_11 : decode cX7_isLine 11 = .ok (.ifCond .eq 23, 3) := by decide +kernel
theorem dX7_isLine_14 : decode cX7_isLine 14 = .ok (.iload_n 2, 1) := by decide +kernel
theorem dX7_isLine_15 : decode cX7_isLine 15 = .ok (.iconst 0, 1) := by decide +kernel
theorem dX7_isLine_16 : decode cX7_isLine 16 = .ok (.aload_n 0, 1) := by decide +kernel
theorem dX7_isLine_17 : decode cX7_isLine 17 = .ok (.getfield 9, 3) := by decide +kernel
theorem dX7_isLine_20 : decode cX7_isLine 20 = .ok (.iconst 1, 1) := by decide +kernel
theorem dX7_isLine_21 : decode cX7_isLine 21 = .ok (.iaload, 1) := by decide +kernel
theorem dX7_isLine_22 : decode cX7_isLine 22 = .ok (.iconst 1, 1) := by decide +kernel
theorem dX7_isLine_23 : decode cX7_isLine 23 = .ok (.isub, 1) := by decide +kernel
theorem dX7_isLine_24 : decode cX7_isLine 24 = .ok (.invokestatic 65, 3) := by decide +kernel
theorem dX7_isLine_27 : decode cX7_isLine 27 = .ok (.ifCond .eq 7, 3) := by decide +kernel
theorem dX7_isLine_30 : decode cX7_isLine 30 = .ok (.iconst 1, 1) := by decide +kernel
theorem dX7_isLine_31 : decode cX7_isLine 31 = .ok (.goto 4, 3) := by decide +kernel
theorem dX7_isLine_34 : decode cX7_isLine 34 = .ok (.iconst 0, 1) := by decide +kernel
theorem dX7_isLine_35 : decode cX7_isLine 35 = .ok (.ireturn, 1) := by decide +kernel
theorem dX7_part_0 : decode cX7_part 0 = .ok (.aload_n 0, 1) := by decide +kernel
theorem dX7_part_1 : decode cX7_part 1 = .ok (.iconst 0, 1) := by decide +kernel
theorem dX7_part_2 : decode cX7_part 2 = .ok (.putfield 58, 3) := by decide +kernel
theorem dX7_part_5 : decode cX7_part 5 = .ok (.aload_n 0, 1) := by decide +kernel
theorem dX7_part_6 : decode cX7_part 6 = .ok (.invokevirtual 164, 3) := by decide +kernel
theorem dX7_part_9 : decode cX7_part 9 = .ok (.iload_n 3, 1) := by decide +kernel
theorem dX7_part_10 : decode cX7_part 10 = .ok (.invokestatic 69, 3) := by decide +kernel
theorem dX7_part_13 : decode cX7_part 13 = .ok (.ifCond .eq 12, 3) := by decide +kernel
theorem dX7_part_16 : decode cX7_part 16 = .ok (.aload_n 0, 1) := by decide +kernel
theorem dX7_part_17 : decode cX7_part 17 = .ok (.iload_n 1, 1) := by decide +kernel
theorem dX7_part_18 : decode cX7_part 18 = .ok (.iload_n 2, 1) := by decide +kernel
theorem dX7_part_19 : decode cX7_part 19 = .ok (.invokevirtual 170, 3) := by decide +kernel
theorem dX7_part_22 : decode cX7_part 22 = .ok (.ifCond .ne 5, 3) := by decide +kernel
theorem dX7_part_25 : decode cX7_part 25 = .ok (.iconst (-1), 1) := by decide +kernel
theorem dX7_part_26 : decode cX7_part 26 = .ok (.ireturn, 1) := by decide +kernel
theorem dX7_part_27 : decode cX7_part 27 = .ok (.aload_n 0, 1) := by decide +kernel
theorem dX7_part_28 : decode cX7_part 28 = .ok (.iload_n 1, 1) := by decide +kernel
theorem dX7_part_29 : decode cX7_part 29 = .ok (.iload_n 2, 1) := by decide +kernel
theorem dX7_part_30 : decode cX7_part 30 = .ok (.iload_n 3, 1) := by decide +kernel
theorem dX7_part_31 : decode cX7_part 31 = .ok (.invokevirtual 173, 3) := by decide +kernel
theorem dX7_part_34 : decode cX7_part 34 = .ok (.istore 4, 2) := by decide +kernel
theorem dX7_part_36 : decode cX7_part 36 = .ok (.iload 4, 2) := by decide +kernel
theorem dX7_part_38 : decode cX7_part 38 = .ok (.iconst (-1), 1) := by decide +kernel
theorem dX7_part_39 : decode cX7_part 39 = .ok (.if_icmp .ne 6, 3) := by decide +kernel
theorem dX7_part_42 : decode cX7_part 42 = .ok (.bipush (-2), 2) := by decide +kernel
theorem dX7_part_44 : decode cX7_part 44 = .ok (.ireturn, 1) := by decide +kernel
theorem dX7_part_45 : decode cX7_part 45 = .ok (.aload_n 0, 1) := by decide +kernel
theorem dX7_part_46 : decode cX7_part 46 = .ok (.iconst 0, 1) := by decide +kernel
theorem dX7_part_47 : decode cX7_part 47 = .ok (.putfield 62, 3) := by decide +kernel
theorem dX7_part_50 : decode cX7_part 50 = .ok (.aload_n 0, 1) := by decide +kernel
theorem dX7_part_51 : decode cX7_part 51 = .ok (.aload_n 0, 1) := by decide +kernel
theorem dX7_part_52 : decode cX7_part 52 = .ok (.iload 4, 2) := by decide +kernel
theorem dX7_part_54 : decode cX7_part 54 = .ok (.iconst 3, 1) := by decide +kernel
theorem dX7_part_55 : decode cX7_part 55 = .ok (.invokevirtual 167, 3) := by decide +kernel
theorem dX7_part_58 : decode cX7_part 58 = .ok (.i2l, 1) := by decide +kernel
theorem dX7_part_59 : decode cX7_part 59 = .ok (.invokevirtual 135, 3) := by decide +kernel
theorem dX7_part_62 : decode cX7_part 62 = .ok (.aload_n 0, 1) := by decide +kernel
theorem dX7_part_63 : decode cX7_part 63 = .ok (.aload_n 0, 1) := by decide +kernel
theorem dX7_part_64 : decode cX7_part 64 = .ok (.iload 4, 2) := by decide +kernel
theorem dX7_part_66 : decode cX7_part 66 = .ok (.iconst 5, 1) := by decide +kernel
theorem dX7_part_67 : decode cX7_part 67 = .ok (.invokevirtual 167, 3) := by decide +kernel
theorem dX7_part_70 : decode cX7_part 70 = .ok (.i2l, 1) := by decide +kernel
theorem dX7_part_71 : decode cX7_part 71 = .ok (.invokevirtual 135, 3) := by decide +kernel
theorem dX7_part_74 : decode cX7_part 74 = .ok (.aload_n 0, 1) := by decide +kernel
theorem dX7_part_75 : decode cX7_part 75 = .ok (.aload_n 0, 1) := by decide +kernel
theorem dX7_part_76 : decode cX7_part 76 = .ok (.iload 4, 2) := by decide +kernel
theorem dX7_part_78 : decode cX7_part 78 = .ok (.bipush 6, 2) := by decide +kernel
theorem dX7_part_80 : decode cX7_part 80 = .ok (.invokevirtual 167, 3) := by decide +kernel
theorem dX7_part_83 : decode cX7_part 83 = .ok (.i2l, 1) := by decide +kernel
theorem dX7_part_84 : decode cX7_part 84 = .ok (.invokevirtual 135, 3) := by decide +kernel
theorem dX7_part_87 : decode cX7_part 87 = .ok (.aload_n 0, 1) := by decide +kernel
theorem dX7_part_88 : decode cX7_part 88 = .ok (.aload_n 0, 1) := by decide +kernel
theorem dX7_part_89 : decode cX7_part 89 = .ok (.iload 4, 2) := by decide +kernel
theorem dX7_part_91 : decode cX7_part 91 = .ok (.bipush 7, 2) := by decide +kernel
theorem dX7_part_93 : decode cX7_part 93 = .ok (.invokevirtual 167, 3) := by decide +kernel
theorem dX7_part_96 : decode cX7_part 96 = .ok (.i2l, 1) := by decide +kernel
theorem dX7_part_97 : decode cX7_part 97 = .ok (.invokevirtual 135, 3) := by decide +kernel
theorem dX7_part_100 : decode cX7_part 100 = .ok (.aload_n 0, 1) := by decide +kernel
theorem dX7_part_101 : decode cX7_part 101 = .ok (.iload 4, 2) := by decide +kernel
theorem dX7_part_103 : decode cX7_part 103 = .ok (.iconst 4, 1) := by decide +kernel
theorem dX7_part_104 : decode cX7_part 104 = .ok (.invokevirtual 167, 3) := by decide +kernel
theorem dX7_part_107 : decode cX7_part 107 = .ok (.ireturn, 1) := by decide +kernel
theorem dX7_isLastPart_0 : decode cX7_isLastPart 0 = .ok (.aload_n 0, 1) := by decide +kernel
theorem dX7_isLastPart_1 : decode cX7_isLastPart 1 = .ok (.iload_n 1, 1) := by decide +kernel
theorem dX7_isLastPart_2 : decode cX7_isLastPart 2 = .ok (.iconst 3, 1) := by decide +kernel
theorem dX7_isLastPart_3 : decode cX7_isLastPart 3 = .ok (.invokevirtual 167, 3) := by decide +kernel
theorem dX7_isLastPart_6 : decode cX7_isLastPart 6 = .ok (.aload_n 0, 1) := by decide +kernel
theorem dX7_isLastPart_7 : decode cX7_isLastPart 7 = .ok (.iload_n 1, 1) := by decide +kernel
theorem dX7_isLastPart_8 : decode cX7_isLastPart 8 = .ok (.iconst 4, 1) := by decide +kernel
theorem dX7_isLastPart_9 : decode cX7_isLastPart 9 = .ok (.invokevirtual 167, 3) := by decide +kernel
theorem dX7_isLastPart_12 : decode cX7_isLastPart 12 = .ok (.iadd, 1) := by decide +kernel
theorem dX7_isLastPart_13 : decode cX7_isLastPart 13 = .ok (.aload_n 0, 1) := by decide +kernel
theorem dX7_isLastPart_14 : decode cX7_isLastPart 14 = .ok (.getfield 9, 3) := by decide +kernel
theorem dX7_isLastPart_17 : decode cX7_isLastPart 17 = .ok (.iconst 5, 1) := by decide +kernel
theorem dX7_isLastPart_18 : decode cX7_isLastPart 18 = .ok (.aload_n 0, 1) := by decide +kernel
theorem dX7_isLastPart_19 : decode cX7_isLastPart 19 = .ok (.iload_n 1, 1) := by decide +kernel
theorem dX7_isLastPart_20 : decode cX7_isLastPart 20 = .ok (.iconst 0, 1) := by decide +kernel
theorem dX7_isLastPart_21 : decode cX7_isLastPart 21 = .ok (.invokevirtual 167, 3) := by decide +kernel
theorem dX7_isLastPart_24 : decode cX7_isLastPart 24 = .ok (.iadd, 1) := by decide +kernel
theorem dX7_isLastPart_25 : decode cX7_isLastPart 25 = .ok (.iaload, 1) := by decide +kernel
theorem dX7_isLastPart_26 : decode cX7_isLastPart 26 = .ok (.if_icmp .ne 7, 3) := by decide +kernel
theorem dX7_isLastPart_29 : decode cX7_isLastPart 29 = .ok (.iconst 1, 1) := by decide +kernel
theorem dX7_isLastPart_30 : decode cX7_isLastPart 30 = .ok (.goto 4, 3) := by decide +kernel
theorem dX7_isLastPart_33 : decode cX7_isLastPart 33 = .ok (.iconst 0, 1) := by decide +kernel
theorem dX7_isLastPart_34 : decode cX7_isLastPart 34 = .ok (.ireturn, 1) := by decide +kernel
theorem dX7_columnOf_0 : decode cX7_columnOf 0 = .ok (.aload_n 0, 1) := by decide +kernel
theorem dX7_columnOf_1 : decode cX7_columnOf 1 = .ok (.getfield 27, 3) := by decide +kernel
theorem dX7_columnOf_4 : decode cX7_columnOf 4 = .ok (.bipush 70, 2) := by decide +kernel
theorem dX7_columnOf_6 : decode cX7_columnOf 6 = .ok (.iload_n 1, 1) := by decide +kernel
theorem dX7_columnOf_7 : decode cX7_columnOf 7 = .ok (.imul, 1) := by decide +kernel
theorem dX7_columnOf_8 : decode cX7_columnOf 8 = .ok (.iload_n 2, 1) := by decide +kernel
theorem dX7_columnOf_9 : decode cX7_columnOf 9 = .ok (.iadd, 1) := by decide +kernel
theorem dX7_columnOf_10 : decode cX7_columnOf 10 = .ok (.iaload, 1) := by decide +kernel
theorem dX7_columnOf_11 : decode cX7_columnOf 11 = .ok (.istore_n 3, 1) := by decide +kernel
theorem dX7_columnOf_12 : decode cX7_columnOf 12 = .ok (.aload_n 0, 1) := by decide +kernel
theorem dX7_columnOf_13 : decode cX7_columnOf 13 = .ok (.iload_n 3, 1) := by decide +kernel
theorem dX7_columnOf_14 : decode cX7_columnOf 14 = .ok (.iconst 4, 1) := by decide +kernel
theorem dX7_columnOf_15 : decode cX7_columnOf 15 = .ok (.invokevirtual 167, 3) := by decide +kernel
theorem dX7_columnOf_18 : decode cX7_columnOf 18 = .ok (.istore 4, 2) := by decide +kernel
theorem dX7_columnOf_20 : decode cX7_columnOf 20 = .ok (.aload_n 0, 1) := by decide +kernel
theorem dX7_columnOf_21 : decode cX7_columnOf 21 = .ok (.iload_n 3, 1) := by decide +kernel
theorem dX7_columnOf_22 : decode cX7_columnOf 22 = .ok (.iconst 3, 1) := by decide +kernel
theorem dX7_columnOf_23 : decode cX7_columnOf 23 = .ok (.invokevirtual 167, 3) := by decide +kernel
theorem dX7_columnOf_26 : decode cX7_columnOf 26 = .ok (.istore 5, 2) := by decide +kernel
theorem dX7_columnOf_28 : decode cX7_columnOf 28 = .ok (.aload_n 0, 1) := by decide +kernel
theorem dX7_columnOf_29 : decode cX7_columnOf 29 = .ok (.iload_n 3, 1) := by decide +kernel
theorem dX7_columnOf_30 : decode cX7_columnOf 30 = .ok (.iconst 5, 1) := by decide +kernel
theorem dX7_columnOf_31 : decode cX7_columnOf 31 = .ok (.invokevirtual 167, 3) := by decide +kernel
theorem dX7_columnOf_34 : decode cX7_columnOf 34 = .ok (.istore 6, 2) := by decide +kernel
theorem dX7_columnOf_36 : decode cX7_columnOf 36 = .ok (.iconst 0, 1) := by decide +kernel
theorem dX7_columnOf_37 : decode cX7_columnOf 37 = .ok (.istore 7, 2) := by decide +kernel
theorem dX7_columnOf_39 : decode cX7_columnOf 39 = .ok (.iload 7, 2) := by decide +kernel
theorem dX7_columnOf_41 : decode cX7_columnOf 41 = .ok (.iload 4, 2) := by decide +kernel
theorem dX7_columnOf_43 : decode cX7_columnOf 43 = .ok (.if_icmp .ge 24, 3) := by decide +kernel
theorem dX7_columnOf_46 : decode cX7_columnOf 46 = .ok (.iload 6, 2) := by decide +kernel
theorem dX7_columnOf_48 : decode cX7_columnOf 48 = .ok (.aload_n 0, 1) := by decide +kernel
theorem dX7_columnOf_49 : decode cX7_columnOf 49 = .ok (.iload_n 1, 1) := by decide +kernel
theorem dX7_columnOf_50 : decode cX7_columnOf 50 = .ok (.iload 5, 2) := by decide +kernel
theorem dX7_columnOf_52 : decode cX7_columnOf 52 = .ok (.iload 7, 2) := by decide +kernel
theorem dX7_columnOf_54 : decode cX7_columnOf 54 = .ok (.iadd, 1) := by decide +kernel
theorem dX7_columnOf_55 : decode cX7_columnOf 55 = .ok (.invokevirtual 147, 3) := by decide +kernel
theorem dX7_columnOf_58 : decode cX7_columnOf 58 = .ok (.isub, 1) := by decide +kernel
theorem dX7_columnOf_59 : decode cX7_columnOf 59 = .ok (.istore 6, 2) := by decide +kernel
theorem dX7_columnOf_61 : decode cX7_columnOf 61 = .ok (.iinc 7 1, 3) := by decide +kernel
theorem dX7_columnOf_64 : decode cX7_columnOf 64 = .ok (.goto (-25), 3) := by decide +kernel
theorem dX7_columnOf_67 : decode cX7_columnOf 67 = .ok (.iload 4, 2) := by decide +kernel
theorem dX7_columnOf_69 : decode cX7_columnOf 69 = .ok (.iconst 1, 1) := by decide +kernel
theorem dX7_columnOf_70 : decode cX7_columnOf 70 = .ok (.if_icmp .le 15, 3) := by decide +kernel
theorem dX7_columnOf_73 : decode cX7_columnOf 73 = .ok (.aload_n 0, 1) := by decide +kernel
theorem dX7_columnOf_74 : decode cX7_columnOf 74 = .ok (.iload_n 3, 1) := by decide +kernel
theorem dX7_columnOf_75 : decode cX7_columnOf 75 = .ok (.invokevirtual 177, 3) := by decide +kernel
theorem dX7_columnOf_78 : decode cX7_columnOf 78 = .ok (.ifCond .ne 7, 3) := by decide +kernel
theorem dX7_columnOf_81 : decode cX7_columnOf 81 = .ok (.iconst 1, 1) := by decide +kernel
theorem dX7_columnOf_82 : decode cX7_columnOf 82 = .ok (.goto 4, 3) := by decide +kernel
theorem dX7_columnOf_85 : decode cX7_columnOf 85 = .ok (.iconst 0, 1) := by decide +kernel
theorem dX7_columnOf_86 : decode cX7_columnOf 86 = .ok (.istore 7, 2) := by decide +kernel
theorem dX7_columnOf_88 : decode cX7_columnOf 88 = .ok (.aload_n 0, 1) := by decide +kernel
theorem dX7_columnOf_89 : decode cX7_columnOf 89 = .ok (.iload_n 3, 1) := by decide +kernel
theorem dX7_columnOf_90 : decode cX7_columnOf 90 = .ok (.bipush 6, 2) := by decide +kernel
theorem dX7_columnOf_92 : decode cX7_columnOf 92 = .ok (.invokevirtual 167, 3) := by decide +kernel
theorem dX7_columnOf_95 : decode cX7_columnOf 95 = .ok (.istore 8, 2) := by decide +kernel
theorem dX7_columnOf_97 : decode cX7_columnOf 97 = .ok (.iconst 0, 1) := by decide +kernel
theorem dX7_columnOf_98 : decode cX7_columnOf 98 = .ok (.istore 9, 2) := by decide +kernel
theorem dX7_columnOf_100 : decode cX7_columnOf 100 = .ok (.iload 9, 2) := by decide +kernel
theorem dX7_columnOf_102 : decode cX7_columnOf 102 = .ok (.iload_n 2, 1) := by decide +kernel
theorem dX7_columnOf_103 : decode cX7_columnOf 103 = .ok (.iload 5, 2) := by decide +kernel
theorem dX7_columnOf_105 : decode cX7_columnOf 105 = .ok (.isub, 1) := by decide +kernel
theorem dX7_columnOf_106 : decode cX7_columnOf 106 = .ok (.if_icmp .ge 59, 3) := by decide +kernel
theorem dX7_columnOf_109 : decode cX7_columnOf 109 = .ok (.iload 8, 2) := by decide +kernel
theorem dX7_columnOf_111 : decode cX7_columnOf 111 = .ok (.aload_n 0, 1) := by decide +kernel
theorem dX7_columnOf_112 : decode cX7_columnOf 112 = .ok (.iload_n 1, 1) := by decide +kernel
theorem dX7_columnOf_113 : decode cX7_columnOf 113 = .ok (.iload 5, 2) := by decide +kernel
theorem dX7_columnOf_115 : decode cX7_columnOf 115 = .ok (.iload 9, 2) := by decide +kernel
theorem dX7_columnOf_117 : decode cX7_columnOf 117 = .ok (.iadd, 1) := by decide +kernel
theorem dX7_columnOf_118 : decode cX7_columnOf 118 = .ok (.invokevirtual 147, 3) := by decide +kernel
theorem dX7_columnOf_121 : decode cX7_columnOf 121 = .ok (.iload 7, 2) := by decide +kernel
theorem dX7_columnOf_123 : decode cX7_columnOf 123 = .ok (.ifCond .eq 31, 3) := by decide +kernel
theorem dX7_columnOf_126 : decode cX7_columnOf 126 = .ok (.iload 6, 2) := by decide +kernel
theorem dX7_columnOf_128 : decode cX7_columnOf 128 = .ok (.iload 4, 2) := by decide +kernel
theorem dX7_columnOf_130 : decode cX7_columnOf 130 = .ok (.iconst 1, 1) := by decide +kernel
theorem dX7_columnOf_131 : decode cX7_columnOf 131 = .ok (.isub, 1) := by decide +kernel
theorem dX7_columnOf_132 : decode cX7_columnOf 132 = .ok (.idiv, 1) := by decide +kernel
theorem dX7_columnOf_133 : decode cX7_columnOf 133 = .ok (.iload 9, 2) := by decide +kernel
theorem dX7_columnOf_135 : decode cX7_columnOf 135 = .ok (.iload 6, 2) := by decide +kernel
theorem dX7_columnOf_137 : decode cX7_columnOf 137 = .ok (.iload 4, 2) := by decide +kernel
theorem dX7_columnOf_139 : decode cX7_columnOf 139 = .ok (.iconst 1, 1) := by decide +kernel
theorem dX7_columnOf_140 : decode cX7_columnOf 140 = .ok (.isub, 1) := by decide +kernel
theorem dX7_columnOf_141 : decode cX7_columnOf 141 = .ok (.irem, 1) := by decide +kernel
theorem dX7_columnOf_142 : decode cX7_columnOf 142 = .ok (.if_icmp .ge 7, 3) := by decide +kernel
theorem dX7_columnOf_145 : decode cX7_columnOf 145 = .ok (.iconst 1, 1) := by decide +kernel
theorem dX7_columnOf_146 : decode cX7_columnOf 146 = .ok (.goto 4, 3) := by decide +kernel
theorem dX7_columnOf_149 : decode cX7_columnOf 149 = .ok (.iconst 0, 1) := by decide +kernel
theorem dX7_columnOf_150 : decode cX7_columnOf 150 = .ok (.iadd, 1) := by decide +kernel
theorem dX7_columnOf_151 : decode cX7_columnOf 151 = .ok (.goto 4, 3) := by decide +kernel
theorem dX7_columnOf_154 : decode cX7_columnOf 154 = .ok (.iconst 1, 1) := by decide +kernel
theorem dX7_columnOf_155 : decode cX7_columnOf 155 = .ok (.iadd, 1) := by decide +kernel
theorem dX7_columnOf_156 : decode cX7_columnOf 156 = .ok (.iadd, 1) := by decide +kernel
theorem dX7_columnOf_157 : decode cX7_columnOf 157 = .ok (.istore 8, 2) := by decide +kernel
theorem dX7_columnOf_159 : decode cX7_columnOf 159 = .ok (.iinc 9 1, 3) := by decide +kernel
theorem dX7_columnOf_162 : decode cX7_columnOf 162 = .ok (.goto (-62), 3) := by decide +kernel
theorem dX7_columnOf_165 : decode cX7_columnOf 165 = .ok (.iload 8, 2) := by decide +kernel
theorem dX7_columnOf_167 : decode cX7_columnOf 167 = .ok (.ireturn, 1) := by decide +kernel
theorem dX7_word_0 : decode cX7_word 0 = .ok (.aload_n 0, 1) := by decide +kernel
theorem dX7_word_1 : decode cX7_word 1 = .ok (.iconst 0, 1) := by decide +kernel
theorem dX7_word_2 : decode cX7_word 2 = .ok (.putfield 58, 3) := by decide +kernel
theorem dX7_word_5 : decode cX7_word 5 = .ok (.aload_n 0, 1) := by decide +kernel
theorem dX7_word_6 : decode cX7_word 6 = .ok (.iload_n 1, 1) := by decide +kernel
theorem dX7_word_7 : decode cX7_word 7 = .ok (.iload_n 2, 1) := by decide +kernel
theorem dX7_word_8 : decode cX7_word 8 = .ok (.invokevirtual 121, 3) := by decide +kernel
theorem dX7_word_11 : decode cX7_word 11 = .ok (.ifCond .eq 12, 3) := by decide +kernel
theorem dX7_word_14 : decode cX7_word 14 = .ok (.iload_n 3, 1) := by decide +kernel
theorem dX7_word_15 : decode cX7_word 15 = .ok (.iconst 0, 1) := by decide +kernel
theorem dX7_word_16 : decode cX7_word 16 = .ok (.iconst 4, 1) := by decide +kernel
theorem dX7_word_17 : decode cX7_word 17 = .ok (.invokestatic 65, 3) := by decide +kernel
theorem dX7_word_20 : decode cX7_word 20 = .ok (.ifCond .ne 8, 3) := by decide +kernel
theorem dX7_word_23 : decode cX7_word 23 = .ok (.aload_n 0, 1) := by decide +kernel
theorem dX7_word_24 : decode cX7_word 24 = .ok (.invokevirtual 180, 3) := by decide +kernel
theorem dX7_word_27 : decode cX7_word 27 = .ok (.ireturn, 1) := by decide +kernel
theorem dX7_word_28 : decode cX7_word 28 = .ok (.aload_n 0, 1) := by decide +kernel
theorem dX7_word_29 : decode cX7_word 29 = .ok (.invokevirtual 164, 3) := by decide +kernel
theorem dX7_word_32 : decode cX7_word 32 = .ok (.aload_n 0, 1) := by decide +kernel
theorem dX7_word_33 : decode cX7_word 33 = .ok (.getfield 27, 3) := by decide +kernel
theorem dX7_word_36 : decode cX7_word 36 = .ok (.bipush 70, 2) := by decide +kernel
theorem dX7_word_38 : decode cX7_word 38 = .ok (.iload_n 1, 1) := by decide +kernel
theorem dX7_word_39 : decode cX7_word 39 = .ok (.imul, 1) := by decide +kernel
theorem dX7_word_40 : decode cX7_word 40 = .ok (.iload_n 2, 1) := by decide +kernel
theorem dX7_word_41 : decode cX7_word 41 = .ok (.iadd, 1) := by decide +kernel
theorem dX7_word_42 : decode cX7_word 42 = .ok (.iaload, 1) := by decide +kernel
theorem dX7_word_43 : decode cX7_word 43 = .ok (.istore 4, 2) := by decide +kernel
theorem dX7_word_45 : decode cX7_word 45 = .ok (.iload_n 3, 1) := by decide +kernel
theorem dX7_word_46 : decode cX7_word 46 = .ok (.tableswitch 60 0 3 #[30, 38, 46, 53], 30) := by decide +kernel
theorem dX7_word_76 : decode cX7_word 76 = .ok (.aload_n 0, 1) := by decide +kernel
theorem dX7_word_77 : decode cX7_word 77 = .ok (.iload 4, 2) := by decide +kernel
theorem dX7_word_79 : decode cX7_word 79 = .ok (.iconst 1, 1) := by decide +kernel
theorem dX7_word_80 : decode cX7_word 80 = .ok (.invokevirtual 167, 3) := by decide +kernel
theorem dX7_word_83 : decode cX7_word 83 = .ok (.ireturn, 1) := by decide +kernel
theorem dX7_word_84 : decode cX7_word 84 = .ok (.aload_n 0, 1) := by decide +kernel
theorem dX7_word_85 : decode cX7_word 85 = .ok (.iload 4, 2) := by decide +kernel
theorem dX7_word_87 : decode cX7_word 87 = .ok (.iconst 2, 1) := by decide +kernel
theorem dX7_word_88 : decode cX7_word 88 = .ok (.invokevirtual 167, 3) := by decide +kernel
theorem dX7_word_91 : decode cX7_word 91 = .ok (.ireturn, 1) := by decide +kernel
theorem dX7_word_92 : decode cX7_word 92 = .ok (.aload_n 0, 1) := by decide +kernel
theorem dX7_word_93 : decode cX7_word 93 = .ok (.iload_n 1, 1) := by decide +kernel
theorem dX7_word_94 : decode cX7_word 94 = .ok (.iload_n 2, 1) := by decide +kernel
theorem dX7_word_95 : decode cX7_word 95 = .ok (.invokevirtual 183, 3) := by decide +kernel
theorem dX7_word_98 : decode cX7_word 98 = .ok (.ireturn, 1) := by decide +kernel
theorem dX7_word_99 : decode cX7_word 99 = .ok (.aload_n 0, 1) := by decide +kernel
theorem dX7_word_100 : decode cX7_word 100 = .ok (.iload_n 1, 1) := by decide +kernel
theorem dX7_word_101 : decode cX7_word 101 = .ok (.iload_n 2, 1) := by decide +kernel
theorem dX7_word_102 : decode cX7_word 102 = .ok (.invokevirtual 147, 3) := by decide +kernel
theorem dX7_word_105 : decode cX7_word 105 = .ok (.ireturn, 1) := by decide +kernel
theorem dX7_word_106 : decode cX7_word 106 = .ok (.iload_n 2, 1) := by decide +kernel
theorem dX7_word_107 : decode cX7_word 107 = .ok (.aload_n 0, 1) := by decide +kernel
theorem dX7_word_108 : decode cX7_word 108 = .ok (.iload 4, 2) := by decide +kernel
theorem dX7_word_110 : decode cX7_word 110 = .ok (.iconst 3, 1) := by decide +kernel
theorem dX7_word_111 : decode cX7_word 111 = .ok (.invokevirtual 167, 3) := by decide +kernel
theorem dX7_word_114 : decode cX7_word 114 = .ok (.isub, 1) := by decide +kernel
theorem dX7_word_115 : decode cX7_word 115 = .ok (.ireturn, 1) := by decide +kernel
theorem dX7_at_0 : decode cX7_at 0 = .ok (.aload_n 0, 1) := by decide +kernel
theorem dX7_at_1 : decode cX7_at 1 = .ok (.iconst 0, 1) := by decide +kernel
theorem dX7_at_2 : decode cX7_at 2 = .ok (.putfield 58, 3) := by decide +kernel
theorem dX7_at_5 : decode cX7_at 5 = .ok (.aload_n 0, 1) := by decide +kernel
theorem dX7_at_6 : decode cX7_at 6 = .ok (.invokevirtual 164, 3) := by decide +kernel
theorem dX7_at_9 : decode cX7_at 9 = .ok (.aload_n 0, 1) := by decide +kernel
theorem dX7_at_10 : decode cX7_at 10 = .ok (.iload_n 1, 1) := by decide +kernel
theorem dX7_at_11 : decode cX7_at 11 = .ok (.iload_n 2, 1) := by decide +kernel
theorem dX7_at_12 : decode cX7_at 12 = .ok (.invokevirtual 170, 3) := by decide +kernel
theorem dX7_at_15 : decode cX7_at 15 = .ok (.ifCond .eq 19, 3) := by decide +kernel
theorem dX7_at_18 : decode cX7_at 18 = .ok (.iload_n 3, 1) := by decide +kernel
theorem dX7_at_19 : decode cX7_at 19 = .ok (.iconst 0, 1) := by decide +kernel
theorem dX7_at_20 : decode cX7_at 20 = .ok (.aload_n 0, 1) := by decide +kernel
theorem dX7_at_21 : decode cX7_at 21 = .ok (.getfield 9, 3) := by decide +kernel
theorem dX7_at_24 : decode cX7_at 24 = .ok (.iconst 0, 1) := by decide +kernel
theorem dX7_at_25 : decode cX7_at 25 = .ok (.iaload, 1) := by decide +kernel
theorem dX7_at_26 : decode cX7_at 26 = .ok (.iconst 1, 1) := by decide +kernel
theorem dX7_at_27 : decode cX7_at 27 = .ok (.isub, 1) := by decide +kernel
theorem dX7_at_28 : decode cX7_at 28 = .ok (.invokestatic 65, 3) := by decide +kernel
theorem dX7_at_31 : decode cX7_at 31 = .ok (.ifCond .ne 5, 3) := by decide +kernel
theorem dX7_at_34 : decode cX7_at 34 = .ok (.iconst (-1), 1) := by decide +kernel
theorem dX7_at_35 : decode cX7_at 35 = .ok (.ireturn, 1) := by decide +kernel
theorem dX7_at_36 : decode cX7_at 36 = .ok (.iconst 0, 1) := by decide +kernel
theorem dX7_at_37 : decode cX7_at 37 = .ok (.istore 4, 2) := by decide +kernel
theorem dX7_at_39 : decode cX7_at 39 = .ok (.iload 4, 2) := by decide +kernel
theorem dX7_at_41 : decode cX7_at 41 = .ok (.iconst 3, 1) := by decide +kernel
theorem dX7_at_42 : decode cX7_at 42 = .ok (.if_icmp .ge 113, 3) := by decide +kernel
theorem dX7_at_45 : decode cX7_at 45 = .ok (.aload_n 0, 1) := by decide +kernel
theorem dX7_at_46 : decode cX7_at 46 = .ok (.iload_n 1, 1) := by decide +kernel
theorem dX7_at_47 : decode cX7_at 47 = .ok (.iload_n 2, 1) := by decide +kernel
theorem dX7_at_48 : decode cX7_at 48 = .ok (.iload 4, 2) := by decide +kernel
theorem dX7_at_50 : decode cX7_at 50 = .ok (.invokevirtual 173, 3) := by decide +kernel
theorem dX7_at_53 : decode cX7_at 53 = .ok (.istore 5, 2) := by decide +kernel
theorem dX7_at_55 : decode cX7_at 55 = .ok (.iconst 0, 1) := by decide +kernel
theorem dX7_at_56 : decode cX7_at 56 = .ok (.istore 6, 2) := by decide +kernel
theorem dX7_at_58 : decode cX7_at 58 = .ok (.iload 5, 2) := by decide +kernel
theorem dX7_at_60 : decode cX7_at 60 = .ok (.iconst (-1), 1) := by decide +kernel
theorem dX7_at_61 : decode cX7_at 61 = .ok (.if_icmp .eq 88, 3) := by decide +kernel
theorem dX7_at_64 : decode cX7_at 64 = .ok (.iload 6, 2) := by decide +kernel
theorem dX7_at_66 : decode cX7_at 66 = .ok (.aload_n 0, 1) := by decide +kernel
theorem dX7_at_67 : decode cX7_at 67 = .ok (.iload 5, 2) := by decide +kernel
theorem dX7_at_69 : decode cX7_at 69 = .ok (.iconst 4, 1) := by decide +kernel
theorem dX7_at_70 : decode cX7_at 70 = .ok (.invokevirtual 167, 3) := by decide +kernel
theorem dX7_at_73 : decode cX7_at 73 = .ok (.if_icmp .ge 76, 3) := by decide +kernel
theorem dX7_at_76 : decode cX7_at 76 = .ok (.aload_n 0, 1) := by decide +kernel
theorem dX7_at_77 : decode cX7_at 77 = .ok (.iload 5, 2) := by decide +kernel
theorem dX7_at_79 : decode cX7_at 79 = .ok (.iconst 3, 1) := by decide +kernel
theorem dX7_at_80 : decode cX7_at 80 = .ok (.invokevirtual 167, 3) := by decide +kernel
theorem dX7_at_83 : decode cX7_at 83 = .ok (.iload 6, 2) := by decide +kernel
theorem dX7_at_85 : decode cX7_at 85 = .ok (.iadd, 1) := by decide +kernel
theorem dX7_at_86 : decode cX7_at 86 = .ok (.istore 7, 2) := by decide +kernel
theorem dX7_at_88 : decode cX7_at 88 = .ok (.iload_n 3, 1) := by decide +kernel
theorem dX7_at_89 : decode cX7_at 89 = .ok (.aload_n 0, 1) := by decide +kernel
theorem dX7_at_90 : decode cX7_at 90 = .ok (.iload 4, 2) := by decide +kernel
theorem dX7_at_92 : decode cX7_at 92 = .ok (.iload 7, 2) := by decide +kernel
theorem dX7_at_94 : decode cX7_at 94 = .ok (.invokevirtual 183, 3) := by decide +kernel
theorem dX7_at_97 : decode cX7_at 97 = .ok (.isub, 1) := by decide +kernel
theorem dX7_at_98 : decode cX7_at 98 = .ok (.istore 8, 2) := by decide +kernel
theorem dX7_at_100 : decode cX7_at 100 = .ok (.iload 8, 2) := by decide +kernel
theorem dX7_at_102 : decode cX7_at 102 = .ok (.iconst 0, 1) := by decide +kernel
theorem dX7_at_103 : decode cX7_at 103 = .ok (.aload_n 0, 1) := by decide +kernel
theorem dX7_at_104 : decode cX7_at 104 = .ok (.iload 4, 2) := by decide +kernel
theorem dX7_at_106 : decode cX7_at 106 = .ok (.iload 7, 2) := by decide +kernel
theorem dX7_at_108 : decode cX7_at 108 = .ok (.invokevirtual 147, 3) := by decide +kernel
theorem dX7_at_111 : decode cX7_at 111 = .ok (.iconst 1, 1) := by decide +kernel
theorem dX7_at_112 : decode cX7_at 112 = .ok (.isub, 1) := by decide +kernel
theorem dX7_at_113 : decode cX7_at 113 = .ok (.invokestatic 65, 3) := by decide +kernel
theorem dX7_at_116 : decode cX7_at 116 = .ok (.ifCond .ne 6, 3) := by decide +kernel
theorem dX7_at_119 : decode cX7_at 119 = .ok (.goto 24, 3) := by decide +kernel
theorem dX7_at_122 : decode cX7_at 122 = .ok (.aload_n 0, 1) := by decide +kernel
theorem dX7_at_123 : decode cX7_at 123 = .ok (.iconst 0, 1) := by decide +kernel
theorem dX7_at_124 : decode cX7_at 124 = .ok (.putfield 62, 3) := by decide +kernel
theorem dX7_at_127 : decode cX7_at 127 = .ok (.aload_n 0, 1) := by decide +kernel
theorem dX7_at_128 : decode cX7_at 128 = .ok (.iload 8, 2) := by decide +kernel
theorem dX7_at_130 : decode cX7_at 130 = .ok (.i2l, 1) := by decide +kernel
theorem dX7_at_131 : decode cX7_at 131 = .ok (.invokevirtual 135, 3) := by decide +kernel
theorem dX7_at_134 : decode cX7_at 134 = .ok (.bipush 100, 2) := by decide +kernel
theorem dX7_at_136 : decode cX7_at 136 = .ok (.iload 4, 2) := by decide +kernel
theorem dX7_at_138 : decode cX7_at 138 = .ok (.imul, 1) := by decide +kernel
theorem dX7_at_139 : decode cX7_at 139 = .ok (.iload 7, 2) := by decide +kernel
theorem dX7_at_141 : decode cX7_at 141 = .ok (.iadd, 1) := by decide +kernel
theorem dX7_at_142 : decode cX7_at 142 = .ok (.ireturn, 1) := by decide +kernel
theorem dX7_at_143 : decode cX7_at 143 = .ok (.iinc 6 1, 3) := by decide +kernel
theorem dX7_at_146 : decode cX7_at 146 = .ok (.goto (-88), 3) := by decide +kernel
theorem dX7_at_149 : decode cX7_at 149 = .ok (.iinc 4 1, 3) := by decide +kernel
theorem dX7_at_152 : decode cX7_at 152 = .ok (.goto (-113), 3) := by decide +kernel
theorem dX7_at_155 : decode cX7_at 155 = .ok (.bipush (-2), 2) := by decide +kernel
theorem dX7_at_157 : decode cX7_at 157 = .ok (.ireturn, 1) := by decide +kernel
theorem dX7_line_0 : decode cX7_line 0 = .ok (.aload_n 0, 1) := by decide +kernel
theorem dX7_line_1 : decode cX7_line 1 = .ok (.iconst 0, 1) := by decide +kernel
theorem dX7_line_2 : decode cX7_line 2 = .ok (.putfield 58, 3) := by decide +kernel
theorem dX7_line_5 : decode cX7_line 5 = .ok (.aload_n 0, 1) := by decide +kernel
theorem dX7_line_6 : decode cX7_line 6 = .ok (.invokevirtual 164, 3) := by decide +kernel
theorem dX7_line_9 : decode cX7_line 9 = .ok (.aload_n 0, 1) := by decide +kernel
theorem dX7_line_10 : decode cX7_line 10 = .ok (.iload_n 1, 1) := by decide +kernel
theorem dX7_line_11 : decode cX7_line 11 = .ok (.iload_n 2, 1) := by decide +kernel
theorem dX7_line_12 : decode cX7_line 12 = .ok (.invokevirtual 170, 3) := by decide +kernel
theorem dX7_line_15 : decode cX7_line 15 = .ok (.ifCond .ne 5, 3) := by decide +kernel
theorem dX7_line_18 : decode cX7_line 18 = .ok (.iconst (-1), 1) := by decide +kernel
theorem dX7_line_19 : decode cX7_line 19 = .ok (.ireturn, 1) := by decide +kernel
theorem dX7_line_20 : decode cX7_line 20 = .ok (.aload_n 0, 1) := by decide +kernel
theorem dX7_line_21 : decode cX7_line 21 = .ok (.aload_n 0, 1) := by decide +kernel
theorem dX7_line_22 : decode cX7_line 22 = .ok (.getfield 9, 3) := by decide +kernel
theorem dX7_line_25 : decode cX7_line 25 = .ok (.iconst 0, 1) := by decide +kernel
theorem dX7_line_26 : decode cX7_line 26 = .ok (.iaload, 1) := by decide +kernel
theorem dX7_line_27 : decode cX7_line 27 = .ok (.putfield 62, 3) := by decide +kernel
theorem dX7_line_30 : decode cX7_line 30 = .ok (.iconst 0, 1) := by decide +kernel
theorem dX7_line_31 : decode cX7_line 31 = .ok (.istore_n 3, 1) := by decide +kernel
theorem dX7_line_32 : decode cX7_line 32 = .ok (.iload_n 3, 1) := by decide +kernel
theorem dX7_line_33 : decode cX7_line 33 = .ok (.aload_n 0, 1) := by decide +kernel
theorem dX7_line_34 : decode cX7_line 34 = .ok (.getfield 9, 3) := by decide +kernel
theorem dX7_line_37 : decode cX7_line 37 = .ok (.iconst 0, 1) := by decide +kernel
theorem dX7_line_38 : decode cX7_line 38 = .ok (.iaload, 1) := by decide +kernel
theorem dX7_line_39 : decode cX7_line 39 = .ok (.if_icmp .ge 16, 3) := by decide +kernel
theorem dX7_line_42 : decode cX7_line 42 = .ok (.aload_n 0, 1) := by decide +kernel
theorem dX7_line_43 : decode cX7_line 43 = .ok (.getfield 17, 3) := by decide +kernel
theorem dX7_line_46 : decode cX7_line 46 = .ok (.iload_n 3, 1) := by decide +kernel
theorem dX7_line_47 : decode cX7_line 47 = .ok (.lconst 0, 1) := by decide +kernel
theorem dX7_line_48 : decode cX7_line 48 = .ok (.lastore, 1) := by decide +kernel
theorem dX7_line_49 : decode cX7_line 49 = .ok (.iinc 3 1, 3) := by decide +kernel
theorem dX7_line_52 : decode cX7_line 52 = .ok (.goto (-20), 3) := by decide +kernel
theorem dX7_line_55 : decode cX7_line 55 = .ok (.iconst 0, 1) := by decide +kernel
theorem dX7_line_56 : decode cX7_line 56 = .ok (.istore_n 3, 1) := by decide +kernel
theorem dX7_line_57 : decode cX7_line 57 = .ok (.iconst 0, 1) := by decide +kernel
theorem dX7_line_58 : decode cX7_line 58 = .ok (.istore 4, 2) := by decide +kernel
theorem dX7_line_60 : decode cX7_line 60 = .ok (.iload 4, 2) := by decide +kernel
theorem dX7_line_62 : decode cX7_line 62 = .ok (.iconst 3, 1) := by decide +kernel
theorem dX7_line_63 : decode cX7_line 63 = .ok (.if_icmp .ge 119, 3) := by decide +kernel
theorem dX7_line_66 : decode cX7_line 66 = .ok (.aload_n 0, 1) := by decide +kernel
theorem dX7_line_67 : decode cX7_line 67 = .ok (.iload_n 1, 1) := by decide +kernel
theorem dX7_line_68 : decode cX7_line 68 = .ok (.iload_n 2, 1) := by decide +kernel
theorem dX7_line_69 : decode cX7_line 69 = .ok (.iload 4, 2) := by decide +kernel
theorem dX7_line_71 : decode cX7_line 71 = .ok (.invokevirtual 173, 3) := by decide +kernel
theorem dX7_line_74 : decode cX7_line 74 = .ok (.istore 5, 2) := by decide +kernel
theorem dX7_line_76 : decode cX7_line 76 = .ok (.iconst 0, 1) := by decide +kernel
theorem dX7_line_77 : decode cX7_line 77 = .ok (.istore 6, 2) := by decide +kernel
theorem dX7_line_79 : decode cX7_line 79 = .ok (.iload 5, 2) := by decide +kernel
theorem dX7_line_81 : decode cX7_line 81 = .ok (.iconst (-1), 1) := by decide +kernel
theorem dX7_line_82 : decode cX7_line 82 = .ok (.if_icmp .eq 94, 3) := by decide +kernel
theorem dX7_line_85 : decode cX7_line 85 = .ok (.iload 6, 2) := by decide +kernel
theorem dX7_line_87 : decode cX7_line 87 = .ok (.aload_n 0, 1) := by decide +kernel
theorem dX7_line_88 : decode cX7_line 88 = .ok (.iload 5, 2) := by decide +kernel
theorem dX7_line_90 : decode cX7_line 90 = .ok (.iconst 4, 1) := by decide +kernel
theorem dX7_line_91 : decode cX7_line 91 = .ok (.invokevirtual 167, 3) := by decide +kernel
theorem dX7_line_94 : decode cX7_line 94 = .ok (.if_icmp .ge 82, 3) := by decide +kernel
theorem dX7_line_97 : decode cX7_line 97 = .ok (.aload_n 0, 1) := by decide +kernel
theorem dX7_line_98 : decode cX7_line 98 = .ok (.iload 4, 2) := by decide +kernel
theorem dX7_line_100 : decode cX7_line 100 = .ok (.aload_n 0, 1) := by decide +kernel
theorem dX7_line_101 : decode cX7_line 101 = .ok (.iload 5, 2) := by decide +kernel
theorem dX7_line_103 : decode cX7_line 103 = .ok (.iconst 3, 1) := by decide +kernel
theorem dX7_line_104 : decode cX7_line 104 = .ok (.invokevirtual 167, 3) := by decide +kernel
theorem dX7_line_107 : decode cX7_line 107 = .ok (.iload 6, 2) := by decide +kernel
theorem dX7_line_109 : decode cX7_line 109 = .ok (.iadd, 1) := by decide +kernel
theorem dX7_line_110 : decode cX7_line 110 = .ok (.invokevirtual 183, 3) := by decide +kernel
theorem dX7_line_113 : decode cX7_line 113 = .ok (.istore 7, 2) := by decide +kernel
theorem dX7_line_115 : decode cX7_line 115 = .ok (.aload_n 0, 1) := by decide +kernel
theorem dX7_line_116 : decode cX7_line 116 = .ok (.iload 4, 2) := by decide +kernel
theorem dX7_line_118 : decode cX7_line 118 = .ok (.aload_n 0, 1) := by decide +kernel
theorem dX7_line_119 : decode cX7_line 119 = .ok (.iload 5, 2) := by decide +kernel
theorem dX7_line_121 : decode cX7_line 121 = .ok (.iconst 3, 1) := by decide +kernel
theorem dX7_line_122 : decode cX7_line 122 = .ok (.invokevirtual 167, 3) := by decide +kernel
theorem dX7_line_125 : decode cX7_line 125 = .ok (.iload 6, 2) := by decide +kernel
theorem dX7_line_127 : decode cX7_line 127 = .ok (.iadd, 1) := by decide +kernel
theorem dX7_line_128 : decode cX7_line 128 = .ok (.invokevirtual 147, 3) := by decide +kernel
theorem dX7_line_131 : decode cX7_line 131 = .ok (.istore 8, 2) := by decide +kernel
theorem dX7_line_133 : decode cX7_line 133 = .ok (.iload 7, 2) := by decide +kernel
theorem dX7_line_135 : decode cX7_line 135 = .ok (.istore 9, 2) := by decide +kernel
theorem dX7_line_137 : decode cX7_line 137 = .ok (.iload 9, 2) := by decide +kernel
theorem dX7_line_139 : decode cX7_line 139 = .ok (.iload 7, 2) := by decide +kernel
theorem dX7_line_141 : decode cX7_line 141 = .ok (.iload 8, 2) := by decide +kernel
theorem dX7_line_143 : decode cX7_line 143 = .ok (.iadd, 1) := by decide +kernel
theorem dX7_line_144 : decode cX7_line 144 = .ok (.if_icmp .ge 21, 3) := by decide +kernel
theorem dX7_line_147 : decode cX7_line 147 = .ok (.aload_n 0, 1) := by decide +kernel
theorem dX7_line_148 : decode cX7_line 148 = .ok (.getfield 17, 3) := by decide +kernel
theorem dX7_line_151 : decode cX7_line 151 = .ok (.iload 9, 2) := by decide +kernel
theorem dX7_line_153 : decode cX7_line 153 = .ok (.iload 4, 2) := by decide +kernel
theorem dX7_line_155 : decode cX7_line 155 = .ok (.iconst 1, 1) := by decide +kernel
theorem dX7_line_156 : decode cX7_line 156 = .ok (.iadd, 1) := by decide +kernel
theorem dX7_line_157 : decode cX7_line 157 = .ok (.i2l, 1) := by decide +kernel
theorem dX7_line_158 : decode cX7_line 158 = .ok (.lastore, 1) := by decide +kernel
theorem dX7_line_159 : decode cX7_line 159 = .ok (.iinc 9 1, 3) := by decide +kernel
theorem dX7_line_162 : decode cX7_line 162 = .ok (.goto (-25), 3) := by decide +kernel
theorem dX7_line_165 : decode cX7_line 165 = .ok (.iload_n 3, 1) := by decide +kernel
theorem dX7_line_166 : decode cX7_line 166 = .ok (.iload 8, 2) := by decide +kernel
theorem dX7_line_168 : decode cX7_line 168 = .ok (.iadd, 1) := by decide +kernel
theorem dX7_line_169 : decode cX7_line 169 = .ok (.istore_n 3, 1) := by decide +kernel
theorem dX7_line_170 : decode cX7_line 170 = .ok (.iinc 6 1, 3) := by decide +kernel
theorem dX7_line_173 : decode cX7_line 173 = .ok (.goto (-94), 3) := by decide +kernel
theorem dX7_line_176 : decode cX7_line 176 = .ok (.iinc 4 1, 3) := by decide +kernel
theorem dX7_line_179 : decode cX7_line 179 = .ok (.goto (-119), 3) := by decide +kernel
theorem dX7_line_182 : decode cX7_line 182 = .ok (.iload_n 3, 1) := by decide +kernel
theorem dX7_line_183 : decode cX7_line 183 = .ok (.ireturn, 1) := by decide +kernel
theorem dX7_placeOf_0 : decode cX7_placeOf 0 = .ok (.aload_n 0, 1) := by decide +kernel
theorem dX7_placeOf_1 : decode cX7_placeOf 1 = .ok (.getfield 27, 3) := by decide +kernel
theorem dX7_placeOf_4 : decode cX7_placeOf 4 = .ok (.bipush 70, 2) := by decide +kernel
theorem dX7_placeOf_6 : decode cX7_placeOf 6 = .ok (.iload_n 1, 1) := by decide +kernel
theorem dX7_placeOf_7 : decode cX7_placeOf 7 = .ok (.imul, 1) := by decide +kernel
theorem dX7_placeOf_8 : decode cX7_placeOf 8 = .ok (.iload_n 2, 1) := by decide +kernel
theorem dX7_placeOf_9 : decode cX7_placeOf 9 = .ok (.iadd, 1) := by decide +kernel
theorem dX7_placeOf_10 : decode cX7_placeOf 10 = .ok (.iaload, 1) := by decide +kernel
theorem dX7_placeOf_11 : decode cX7_placeOf 11 = .ok (.istore_n 3, 1) := by decide +kernel
theorem dX7_placeOf_12 : decode cX7_placeOf 12 = .ok (.aload_n 0, 1) := by decide +kernel
theorem dX7_placeOf_13 : decode cX7_placeOf 13 = .ok (.iload_n 3, 1) := by decide +kernel
theorem dX7_placeOf_14 : decode cX7_placeOf 14 = .ok (.iconst 1, 1) := by decide +kernel
theorem dX7_placeOf_15 : decode cX7_placeOf 15 = .ok (.invokevirtual 167, 3) := by decide +kernel
theorem dX7_placeOf_18 : decode cX7_placeOf 18 = .ok (.aload_n 0, 1) := by decide +kernel
theorem dX7_placeOf_19 : decode cX7_placeOf 19 = .ok (.getfield 9, 3) := by decide +kernel
theorem dX7_placeOf_22 : decode cX7_placeOf 22 = .ok (.iconst 1, 1) := by decide +kernel
theorem dX7_placeOf_23 : decode cX7_placeOf 23 = .ok (.iaload, 1) := by decide +kernel
theorem dX7_placeOf_24 : decode cX7_placeOf 24 = .ok (.imul, 1) := by decide +kernel
theorem dX7_placeOf_25 : decode cX7_placeOf 25 = .ok (.aload_n 0, 1) := by decide +kernel
theorem dX7_placeOf_26 : decode cX7_placeOf 26 = .ok (.iload_n 3, 1) := by decide +kernel
theorem dX7_placeOf_27 : decode cX7_placeOf 27 = .ok (.iconst 2, 1) := by decide +kernel
theorem dX7_placeOf_28 : decode cX7_placeOf 28 = .ok (.invokevirtual 167, 3) := by decide +kernel
theorem dX7_placeOf_31 : decode cX7_placeOf 31 = .ok (.iadd, 1) := by decide +kernel
theorem dX7_placeOf_32 : decode cX7_placeOf 32 = .ok (.ireturn, 1) := by decide +kernel
theorem dX7_endOf_0 : decode cX7_endOf 0 = .ok (.aload_n 0, 1) := by decide +kernel
theorem dX7_endOf_1 : decode cX7_endOf 1 = .ok (.getfield 9, 3) := by decide +kernel
theorem dX7_endOf_4 : decode cX7_endOf 4 = .ok (.iconst 5, 1) := by decide +kernel
theorem dX7_endOf_5 : decode cX7_endOf 5 = .ok (.iload_n 1, 1) := by decide +kernel
theorem dX7_endOf_6 : decode cX7_endOf 6 = .ok (.iadd, 1) := by decide +kernel
theorem dX7_endOf_7 : decode cX7_endOf 7 = .ok (.iaload, 1) := by decide +kernel
theorem dX7_endOf_8 : decode cX7_endOf 8 = .ok (.ifCond .ne 7, 3) := by decide +kernel
theorem dX7_endOf_11 : decode cX7_endOf 11 = .ok (.iconst (-1), 1) := by decide +kernel
theorem dX7_endOf_12 : decode cX7_endOf 12 = .ok (.goto 18, 3) := by decide +kernel
theorem dX7_endOf_15 : decode cX7_endOf 15 = .ok (.aload_n 0, 1) := by decide +kernel
theorem dX7_endOf_16 : decode cX7_endOf 16 = .ok (.iload_n 1, 1) := by decide +kernel
theorem dX7_endOf_17 : decode cX7_endOf 17 = .ok (.aload_n 0, 1) := by decide +kernel
theorem dX7_endOf_18 : decode cX7_endOf 18 = .ok (.getfield 9, 3) := by decide +kernel
theorem dX7_endOf_21 : decode cX7_endOf 21 = .ok (.iconst 5, 1) := by decide +kernel
theorem dX7_endOf_22 : decode cX7_endOf 22 = .ok (.iload_n 1, 1) := by decide +kernel
theorem dX7_endOf_23 : decode cX7_endOf 23 = .ok (.iadd, 1) := by decide +kernel
theorem dX7_endOf_24 : decode cX7_endOf 24 = .ok (.iaload, 1) := by decide +kernel
theorem dX7_endOf_25 : decode cX7_endOf 25 = .ok (.iconst 1, 1) := by decide +kernel
theorem dX7_endOf_26 : decode cX7_endOf 26 = .ok (.isub, 1) := by decide +kernel
theorem dX7_endOf_27 : decode cX7_endOf 27 = .ok (.invokevirtual 186, 3) := by decide +kernel
theorem dX7_endOf_30 : decode cX7_endOf 30 = .ok (.ireturn, 1) := by decide +kernel
theorem dX7_ends_0 : decode cX7_ends 0 = .ok (.aload_n 0, 1) := by decide +kernel
theorem dX7_ends_1 : decode cX7_ends 1 = .ok (.iconst 0, 1) := by decide +kernel
theorem dX7_ends_2 : decode cX7_ends 2 = .ok (.putfield 58, 3) := by decide +kernel
theorem dX7_ends_5 : decode cX7_ends 5 = .ok (.iload_n 1, 1) := by decide +kernel
theorem dX7_ends_6 : decode cX7_ends 6 = .ok (.invokestatic 69, 3) := by decide +kernel
theorem dX7_ends_9 : decode cX7_ends 9 = .ok (.ifCond .ne 5, 3) := by decide +kernel
theorem dX7_ends_12 : decode cX7_ends 12 = .ok (.iconst (-1), 1) := by decide +kernel
theorem dX7_ends_13 : decode cX7_ends 13 = .ok (.ireturn, 1) := by decide +kernel
theorem dX7_ends_14 : decode cX7_ends 14 = .ok (.aload_n 0, 1) := by decide +kernel
theorem dX7_ends_15 : decode cX7_ends 15 = .ok (.invokevirtual 164, 3) := by decide +kernel
theorem dX7_ends_18 : decode cX7_ends 18 = .ok (.iconst 0, 1) := by decide +kernel
theorem dX7_ends_19 : decode cX7_ends 19 = .ok (.istore_n 2, 1) := by decide +kernel
theorem dX7_ends_20 : decode cX7_ends 20 = .ok (.iconst 0, 1) := by decide +kernel
theorem dX7_ends_21 : decode cX7_ends 21 = .ok (.istore_n 3, 1) := by decide +kernel
theorem dX7_ends_22 : decode cX7_ends 22 = .ok (.iconst 0, 1) := by decide +kernel
theorem dX7_ends_23 : decode cX7_ends 23 = .ok (.istore 4, 2) := by decide +kernel
theorem dX7_ends_25 : decode cX7_ends 25 = .ok (.iload 4, 2) := by decide +kernel
theorem dX7_ends_27 : decode cX7_ends 27 = .ok (.aload_n 0, 1) := by decide +kernel
theorem dX7_ends_28 : decode cX7_ends 28 = .ok (.getfield 144, 3) := by decide +kernel
theorem dX7_ends_31 : decode cX7_ends 31 = .ok (.if_icmp .ge 54, 3) := by decide +kernel
theorem dX7_ends_34 : decode cX7_ends 34 = .ok (.iload_n 2, 1) := by decide +kernel
theorem dX7_ends_35 : decode cX7_ends 35 = .ok (.aload_n 0, 1) := by decide +kernel
theorem dX7_ends_36 : decode cX7_ends 36 = .ok (.iload 4, 2) := by decide +kernel
theorem dX7_ends_38 : decode cX7_ends 38 = .ok (.iconst 0, 1) := by decide +kernel
theorem dX7_ends_39 : decode cX7_ends 39 = .ok (.invokevirtual 167, 3) := by decide +kernel
theorem dX7_ends_42 : decode cX7_ends 42 = .ok (.iload_n 1, 1) := by decide +kernel
theorem dX7_ends_43 : decode cX7_ends 43 = .ok (.if_icmp .ne 7, 3) := by decide +kernel
theorem dX7_ends_46 : decode cX7_ends 46 = .ok (.iconst 1, 1) := by decide +kernel
theorem dX7_ends_47 : decode cX7_ends 47 = .ok (.goto 4, 3) := by decide +kernel
theorem dX7_ends_50 : decode cX7_ends 50 = .ok (.iconst 0, 1) := by decide +kernel
theorem dX7_ends_51 : decode cX7_ends 51 = .ok (.iadd, 1) := by decide +kernel
theorem dX7_ends_52 : decode cX7_ends 52 = .ok (.istore_n 2, 1) := by decide +kernel
theorem dX7_ends_53 : decode cX7_ends 53 = .ok (.iload_n 3, 1) := by decide +kernel
theorem dX7_ends_54 : decode cX7_ends 54 = .ok (.aload_n 0, 1) := by decide +kernel
theorem dX7_ends_55 : decode cX7_ends 55 = .ok (.iload 4, 2) := by decide +kernel
theorem dX7_ends_57 : decode cX7_ends 57 = .ok (.iconst 0, 1) := by decide +kernel
theorem dX7_ends_58 : decode cX7_ends 58 = .ok (.invokevirtual 167, 3) := by decide +kernel
theorem dX7_ends_61 : decode cX7_ends 61 = .ok (.iload_n 1, 1) := by decide +kernel
theorem dX7_ends_62 : decode cX7_ends 62 = .ok (.if_icmp .ne 14, 3) := by decide +kernel
theorem dX7_ends_65 : decode cX7_ends 65 = .ok (.aload_n 0, 1) := by decide +kernel
theorem dX7_ends_66 : decode cX7_ends 66 = .ok (.iload 4, 2) := by decide +kernel
theorem dX7_ends_68 : decode cX7_ends 68 = .ok (.bipush 7, 2) := by decide +kernel
theorem dX7_ends_70 : decode cX7_ends 70 = .ok (.invokevirtual 167, 3) := by decide +kernel
theorem dX7_ends_73 : decode cX7_ends 73 = .ok (.goto 4, 3) := by decide +kernel
theorem dX7_ends_76 : decode cX7_ends 76 = .ok (.iconst 0, 1) := by decide +kernel
theorem dX7_ends_77 : decode cX7_ends 77 = .ok (.iadd, 1) := by decide +kernel
theorem dX7_ends_78 : decode cX7_ends 78 = .ok (.istore_n 3, 1) := by decide +kernel
theorem dX7_ends_79 : decode cX7_ends 79 = .ok (.iinc 4 1, 3) := by decide +kernel
theorem dX7_ends_82 : decode cX7_ends 82 = .ok (.goto (-57), 3) := by decide +kernel
theorem dX7_ends_85 : decode cX7_ends 85 = .ok (.aload_n 0, 1) := by decide +kernel
theorem dX7_ends_86 : decode cX7_ends 86 = .ok (.iconst 0, 1) := by decide +kernel
theorem dX7_ends_87 : decode cX7_ends 87 = .ok (.putfield 62, 3) := by decide +kernel
theorem dX7_ends_90 : decode cX7_ends 90 = .ok (.aload_n 0, 1) := by decide +kernel
theorem dX7_ends_91 : decode cX7_ends 91 = .ok (.iload_n 2, 1) := by decide +kernel
theorem dX7_ends_92 : decode cX7_ends 92 = .ok (.i2l, 1) := by decide +kernel
theorem dX7_ends_93 : decode cX7_ends 93 = .ok (.invokevirtual 135, 3) := by decide +kernel
theorem dX7_ends_96 : decode cX7_ends 96 = .ok (.aload_n 0, 1) := by decide +kernel
theorem dX7_ends_97 : decode cX7_ends 97 = .ok (.iload_n 3, 1) := by decide +kernel
theorem dX7_ends_98 : decode cX7_ends 98 = .ok (.i2l, 1) := by decide +kernel
theorem dX7_ends_99 : decode cX7_ends 99 = .ok (.invokevirtual 135, 3) := by decide +kernel
theorem dX7_ends_102 : decode cX7_ends 102 = .ok (.aload_n 0, 1) := by decide +kernel
theorem dX7_ends_103 : decode cX7_ends 103 = .ok (.iload_n 1, 1) := by decide +kernel
theorem dX7_ends_104 : decode cX7_ends 104 = .ok (.invokevirtual 189, 3) := by decide +kernel
theorem dX7_ends_107 : decode cX7_ends 107 = .ok (.ireturn, 1) := by decide +kernel
theorem dX7_ender_0 : decode cX7_ender 0 = .ok (.iconst (-1), 1) := by decide +kernel
theorem dX7_ender_1 : decode cX7_ender 1 = .ok (.istore_n 2, 1) := by decide +kernel
theorem dX7_ender_2 : decode cX7_ender 2 = .ok (.iconst 0, 1) := by decide +kernel
theorem dX7_ender_3 : decode cX7_ender 3 = .ok (.istore_n 3, 1) := by decide +kernel
theorem dX7_ender_4 : decode cX7_ender 4 = .ok (.iload_n 3, 1) := by decide +kernel
theorem dX7_ender_5 : decode cX7_ender 5 = .ok (.iconst 3, 1) := by decide +kernel
theorem dX7_ender_6 : decode cX7_ender 6 = .ok (.if_icmp .ge 63, 3) := by decide +kernel
theorem dX7_ender_9 : decode cX7_ender 9 = .ok (.aload_n 0, 1) := by decide +kernel
theorem dX7_ender_10 : decode cX7_ender 10 = .ok (.getfield 9, 3) := by decide +kernel
theorem dX7_ender_13 : decode cX7_ender 13 = .ok (.iconst 5, 1) := by decide +kernel
theorem dX7_ender_14 : decode cX7_ender 14 = .ok (.iload_n 3, 1) := by decide +kernel
theorem dX7_ender_15 : decode cX7_ender 15 = .ok (.iadd, 1) := by decide +kernel
theorem dX7_ender_16 : decode cX7_ender 16 = .ok (.iaload, 1) := by decide +kernel
theorem dX7_ender_17 : decode cX7_ender 17 = .ok (.ifCond .ne 6, 3) := by decide +kernel
theorem dX7_ender_20 : decode cX7_ender 20 = .ok (.goto 43, 3) := by decide +kernel
theorem dX7_ender_23 : decode cX7_ender 23 = .ok (.iload_n 2, 1) := by decide +kernel
theorem dX7_ender_24 : decode cX7_ender 24 = .ok (.iconst (-1), 1) := by decide +kernel
theorem dX7_ender_25 : decode cX7_ender 25 = .ok (.if_icmp .eq 36, 3) := by decide +kernel
theorem dX7_ender_28 : decode cX7_ender 28 = .ok (.iload_n 1, 1) := by decide +kernel
theorem dX7_ender_29 : decode cX7_ender 29 = .ok (.ifCond .eq 19, 3) := by decide +kernel
theorem dX7_ender_32 : decode cX7_ender 32 = .ok (.aload_n 0, 1) := by decide +kernel
theorem dX7_ender_33 : decode cX7_ender 33 = .ok (.iload_n 3, 1) := by decide +kernel
theorem dX7_ender_34 : decode cX7_ender 34 = .ok (.invokevirtual 189, 3) := by decide +kernel
theorem dX7_ender_37 : decode cX7_ender 37 = .ok (.aload_n 0, 1) := by decide +kernel
theorem dX7_ender_38 : decode cX7_ender 38 = .ok (.iload_n 2, 1) := by decide +kernel
theorem dX7_ender_39 : decode cX7_ender 39 = .ok (.invokevirtual 189, 3) := by decide +kernel
theorem dX7_ender_42 : decode cX7_ender 42 = .ok (.if_icmp .le 21, 3) := by decide +kernel
theorem dX7_ender_45 : decode cX7_ender 45 = .ok (.goto 16, 3) := by decide +kernel
theorem dX7_ender_48 : decode cX7_ender 48 = .ok (.aload_n 0, 1) := by decide +kernel
theorem dX7_ender_49 : decode cX7_ender 49 = .ok (.iload_n 3, 1) := by decide +kernel
theorem dX7_ender_50 : decode cX7_ender 50 = .ok (.invokevirtual 189, 3) := by decide +kernel
theorem dX7_ender_53 : decode cX7_ender 53 = .ok (.aload_n 0, 1) := by decide +kernel
theorem dX7_ender_54 : decode cX7_ender 54 = .ok (.iload_n 2, 1) := by decide +kernel
theorem dX7_ender_55 : decode cX7_ender 55 = .ok (.invokevirtual 189, 3) := by decide +kernel
theorem dX7_ender_58 : decode cX7_ender 58 = .ok (.if_icmp .ge 5, 3) := by decide +kernel
theorem dX7_ender_61 : decode cX7_ender 61 = .ok (.iload_n 3, 1) := by decide +kernel
theorem dX7_ender_62 : decode cX7_ender 62 = .ok (.istore_n 2, 1) := by decide +kernel
theorem dX7_ender_63 : decode cX7_ender 63 = .ok (.iinc 3 1, 3) := by decide +kernel
theorem dX7_ender_66 : decode cX7_ender 66 = .ok (.goto (-62), 3) := by decide +kernel
theorem dX7_ender_69 : decode cX7_ender 69 = .ok (.iload_n 2, 1) := by decide +kernel
theorem dX7_ender_70 : decode cX7_ender 70 = .ok (.ireturn, 1) := by decide +kernel
theorem dX7_apartOf_0 : decode cX7_apartOf 0 = .ok (.aload_n 0, 1) := by decide +kernel
theorem dX7_apartOf_1 : decode cX7_apartOf 1 = .ok (.iconst 1, 1) := by decide +kernel
theorem dX7_apartOf_2 : decode cX7_apartOf 2 = .ok (.invokevirtual 192, 3) := by decide +kernel
theorem dX7_apartOf_5 : decode cX7_apartOf 5 = .ok (.iconst (-1), 1) := by decide +kernel
theorem dX7_apartOf_6 : decode cX7_apartOf 6 = .ok (.if_icmp .ne 7, 3) := by decide +kernel
theorem dX7_apartOf_9 : decode cX7_apartOf 9 = .ok (.iconst 0, 1) := by decide +kernel
theorem dX7_apartOf_10 : decode cX7_apartOf 10 = .ok (.goto 22, 3) := by decide +kernel
theorem dX7_apartOf_13 : decode cX7_apartOf 13 = .ok (.aload_n 0, 1) := by decide +kernel
theorem dX7_apartOf_14 : decode cX7_apartOf 14 = .ok (.aload_n 0, 1) := by decide +kernel
theorem dX7_apartOf_15 : decode cX7_apartOf 15 = .ok (.iconst 1, 1) := by decide +kernel
theorem dX7_apartOf_16 : decode cX7_apartOf 16 = .ok (.invokevirtual 192, 3) := by decide +kernel
theorem dX7_apartOf_19 : decode cX7_apartOf 19 = .ok (.invokevirtual 189, 3) := by decide +kernel
theorem dX7_apartOf_22 : decode cX7_apartOf 22 = .ok (.aload_n 0, 1) := by decide +kernel
theorem dX7_apartOf_23 : decode cX7_apartOf 23 = .ok (.aload_n 0, 1) := by decide +kernel
theorem dX7_apartOf_24 : decode cX7_apartOf 24 = .ok (.iconst 0, 1) := by decide +kernel
theorem dX7_apartOf_25 : decode cX7_apartOf 25 = .ok (.invokevirtual 192, 3) := by decide +kernel
theorem dX7_apartOf_28 : decode cX7_apartOf 28 = .ok (.invokevirtual 189, 3) := by decide +kernel
theorem dX7_apartOf_31 : decode cX7_apartOf 31 = .ok (.isub, 1) := by decide +kernel
theorem dX7_apartOf_32 : decode cX7_apartOf 32 = .ok (.ireturn, 1) := by decide +kernel
theorem dX7_apart_0 : decode cX7_apart 0 = .ok (.aload_n 0, 1) := by decide +kernel
theorem dX7_apart_1 : decode cX7_apart 1 = .ok (.iconst 0, 1) := by decide +kernel
theorem dX7_apart_2 : decode cX7_apart 2 = .ok (.putfield 58, 3) := by decide +kernel
theorem dX7_apart_5 : decode cX7_apart 5 = .ok (.aload_n 0, 1) := by decide +kernel
theorem dX7_apart_6 : decode cX7_apart 6 = .ok (.invokevirtual 164, 3) := by decide +kernel
theorem dX7_apart_9 : decode cX7_apart 9 = .ok (.aload_n 0, 1) := by decide +kernel
theorem dX7_apart_10 : decode cX7_apart 10 = .ok (.iconst 0, 1) := by decide +kernel
theorem dX7_apart_11 : decode cX7_apart 11 = .ok (.putfield 62, 3) := by decide +kernel
theorem dX7_apart_14 : decode cX7_apart 14 = .ok (.aload_n 0, 1) := by decide +kernel
theorem dX7_apart_15 : decode cX7_apart 15 = .ok (.aload_n 0, 1) := by decide +kernel
theorem dX7_apart_16 : decode cX7_apart 16 = .ok (.iconst 0, 1) := by decide +kernel
theorem dX7_apart_17 : decode cX7_apart 17 = .ok (.invokevirtual 192, 3) := by decide +kernel
theorem dX7_apart_20 : decode cX7_apart 20 = .ok (.i2l, 1) := by decide +kernel
theorem dX7_apart_21 : decode cX7_apart 21 = .ok (.invokevirtual 135, 3) := by decide +kernel
theorem dX7_apart_24 : decode cX7_apart 24 = .ok (.aload_n 0, 1) := by decide +kernel
theorem dX7_apart_25 : decode cX7_apart 25 = .ok (.aload_n 0, 1) := by decide +kernel
theorem dX7_apart_26 : decode cX7_apart 26 = .ok (.iconst 1, 1) := by decide +kernel
theorem dX7_apart_27 : decode cX7_apart 27 = .ok (.invokevirtual 192, 3) := by decide +kernel
theorem dX7_apart_30 : decode cX7_apart 30 = .ok (.i2l, 1) := by decide +kernel
theorem dX7_apart_31 : decode cX7_apart 31 = .ok (.invokevirtual 135, 3) := by decide +kernel
theorem dX7_apart_34 : decode cX7_apart 34 = .ok (.aload_n 0, 1) := by decide +kernel
theorem dX7_apart_35 : decode cX7_apart 35 = .ok (.invokevirtual 196, 3) := by decide +kernel
theorem dX7_apart_38 : decode cX7_apart 38 = .ok (.ireturn, 1) := by decide +kernel
theorem dX7_raggedAll_0 : decode cX7_raggedAll 0 = .ok (.iconst 0, 1) := by decide +kernel
theorem dX7_raggedAll_1 : decode cX7_raggedAll 1 = .ok (.istore_n 1, 1) := by decide +kernel
theorem dX7_raggedAll_2 : decode cX7_raggedAll 2 = .ok (.iconst 0, 1) := by decide +kernel
theorem dX7_raggedAll_3 : decode cX7_raggedAll 3 = .ok (.istore_n 2, 1) := by decide +kernel
theorem dX7_raggedAll_4 : decode cX7_raggedAll 4 = .ok (.iload_n 2, 1) := by decide +kernel
theorem dX7_raggedAll_5 : decode cX7_raggedAll 5 = .ok (.aload_n 0, 1) := by decide +kernel
theorem dX7_raggedAll_6 : decode cX7_raggedAll 6 = .ok (.getfield 144, 3) := by decide +kernel
theorem dX7_raggedAll_9 : decode cX7_raggedAll 9 = .ok (.if_icmp .ge 19, 3) := by decide +kernel
theorem dX7_raggedAll_12 : decode cX7_raggedAll 12 = .ok (.iload_n 1, 1) := by decide +kernel
theorem dX7_raggedAll_13 : decode cX7_raggedAll 13 = .ok (.aload_n 0, 1) := by decide +kernel
theorem dX7_raggedAll_14 : decode cX7_raggedAll 14 = .ok (.iload_n 2, 1) := by decide +kernel
theorem dX7_raggedAll_15 : decode cX7_raggedAll 15 = .ok (.bipush 7, 2) := by decide +kernel
theorem dX7_raggedAll_17 : decode cX7_raggedAll 17 = .ok (.invokevirtual 167, 3) := by decide +kernel
theorem dX7_raggedAll_20 : decode cX7_raggedAll 20 = .ok (.iadd, 1) := by decide +kernel
theorem dX7_raggedAll_21 : decode cX7_raggedAll 21 = .ok (.istore_n 1, 1) := by decide +kernel
theorem dX7_raggedAll_22 : decode cX7_raggedAll 22 = .ok (.iinc 2 1, 3) := by decide +kernel
theorem dX7_raggedAll_25 : decode cX7_raggedAll 25 = .ok (.goto (-21), 3) := by decide +kernel
theorem dX7_raggedAll_28 : decode cX7_raggedAll 28 = .ok (.iload_n 1, 1) := by decide +kernel
theorem dX7_raggedAll_29 : decode cX7_raggedAll 29 = .ok (.ireturn, 1) := by decide +kernel
theorem dX7_isAhead_0 : decode cX7_isAhead 0 = .ok (.aload_n 0, 1) := by decide +kernel
theorem dX7_isAhead_1 : decode cX7_isAhead 1 = .ok (.iload_n 1, 1) := by decide +kernel
theorem dX7_isAhead_2 : decode cX7_isAhead 2 = .ok (.iconst 1, 1) := by decide +kernel
theorem dX7_isAhead_3 : decode cX7_isAhead 3 = .ok (.invokevirtual 167, 3) := by decide +kernel
theorem dX7_isAhead_6 : decode cX7_isAhead 6 = .ok (.aload_n 0, 1) := by decide +kernel
theorem dX7_isAhead_7 : decode cX7_isAhead 7 = .ok (.iload_n 2, 1) := by decide +kernel
theorem dX7_isAhead_8 : decode cX7_isAhead 8 = .ok (.iconst 1, 1) := by decide +kernel
theorem dX7_isAhead_9 : decode cX7_isAhead 9 = .ok (.invokevirtual 167, 3) := by decide +kernel
theorem dX7_isAhead_12 : decode cX7_isAhead 12 = .ok (.if_icmp .eq 24, 3) := by decide +kernel
theorem dX7_isAhead_15 : decode cX7_isAhead 15 = .ok (.aload_n 0, 1) := by decide +kernel
theorem dX7_isAhead_16 : decode cX7_isAhead 16 = .ok (.iload_n 1, 1) := by decide +kernel
theorem dX7_isAhead_17 : decode cX7_isAhead 17 = .ok (.iconst 1, 1) := by decide +kernel
theorem dX7_isAhead_18 : decode cX7_isAhead 18 = .ok (.invokevirtual 167, 3) := by decide +kernel
theorem dX7_isAhead_21 : decode cX7_isAhead 21 = .ok (.aload_n 0, 1) := by decide +kernel
theorem dX7_isAhead_22 : decode cX7_isAhead 22 = .ok (.iload_n 2, 1) := by decide +kernel
theorem dX7_isAhead_23 : decode cX7_isAhead 23 = .ok (.iconst 1, 1) := by decide +kernel
theorem dX7_isAhead_24 : decode cX7_isAhead 24 = .ok (.invokevirtual 167, 3) := by decide +kernel
theorem dX7_isAhead_27 : decode cX7_isAhead 27 = .ok (.if_icmp .ge 7, 3) := by decide +kernel
theorem dX7_isAhead_30 : decode cX7_isAhead 30 = .ok (.iconst 1, 1) := by decide +kernel
theorem dX7_isAhead_31 : decode cX7_isAhead 31 = .ok (.goto 4, 3) := by decide +kernel
theorem dX7_isAhead_34 : decode cX7_isAhead 34 = .ok (.iconst 0, 1) := by decide +kernel
theorem dX7_isAhead_35 : decode cX7_isAhead 35 = .ok (.ireturn, 1) := by decide +kernel
theorem dX7_isAhead_36 : decode cX7_isAhead 36 = .ok (.aload_n 0, 1) := by decide +kernel
theorem dX7_isAhead_37 : decode cX7_isAhead 37 = .ok (.iload_n 1, 1) := by decide +kernel
theorem dX7_isAhead_38 : decode cX7_isAhead 38 = .ok (.iconst 2, 1) := by decide +kernel
theorem dX7_isAhead_39 : decode cX7_isAhead 39 = .ok (.invokevirtual 167, 3) := by decide +kernel
theorem dX7_isAhead_42 : decode cX7_isAhead 42 = .ok (.aload_n 0, 1) := by decide +kernel
theorem dX7_isAhead_43 : decode cX7_isAhead 43 = .ok (.iload_n 2, 1) := by decide +kernel
theorem dX7_isAhead_44 : decode cX7_isAhead 44 = .ok (.iconst 2, 1) := by decide +kernel
theorem dX7_isAhead_45 : decode cX7_isAhead 45 = .ok (.invokevirtual 167, 3) := by decide +kernel
theorem dX7_isAhead_48 : decode cX7_isAhead 48 = .ok (.if_icmp .eq 26, 3) := by decide +kernel
theorem dX7_isAhead_51 : decode cX7_isAhead 51 = .ok (.aload_n 0, 1) := by decide +kernel
theorem dX7_isAhead_52 : decode cX7_isAhead 52 = .ok (.iload_n 1, 1) := by decide +kernel
theorem dX7_isAhead_53 : decode cX7_isAhead 53 = .ok (.iconst 2, 1) := by decide +kernel
theorem dX7_isAhead_54 : decode cX7_isAhead 54 = .ok (.invokevirtual 167, 3) := by decide +kernel
theorem dX7_isAhead_57 : decode cX7_isAhead 57 = .ok (.aload_n 0, 1) := by decide +kernel
theorem dX7_isAhead_58 : decode cX7_isAhead 58 = .ok (.iload_n 2, 1) := by decide +kernel
theorem dX7_isAhead_59 : decode cX7_isAhead 59 = .ok (.iconst 2, 1) := by decide +kernel
theorem dX7_isAhead_60 : decode cX7_isAhead 60 = .ok (.invokevirtual 167, 3) := by decide +kernel
theorem dX7_isAhead_63 : decode cX7_isAhead 63 = .ok (.if_icmp .ge 7, 3) := by decide +kernel
theorem dX7_isAhead_66 : decode cX7_isAhead 66 = .ok (.iconst 1, 1) := by decide +kernel
theorem dX7_isAhead_67 : decode cX7_isAhead 67 = .ok (.goto 27, 3) := by decide +kernel
theorem dX7_isAhead_70 : decode cX7_isAhead 70 = .ok (.iconst 0, 1) := by decide +kernel
theorem dX7_isAhead_71 : decode cX7_isAhead 71 = .ok (.goto 23, 3) := by decide +kernel
theorem dX7_isAhead_74 : decode cX7_isAhead 74 = .ok (.aload_n 0, 1) := by decide +kernel
theorem dX7_isAhead_75 : decode cX7_isAhead 75 = .ok (.iload_n 1, 1) := by decide +kernel
theorem dX7_isAhead_76 : decode cX7_isAhead 76 = .ok (.iconst 0, 1) := by decide +kernel
theorem dX7_isAhead_77 : decode cX7_isAhead 77 = .ok (.invokevirtual 167, 3) := by decide +kernel
theorem dX7_isAhead_80 : decode cX7_isAhead 80 = .ok (.aload_n 0, 1) := by decide +kernel
theorem dX7_isAhead_81 : decode cX7_isAhead 81 = .ok (.iload_n 2, 1) := by decide +kernel
theorem dX7_isAhead_82 : decode cX7_isAhead 82 = .ok (.iconst 0, 1) := by decide +kernel
theorem dX7_isAhead_83 : decode cX7_isAhead 83 = .ok (.invokevirtual 167, 3) := by decide +kernel
theorem dX7_isAhead_86 : decode cX7_isAhead 86 = .ok (.if_icmp .ge 7, 3) := by decide +kernel
theorem dX7_isAhead_89 : decode cX7_isAhead 89 = .ok (.iconst 1, 1) := by decide +kernel
theorem dX7_isAhead_90 : decode cX7_isAhead 90 = .ok (.goto 4, 3) := by decide +kernel
theorem dX7_isAhead_93 : decode cX7_isAhead 93 = .ok (.iconst 0, 1) := by decide +kernel
theorem dX7_isAhead_94 : decode cX7_isAhead 94 = .ok (.ireturn, 1) := by decide +kernel
theorem dX7_ragged_0 : decode cX7_ragged 0 = .ok (.aload_n 0, 1) := by decide +kernel
theorem dX7_ragged_1 : decode cX7_ragged 1 = .ok (.iconst 0, 1) := by decide +kernel
theorem dX7_ragged_2 : decode cX7_ragged 2 = .ok (.putfield 58, 3) := by decide +kernel
theorem dX7_ragged_5 : decode cX7_ragged 5 = .ok (.aload_n 0, 1) := by decide +kernel
theorem dX7_ragged_6 : decode cX7_ragged 6 = .ok (.invokevirtual 164, 3) := by decide +kernel
theorem dX7_ragged_9 : decode cX7_ragged 9 = .ok (.iconst (-1), 1) := by decide +kernel
theorem dX7_ragged_10 : decode cX7_ragged 10 = .ok (.istore_n 1, 1) := by decide +kernel
theorem dX7_ragged_11 : decode cX7_ragged 11 = .ok (.iconst 0, 1) := by decide +kernel
theorem dX7_ragged_12 : decode cX7_ragged 12 = .ok (.istore_n 2, 1) := by decide +kernel
theorem dX7_ragged_13 : decode cX7_ragged 13 = .ok (.iload_n 2, 1) := by decide +kernel
theorem dX7_ragged_14 : decode cX7_ragged 14 = .ok (.aload_n 0, 1) := by decide +kernel
theorem dX7_ragged_15 : decode cX7_ragged 15 = .ok (.getfield 144, 3) := by decide +kernel
theorem dX7_ragged_18 : decode cX7_ragged 18 = .ok (.if_icmp .ge 72, 3) := by decide +kernel
theorem dX7_ragged_21 : decode cX7_ragged 21 = .ok (.aload_n 0, 1) := by decide +kernel
theorem dX7_ragged_22 : decode cX7_ragged 22 = .ok (.iload_n 2, 1) := by decide +kernel
theorem dX7_ragged_23 : decode cX7_ragged 23 = .ok (.bipush 7, 2) := by decide +kernel
theorem dX7_ragged_25 : decode cX7_ragged 25 = .ok (.invokevirtual 167, 3) := by decide +kernel
theorem dX7_ragged_28 : decode cX7_ragged 28 = .ok (.ifCond .ne 6, 3) := by decide +kernel
theorem dX7_ragged_31 : decode cX7_ragged 31 = .ok (.goto 53, 3) := by decide +kernel
theorem dX7_ragged_34 : decode cX7_ragged 34 = .ok (.iload_n 1, 1) := by decide +kernel
theorem dX7_ragged_35 : decode cX7_ragged 35 = .ok (.iconst (-1), 1) := by decide +kernel
theorem dX7_ragged_36 : decode cX7_ragged 36 = .ok (.if_icmp .eq 46, 3) := by decide +kernel
theorem dX7_ragged_39 : decode cX7_ragged 39 = .ok (.aload_n 0, 1) := by decide +kernel
theorem dX7_ragged_40 : decode cX7_ragged 40 = .ok (.iload_n 2, 1) := by decide +kernel
theorem dX7_ragged_41 : decode cX7_ragged 41 = .ok (.bipush 7, 2) := by decide +kernel
theorem dX7_ragged_43 : decode cX7_ragged 43 = .ok (.invokevirtual 167, 3) := by decide +kernel
theorem dX7_ragged_46 : decode cX7_ragged 46 = .ok (.aload_n 0, 1) := by decide +kernel
theorem dX7_ragged_47 : decode cX7_ragged 47 = .ok (.iload_n 1, 1) := by decide +kernel
theorem dX7_ragged_48 : decode cX7_ragged 48 = .ok (.bipush 7, 2) := by decide +kernel
theorem dX7_ragged_50 : decode cX7_ragged 50 = .ok (.invokevirtual 167, 3) := by decide +kernel
theorem dX7_ragged_53 : decode cX7_ragged 53 = .ok (.if_icmp .gt 29, 3) := by decide +kernel
theorem dX7_ragged_56 : decode cX7_ragged 56 = .ok (.aload_n 0, 1) := by decide +kernel
theorem dX7_ragged_57 : decode cX7_ragged 57 = .ok (.iload_n 2, 1) := by decide +kernel
theorem dX7_ragged_58 : decode cX7_ragged 58 = .ok (.bipush 7, 2) := by decide +kernel
theorem dX7_ragged_60 : decode cX7_ragged 60 = .ok (.invokevirtual 167, 3) := by decide +kernel
theorem dX7_ragged_63 : decode cX7_ragged 63 = .ok (.aload_n 0, 1) := by decide +kernel
theorem dX7_ragged_64 : decode cX7_ragged 64 = .ok (.iload_n 1, 1) := by decide +kernel
theorem dX7_ragged_65 : decode cX7_ragged 65 = .ok (.bipush 7, 2) := by decide +kernel
theorem dX7_ragged_67 : decode cX7_ragged 67 = .ok (.invokevirtual 167, 3) := by decide +kernel
theorem dX7_ragged_70 : decode cX7_ragged 70 = .ok (.if_icmp .ne 14, 3) := by decide +kernel
theorem dX7_ragged_73 : decode cX7_ragged 73 = .ok (.aload_n 0, 1) := by decide +kernel
theorem dX7_ragged_74 : decode cX7_ragged 74 = .ok (.iload_n 2, 1) := by decide +kernel
theorem dX7_ragged_75 : decode cX7_ragged 75 = .ok (.iload_n 1, 1) := by decide +kernel
theorem dX7_ragged_76 : decode cX7_ragged 76 = .ok (.invokevirtual 199, 3) := by decide +kernel
theorem dX7_ragged_79 : decode cX7_ragged 79 = .ok (.ifCond .eq 5, 3) := by decide +kernel
theorem dX7_ragged_82 : decode cX7_ragged 82 = .ok (.iload_n 2, 1) := by decide +kernel
theorem dX7_ragged_83 : decode cX7_ragged 83 = .ok (.istore_n 1, 1) := by decide +kernel
theorem dX7_ragged_84 : decode cX7_ragged 84 = .ok (.iinc 2 1, 3) := by decide +kernel
theorem dX7_ragged_87 : decode cX7_ragged 87 = .ok (.goto (-74), 3) := by decide +kernel
theorem dX7_ragged_90 : decode cX7_ragged 90 = .ok (.aload_n 0, 1) := by decide +kernel
theorem dX7_ragged_91 : decode cX7_ragged 91 = .ok (.iconst 0, 1) := by decide +kernel
theorem dX7_ragged_92 : decode cX7_ragged 92 = .ok (.putfield 62, 3) := by decide +kernel
theorem dX7_ragged_95 : decode cX7_ragged 95 = .ok (.aload_n 0, 1) := by decide +kernel
theorem dX7_ragged_96 : decode cX7_ragged 96 = .ok (.iload_n 1, 1) := by decide +kernel
theorem dX7_ragged_97 : decode cX7_ragged 97 = .ok (.iconst (-1), 1) := by decide +kernel
theorem dX7_ragged_98 : decode cX7_ragged 98 = .ok (.if_icmp .ne 7, 3) := by decide +kernel
theorem dX7_ragged_101 : decode cX7_ragged 101 = .ok (.lconst 0, 1) := by decide +kernel
theorem dX7_ragged_102 : decode cX7_ragged 102 = .ok (.goto 11, 3) := by decide +kernel
theorem dX7_ragged_105 : decode cX7_ragged 105 = .ok (.aload_n 0, 1) := by decide +kernel
theorem dX7_ragged_106 : decode cX7_ragged 106 = .ok (.iload_n 1, 1) := by decide +kernel
theorem dX7_ragged_107 : decode cX7_ragged 107 = .ok (.bipush 7, 2) := by decide +kernel
theorem dX7_ragged_109 : decode cX7_ragged 109 = .ok (.invokevirtual 167, 3) := by decide +kernel
theorem dX7_ragged_112 : decode cX7_ragged 112 = .ok (.i2l, 1) := by decide +kernel
theorem dX7_ragged_113 : decode cX7_ragged 113 = .ok (.invokevirtual 135, 3) := by decide +kernel
theorem dX7_ragged_116 : decode cX7_ragged 116 = .ok (.aload_n 0, 1) := by decide +kernel
theorem dX7_ragged_117 : decode cX7_ragged 117 = .ok (.iload_n 1, 1) := by decide +kernel
theorem dX7_ragged_118 : decode cX7_ragged 118 = .ok (.iconst (-1), 1) := by decide +kernel
theorem dX7_ragged_119 : decode cX7_ragged 119 = .ok (.if_icmp .ne 7, 3) := by decide +kernel
theorem dX7_ragged_122 : decode cX7_ragged 122 = .ok (.lconst 0, 1) := by decide +kernel
theorem dX7_ragged_123 : decode cX7_ragged 123 = .ok (.goto 10, 3) := by decide +kernel
theorem dX7_ragged_126 : decode cX7_ragged 126 = .ok (.aload_n 0, 1) := by decide +kernel
theorem dX7_ragged_127 : decode cX7_ragged 127 = .ok (.iload_n 1, 1) := by decide +kernel
theorem dX7_ragged_128 : decode cX7_ragged 128 = .ok (.iconst 1, 1) := by decide +kernel
theorem dX7_ragged_129 : decode cX7_ragged 129 = .ok (.invokevirtual 167, 3) := by decide +kernel
theorem dX7_ragged_132 : decode cX7_ragged 132 = .ok (.i2l, 1) := by decide +kernel
theorem dX7_ragged_133 : decode cX7_ragged 133 = .ok (.invokevirtual 135, 3) := by decide +kernel
theorem dX7_ragged_136 : decode cX7_ragged 136 = .ok (.aload_n 0, 1) := by decide +kernel
theorem dX7_ragged_137 : decode cX7_ragged 137 = .ok (.iload_n 1, 1) := by decide +kernel
theorem dX7_ragged_138 : decode cX7_ragged 138 = .ok (.iconst (-1), 1) := by decide +kernel
theorem dX7_ragged_139 : decode cX7_ragged 139 = .ok (.if_icmp .ne 7, 3) := by decide +kernel
theorem dX7_ragged_142 : decode cX7_ragged 142 = .ok (.lconst 0, 1) := by decide +kernel
theorem dX7_ragged_143 : decode cX7_ragged 143 = .ok (.goto 10, 3) := by decide +kernel
theorem dX7_ragged_146 : decode cX7_ragged 146 = .ok (.aload_n 0, 1) := by decide +kernel
theorem dX7_ragged_147 : decode cX7_ragged 147 = .ok (.iload_n 1, 1) := by decide +kernel
theorem dX7_ragged_148 : decode cX7_ragged 148 = .ok (.iconst 2, 1) := by decide +kernel
theorem dX7_ragged_149 : decode cX7_ragged 149 = .ok (.invokevirtual 167, 3) := by decide +kernel
theorem dX7_ragged_152 : decode cX7_ragged 152 = .ok (.i2l, 1) := by decide +kernel
theorem dX7_ragged_153 : decode cX7_ragged 153 = .ok (.invokevirtual 135, 3) := by decide +kernel
theorem dX7_ragged_156 : decode cX7_ragged 156 = .ok (.aload_n 0, 1) := by decide +kernel
theorem dX7_ragged_157 : decode cX7_ragged 157 = .ok (.iload_n 1, 1) := by decide +kernel
theorem dX7_ragged_158 : decode cX7_ragged 158 = .ok (.iconst (-1), 1) := by decide +kernel
theorem dX7_ragged_159 : decode cX7_ragged 159 = .ok (.if_icmp .ne 7, 3) := by decide +kernel
theorem dX7_ragged_162 : decode cX7_ragged 162 = .ok (.lconst 0, 1) := by decide +kernel
theorem dX7_ragged_163 : decode cX7_ragged 163 = .ok (.goto 10, 3) := by decide +kernel
theorem dX7_ragged_166 : decode cX7_ragged 166 = .ok (.aload_n 0, 1) := by decide +kernel
theorem dX7_ragged_167 : decode cX7_ragged 167 = .ok (.iload_n 1, 1) := by decide +kernel
theorem dX7_ragged_168 : decode cX7_ragged 168 = .ok (.iconst 0, 1) := by decide +kernel
theorem dX7_ragged_169 : decode cX7_ragged 169 = .ok (.invokevirtual 167, 3) := by decide +kernel
theorem dX7_ragged_172 : decode cX7_ragged 172 = .ok (.i2l, 1) := by decide +kernel
theorem dX7_ragged_173 : decode cX7_ragged 173 = .ok (.invokevirtual 135, 3) := by decide +kernel
theorem dX7_ragged_176 : decode cX7_ragged 176 = .ok (.aload_n 0, 1) := by decide +kernel
theorem dX7_ragged_177 : decode cX7_ragged 177 = .ok (.invokevirtual 202, 3) := by decide +kernel
theorem dX7_ragged_180 : decode cX7_ragged 180 = .ok (.ireturn, 1) := by decide +kernel
theorem dX7_deepOf_0 : decode cX7_deepOf 0 = .ok (.aload_n 0, 1) := by decide +kernel
theorem dX7_deepOf_1 : decode cX7_deepOf 1 = .ok (.aload_n 0, 1) := by decide +kernel
theorem dX7_deepOf_2 : decode cX7_deepOf 2 = .ok (.iload_n 1, 1) := by decide +kernel
theorem dX7_deepOf_3 : decode cX7_deepOf 3 = .ok (.iconst 0, 1) := by decide +kernel
theorem dX7_deepOf_4 : decode cX7_deepOf 4 = .ok (.invokevirtual 110, 3) := by decide +kernel
theorem dX7_deepOf_7 : decode cX7_deepOf 7 = .ok (.aload_n 0, 1) := by decide +kernel
theorem dX7_deepOf_8 : decode cX7_deepOf 8 = .ok (.iload_n 1, 1) := by decide +kernel
theorem dX7_deepOf_9 : decode cX7_deepOf 9 = .ok (.iconst 1, 1) := by decide +kernel
theorem dX7_deepOf_10 : decode cX7_deepOf 10 = .ok (.invokevirtual 110, 3) := by decide +kernel
theorem dX7_deepOf_13 : decode cX7_deepOf 13 = .ok (.invokevirtual 186, 3) := by decide +kernel
theorem dX7_deepOf_16 : decode cX7_deepOf 16 = .ok (.aload_n 0, 1) := by decide +kernel
theorem dX7_deepOf_17 : decode cX7_deepOf 17 = .ok (.iconst 0, 1) := by decide +kernel
theorem dX7_deepOf_18 : decode cX7_deepOf 18 = .ok (.aload_n 0, 1) := by decide +kernel
theorem dX7_deepOf_19 : decode cX7_deepOf 19 = .ok (.iload_n 1, 1) := by decide +kernel
theorem dX7_deepOf_20 : decode cX7_deepOf 20 = .ok (.iconst 2, 1) := by decide +kernel
theorem dX7_deepOf_21 : decode cX7_deepOf 21 = .ok (.invokevirtual 110, 3) := by decide +kernel
theorem dX7_deepOf_24 : decode cX7_deepOf 24 = .ok (.invokevirtual 186, 3) := by decide +kernel
theorem dX7_deepOf_27 : decode cX7_deepOf 27 = .ok (.isub, 1) := by decide +kernel
theorem dX7_deepOf_28 : decode cX7_deepOf 28 = .ok (.ireturn, 1) := by decide +kernel
theorem dX7_isBroken_0 : decode cX7_isBroken 0 = .ok (.aload_n 0, 1) := by decide +kernel
theorem dX7_isBroken_1 : decode cX7_isBroken 1 = .ok (.iload_n 1, 1) := by decide +kernel
theorem dX7_isBroken_2 : decode cX7_isBroken 2 = .ok (.invokevirtual 205, 3) := by decide +kernel
theorem dX7_isBroken_5 : decode cX7_isBroken 5 = .ok (.iconst 0, 1) := by decide +kernel
theorem dX7_isBroken_6 : decode cX7_isBroken 6 = .ok (.bipush 6, 2) := by decide +kernel
theorem dX7_isBroken_8 : decode cX7_isBroken 8 = .ok (.invokestatic 65, 3) := by decide +kernel
theorem dX7_isBroken_11 : decode cX7_isBroken 11 = .ok (.ifCond .ne 7, 3) := by decide +kernel
theorem dX7_isBroken_14 : decode cX7_isBroken 14 = .ok (.iconst 1, 1) := by decide +kernel
theorem dX7_isBroken_15 : decode cX7_isBroken 15 = .ok (.goto 4, 3) := by decide +kernel
theorem dX7_isBroken_18 : decode cX7_isBroken 18 = .ok (.iconst 0, 1) := by decide +kernel
theorem dX7_isBroken_19 : decode cX7_isBroken 19 = .ok (.ireturn, 1) := by decide +kernel
theorem dX7_brokenMany_0 : decode cX7_brokenMany 0 = .ok (.iconst 0, 1) := by decide +kernel
theorem dX7_brokenMany_1 : decode cX7_brokenMany 1 = .ok (.istore_n 1, 1) := by decide +kernel
theorem dX7_brokenMany_2 : decode cX7_brokenMany 2 = .ok (.iconst 0, 1) := by decide +kernel
theorem dX7_brokenMany_3 : decode cX7_brokenMany 3 = .ok (.istore_n 2, 1) := by decide +kernel
theorem dX7_brokenMany_4 : decode cX7_brokenMany 4 = .ok (.iload_n 2, 1) := by decide +kernel
theorem dX7_brokenMany_5 : decode cX7_brokenMany 5 = .ok (.aload_n 0, 1) := by decide +kernel
theorem dX7_brokenMany_6 : decode cX7_brokenMany 6 = .ok (.getfield 9, 3) := by decide +kernel
theorem dX7_brokenMany_9 : decode cX7_brokenMany 9 = .ok (.sipush 218, 3) := by decide +kernel
theorem dX7_brokenMany_12 : decode cX7_brokenMany 12 = .ok (.iaload, 1) := by decide +kernel
theorem dX7_brokenMany_13 : decode cX7_brokenMany 13 = .ok (.if_icmp .ge 25, 3) := by decide +kernel
theorem dX7_brokenMany_16 : decode cX7_brokenMany 16 = .ok (.iload_n 1, 1) := by decide +kernel
theorem dX7_brokenMany_17 : decode cX7_brokenMany 17 = .ok (.aload_n 0, 1) := by decide +kernel
theorem dX7_brokenMany_18 : decode cX7_brokenMany 18 = .ok (.iload_n 2, 1) := by decide +kernel
theorem dX7_brokenMany_19 : decode cX7_brokenMany 19 = .ok (.invokevirtual 208, 3) := by decide +kernel
theorem dX7_brokenMany_22 : decode cX7_brokenMany 22 = .ok (.ifCond .eq 7, 3) := by decide +kernel
theorem dX7_brokenMany_25 : decode cX7_brokenMany 25 = .ok (.iconst 1, 1) := by decide +kernel
theorem dX7_brokenMany_26 : decode cX7_brokenMany 26 = .ok (.goto 4, 3) := by decide +kernel
theorem dX7_brokenMany_29 : decode cX7_brokenMany 29 = .ok (.iconst 0, 1) := by decide +kernel
theorem dX7_brokenMany_30 : decode cX7_brokenMany 30 = .ok (.iadd, 1) := by decide +kernel
theorem dX7_brokenMany_31 : decode cX7_brokenMany 31 = .ok (.istore_n 1, 1) := by decide +kernel
theorem dX7_brokenMany_32 : decode cX7_brokenMany 32 = .ok (.iinc 2 1, 3) := by decide +kernel
theorem dX7_brokenMany_35 : decode cX7_brokenMany 35 = .ok (.goto (-31), 3) := by decide +kernel
theorem dX7_brokenMany_38 : decode cX7_brokenMany 38 = .ok (.iload_n 1, 1) := by decide +kernel
theorem dX7_brokenMany_39 : decode cX7_brokenMany 39 = .ok (.ireturn, 1) := by decide +kernel
theorem dX7_costOf_0 : decode cX7_costOf 0 = .ok (.aload_n 0, 1) := by decide +kernel
theorem dX7_costOf_1 : decode cX7_costOf 1 = .ok (.getfield 9, 3) := by decide +kernel
theorem dX7_costOf_4 : decode cX7_costOf 4 = .ok (.sipush 256, 3) := by decide +kernel
theorem dX7_costOf_7 : decode cX7_costOf 7 = .ok (.iaload, 1) := by decide +kernel
theorem dX7_costOf_8 : decode cX7_costOf 8 = .ok (.aload_n 0, 1) := by decide +kernel
theorem dX7_costOf_9 : decode cX7_costOf 9 = .ok (.invokevirtual 196, 3) := by decide +kernel
theorem dX7_costOf_12 : decode cX7_costOf 12 = .ok (.imul, 1) := by decide +kernel
theorem dX7_costOf_13 : decode cX7_costOf 13 = .ok (.aload_n 0, 1) := by decide +kernel
theorem dX7_costOf_14 : decode cX7_costOf 14 = .ok (.getfield 9, 3) := by decide +kernel
theorem dX7_costOf_17 : decode cX7_costOf 17 = .ok (.sipush 257, 3) := by decide +kernel
theorem dX7_costOf_20 : decode cX7_costOf 20 = .ok (.iaload, 1) := by decide +kernel
theorem dX7_costOf_21 : decode cX7_costOf 21 = .ok (.aload_n 0, 1) := by decide +kernel
theorem dX7_costOf_22 : decode cX7_costOf 22 = .ok (.invokevirtual 211, 3) := by decide +kernel
theorem dX7_costOf_25 : decode cX7_costOf 25 = .ok (.imul, 1) := by decide +kernel
theorem dX7_costOf_26 : decode cX7_costOf 26 = .ok (.iadd, 1) := by decide +kernel
theorem dX7_costOf_27 : decode cX7_costOf 27 = .ok (.aload_n 0, 1) := by decide +kernel
theorem dX7_costOf_28 : decode cX7_costOf 28 = .ok (.getfield 9, 3) := by decide +kernel
theorem dX7_costOf_31 : decode cX7_costOf 31 = .ok (.sipush 258, 3) := by decide +kernel
theorem dX7_costOf_34 : decode cX7_costOf 34 = .ok (.iaload, 1) := by decide +kernel
theorem dX7_costOf_35 : decode cX7_costOf 35 = .ok (.aload_n 0, 1) := by decide +kernel
theorem dX7_costOf_36 : decode cX7_costOf 36 = .ok (.invokevirtual 202, 3) := by decide +kernel
theorem dX7_costOf_39 : decode cX7_costOf 39 = .ok (.imul, 1) := by decide +kernel
theorem dX7_costOf_40 : decode cX7_costOf 40 = .ok (.iadd, 1) := by decide +kernel
theorem dX7_costOf_41 : decode cX7_costOf 41 = .ok (.ireturn, 1) := by decide +kernel
theorem dX7_costNow_0 : decode cX7_costNow 0 = .ok (.aload_n 0, 1) := by decide +kernel
theorem dX7_costNow_1 : decode cX7_costNow 1 = .ok (.invokevirtual 164, 3) := by decide +kernel
theorem dX7_costNow_4 : decode cX7_costNow 4 = .ok (.aload_n 0, 1) := by decide +kernel
theorem dX7_costNow_5 : decode cX7_costNow 5 = .ok (.invokevirtual 214, 3) := by decide +kernel
theorem dX7_costNow_8 : decode cX7_costNow 8 = .ok (.ireturn, 1) := by decide +kernel
theorem dX7_cost_0 : decode cX7_cost 0 = .ok (.aload_n 0, 1) := by decide +kernel
theorem dX7_cost_1 : decode cX7_cost 1 = .ok (.iconst 0, 1) := by decide +kernel
theorem dX7_cost_2 : decode cX7_cost 2 = .ok (.putfield 58, 3) := by decide +kernel
theorem dX7_cost_5 : decode cX7_cost 5 = .ok (.aload_n 0, 1) := by decide +kernel
theorem dX7_cost_6 : decode cX7_cost 6 = .ok (.invokevirtual 217, 3) := by decide +kernel
theorem dX7_cost_9 : decode cX7_cost 9 = .ok (.istore_n 1, 1) := by decide +kernel
theorem dX7_cost_10 : decode cX7_cost 10 = .ok (.aload_n 0, 1) := by decide +kernel
theorem dX7_cost_11 : decode cX7_cost 11 = .ok (.iconst 0, 1) := by decide +kernel
theorem dX7_cost_12 : decode cX7_cost 12 = .ok (.putfield 62, 3) := by decide +kernel
theorem dX7_cost_15 : decode cX7_cost 15 = .ok (.aload_n 0, 1) := by decide +kernel
theorem dX7_cost_16 : decode cX7_cost 16 = .ok (.aload_n 0, 1) := by decide +kernel
theorem dX7_cost_17 : decode cX7_cost 17 = .ok (.invokevirtual 196, 3) := by decide +kernel
theorem dX7_cost_20 : decode cX7_cost 20 = .ok (.i2l, 1) := by decide +kernel
theorem dX7_cost_21 : decode cX7_cost 21 = .ok (.invokevirtual 135, 3) := by decide +kernel
theorem dX7_cost_24 : decode cX7_cost 24 = .ok (.aload_n 0, 1) := by decide +kernel
theorem dX7_cost_25 : decode cX7_cost 25 = .ok (.aload_n 0, 1) := by decide +kernel
theorem dX7_cost_26 : decode cX7_cost 26 = .ok (.invokevirtual 211, 3) := by decide +kernel
theorem dX7_cost_29 : decode cX7_cost 29 = .ok (.i2l, 1) := by decide +kernel
theorem dX7_cost_30 : decode cX7_cost 30 = .ok (.invokevirtual 135, 3) := by decide +kernel
theorem dX7_cost_33 : decode cX7_cost 33 = .ok (.aload_n 0, 1) := by decide +kernel
theorem dX7_cost_34 : decode cX7_cost 34 = .ok (.aload_n 0, 1) := by decide +kernel
theorem dX7_cost_35 : decode cX7_cost 35 = .ok (.invokevirtual 202, 3) := by decide +kernel
theorem dX7_cost_38 : decode cX7_cost 38 = .ok (.i2l, 1) := by decide +kernel
theorem dX7_cost_39 : decode cX7_cost 39 = .ok (.invokevirtual 135, 3) := by decide +kernel
theorem dX7_cost_42 : decode cX7_cost 42 = .ok (.iload_n 1, 1) := by decide +kernel
theorem dX7_cost_43 : decode cX7_cost 43 = .ok (.ireturn, 1) := by decide +kernel
theorem dX7_blank_0 : decode cX7_blank 0 = .ok (.aload_n 0, 1) := by decide +kernel
theorem dX7_blank_1 : decode cX7_blank 1 = .ok (.iconst 0, 1) := by decide +kernel
theorem dX7_blank_2 : decode cX7_blank 2 = .ok (.putfield 58, 3) := by decide +kernel
theorem dX7_blank_5 : decode cX7_blank 5 = .ok (.aload_n 0, 1) := by decide +kernel
theorem dX7_blank_6 : decode cX7_blank 6 = .ok (.invokevirtual 164, 3) := by decide +kernel
theorem dX7_blank_9 : decode cX7_blank 9 = .ok (.aload_n 0, 1) := by decide +kernel
theorem dX7_blank_10 : decode cX7_blank 10 = .ok (.getfield 154, 3) := by decide +kernel
theorem dX7_blank_13 : decode cX7_blank 13 = .ok (.aload_n 0, 1) := by decide +kernel
theorem dX7_blank_14 : decode cX7_blank 14 = .ok (.getfield 9, 3) := by decide +kernel
theorem dX7_blank_17 : decode cX7_blank 17 = .ok (.iconst 1, 1) := by decide +kernel
theorem dX7_blank_18 : decode cX7_blank 18 = .ok (.iaload, 1) := by decide +kernel
theorem dX7_blank_19 : decode cX7_blank 19 = .ok (.imul, 1) := by decide +kernel
theorem dX7_blank_20 : decode cX7_blank 20 = .ok (.aload_n 0, 1) := by decide +kernel
theorem dX7_blank_21 : decode cX7_blank 21 = .ok (.getfield 9, 3) := by decide +kernel
theorem dX7_blank_24 : decode cX7_blank 24 = .ok (.iconst 0, 1) := by decide +kernel
theorem dX7_blank_25 : decode cX7_blank 25 = .ok (.iaload, 1) := by decide +kernel
theorem dX7_blank_26 : decode cX7_blank 26 = .ok (.imul, 1) := by decide +kernel
theorem dX7_blank_27 : decode cX7_blank 27 = .ok (.istore_n 1, 1) := by decide +kernel
theorem dX7_blank_28 : decode cX7_blank 28 = .ok (.aload_n 0, 1) := by decide +kernel
theorem dX7_blank_29 : decode cX7_blank 29 = .ok (.getfield 154, 3) := by decide +kernel
theorem dX7_blank_32 : decode cX7_blank 32 = .ok (.ifCond .ne 7, 3) := by decide +kernel
theorem dX7_blank_35 : decode cX7_blank 35 = .ok (.iconst 0, 1) := by decide +kernel
theorem dX7_blank_36 : decode cX7_blank 36 = .ok (.goto 16, 3) := by decide +kernel
theorem dX7_blank_39 : decode cX7_blank 39 = .ok (.aload_n 0, 1) := by decide +kernel
theorem dX7_blank_40 : decode cX7_blank 40 = .ok (.getfield 9, 3) := by decide +kernel
theorem dX7_blank_43 : decode cX7_blank 43 = .ok (.iconst 1, 1) := by decide +kernel
theorem dX7_blank_44 : decode cX7_blank 44 = .ok (.iaload, 1) := by decide +kernel
theorem dX7_blank_45 : decode cX7_blank 45 = .ok (.aload_n 0, 1) := by decide +kernel
theorem dX7_blank_46 : decode cX7_blank 46 = .ok (.getfield 9, 3) := by decide +kernel
theorem dX7_blank_49 : decode cX7_blank 49 = .ok (.iconst 0, 1) := by decide +kernel
theorem dX7_blank_50 : decode cX7_blank 50 = .ok (.iaload, 1) := by decide +kernel
theorem dX7_blank_51 : decode cX7_blank 51 = .ok (.imul, 1) := by decide +kernel
theorem dX7_blank_52 : decode cX7_blank 52 = .ok (.istore_n 2, 1) := by decide +kernel
theorem dX7_blank_53 : decode cX7_blank 53 = .ok (.iconst 0, 1) := by decide +kernel
theorem dX7_blank_54 : decode cX7_blank 54 = .ok (.istore_n 3, 1) := by decide +kernel
theorem dX7_blank_55 : decode cX7_blank 55 = .ok (.iload_n 3, 1) := by decide +kernel
theorem dX7_blank_56 : decode cX7_blank 56 = .ok (.iconst 3, 1) := by decide +kernel
theorem dX7_blank_57 : decode cX7_blank 57 = .ok (.if_icmp .ge 81, 3) := by decide +kernel
theorem dX7_blank_60 : decode cX7_blank 60 = .ok (.iconst 0, 1) := by decide +kernel
theorem dX7_blank_61 : decode cX7_blank 61 = .ok (.istore 4, 2) := by decide +kernel
theorem dX7_blank_63 : decode cX7_blank 63 = .ok (.iload 4, 2) := by decide +kernel
theorem dX7_blank_65 : decode cX7_blank 65 = .ok (.aload_n 0, 1) := by decide +kernel
theorem dX7_blank_66 : decode cX7_blank 66 = .ok (.getfield 9, 3) := by decide +kernel
theorem dX7_blank_69 : decode cX7_blank 69 = .ok (.iconst 5, 1) := by decide +kernel
theorem dX7_blank_70 : decode cX7_blank 70 = .ok (.iload_n 3, 1) := by decide +kernel
theorem dX7_blank_71 : decode cX7_blank 71 = .ok (.iadd, 1) := by decide +kernel
theorem dX7_blank_72 : decode cX7_blank 72 = .ok (.iaload, 1) := by decide +kernel
theorem dX7_blank_73 : decode cX7_blank 73 = .ok (.if_icmp .ge 59, 3) := by decide +kernel
theorem dX7_blank_76 : decode cX7_blank 76 = .ok (.iload_n 1, 1) := by decide +kernel
theorem dX7_blank_77 : decode cX7_blank 77 = .ok (.aload_n 0, 1) := by decide +kernel
theorem dX7_blank_78 : decode cX7_blank 78 = .ok (.iload_n 3, 1) := by decide +kernel
theorem dX7_blank_79 : decode cX7_blank 79 = .ok (.iload 4, 2) := by decide +kernel
theorem dX7_blank_81 : decode cX7_blank 81 = .ok (.invokevirtual 147, 3) := by decide +kernel
theorem dX7_blank_84 : decode cX7_blank 84 = .ok (.isub, 1) := by decide +kernel
theorem dX7_blank_85 : decode cX7_blank 85 = .ok (.istore_n 1, 1) := by decide +kernel
theorem dX7_blank_86 : decode cX7_blank 86 = .ok (.iload_n 2, 1) := by decide +kernel
theorem dX7_blank_87 : decode cX7_blank 87 = .ok (.aload_n 0, 1) := by decide +kernel
theorem dX7_blank_88 : decode cX7_blank 88 = .ok (.aload_n 0, 1) := by decide +kernel
theorem dX7_blank_89 : decode cX7_blank 89 = .ok (.getfield 27, 3) := by decide +kernel
theorem dX7_blank_92 : decode cX7_blank 92 = .ok (.bipush 70, 2) := by decide +kernel
theorem dX7_blank_94 : decode cX7_blank 94 = .ok (.iload_n 3, 1) := by decide +kernel
theorem dX7_blank_95 : decode cX7_blank 95 = .ok (.imul, 1) := by decide +kernel
theorem dX7_blank_96 : decode cX7_blank 96 = .ok (.iload 4, 2) := by decide +kernel
theorem dX7_blank_98 : decode cX7_blank 98 = .ok (.iadd, 1) := by decide +kernel
theorem dX7_blank_99 : decode cX7_blank 99 = .ok (.iaload, 1) := by decide +kernel
theorem dX7_blank_100 : decode cX7_blank 100 = .ok (.iconst 1, 1) := by decide +kernel
theorem dX7_blank_101 : decode cX7_blank 101 = .ok (.invokevirtual 167, 3) := by decide +kernel
theorem dX7_blank_104 : decode cX7_blank 104 = .ok (.aload_n 0, 1) := by decide +kernel
theorem dX7_blank_105 : decode cX7_blank 105 = .ok (.getfield 154, 3) := by decide +kernel
theorem dX7_blank_108 : decode cX7_blank 108 = .ok (.iconst 1, 1) := by decide +kernel
theorem dX7_blank_109 : decode cX7_blank 109 = .ok (.isub, 1) := by decide +kernel
theorem dX7_blank_110 : decode cX7_blank 110 = .ok (.if_icmp .ne 13, 3) := by decide +kernel
theorem dX7_blank_113 : decode cX7_blank 113 = .ok (.aload_n 0, 1) := by decide +kernel
theorem dX7_blank_114 : decode cX7_blank 114 = .ok (.iload_n 3, 1) := by decide +kernel
theorem dX7_blank_115 : decode cX7_blank 115 = .ok (.iload 4, 2) := by decide +kernel
theorem dX7_blank_117 : decode cX7_blank 117 = .ok (.invokevirtual 147, 3) := by decide +kernel
theorem dX7_blank_120 : decode cX7_blank 120 = .ok (.goto 4, 3) := by decide +kernel
theorem dX7_blank_123 : decode cX7_blank 123 = .ok (.iconst 0, 1) := by decide +kernel
theorem dX7_blank_124 : decode cX7_blank 124 = .ok (.isub, 1) := by decide +kernel
theorem dX7_blank_125 : decode cX7_blank 125 = .ok (.istore_n 2, 1) := by decide +kernel
theorem dX7_blank_126 : decode cX7_blank 126 = .ok (.iinc 4 1, 3) := by decide +kernel
theorem dX7_blank_129 : decode cX7_blank 129 = .ok (.goto (-66), 3) := by decide +kernel
theorem dX7_blank_132 : decode cX7_blank 132 = .ok (.iinc 3 1, 3) := by decide +kernel
theorem dX7_blank_135 : decode cX7_blank 135 = .ok (.goto (-80), 3) := by decide +kernel
theorem dX7_blank_138 : decode cX7_blank 138 = .ok (.aload_n 0, 1) := by decide +kernel
theorem dX7_blank_139 : decode cX7_blank 139 = .ok (.iconst 0, 1) := by decide +kernel
theorem dX7_blank_140 : decode cX7_blank 140 = .ok (.putfield 62, 3) := by decide +kernel
theorem dX7_blank_143 : decode cX7_blank 143 = .ok (.aload_n 0, 1) := by decide +kernel
theorem dX7_blank_144 : decode cX7_blank 144 = .ok (.iload_n 2, 1) := by decide +kernel
theorem dX7_blank_145 : decode cX7_blank 145 = .ok (.i2l, 1) := by decide +kernel
theorem dX7_blank_146 : decode cX7_blank 146 = .ok (.invokevirtual 135, 3) := by decide +kernel
theorem dX7_blank_149 : decode cX7_blank 149 = .ok (.iload_n 1, 1) := by decide +kernel
theorem dX7_blank_150 : decode cX7_blank 150 = .ok (.ireturn, 1) := by decide +kernel
theorem dX7_tie_0 : decode cX7_tie 0 = .ok (.aload_n 0, 1) := by decide +kernel
theorem dX7_tie_1 : decode cX7_tie 1 = .ok (.iconst 0, 1) := by decide +kernel
theorem dX7_tie_2 : decode cX7_tie 2 = .ok (.putfield 58, 3) := by decide +kernel
theorem dX7_tie_5 : decode cX7_tie 5 = .ok (.iload_n 1, 1) := by decide +kernel
theorem dX7_tie_6 : decode cX7_tie 6 = .ok (.iconst 0, 1) := by decide +kernel
theorem dX7_tie_7 : decode cX7_tie 7 = .ok (.aload_n 0, 1) := by decide +kernel
theorem dX7_tie_8 : decode cX7_tie 8 = .ok (.getfield 9, 3) := by decide +kernel
theorem dX7_tie_11 : decode cX7_tie 11 = .ok (.sipush 218, 3) := by decide +kernel
theorem dX7_tie_14 : decode cX7_tie 14 = .ok (.iaload, 1) := by decide +kernel
theorem dX7_tie_15 : decode cX7_tie 15 = .ok (.iconst 1, 1) := by decide +kernel
theorem dX7_tie_16 : decode cX7_tie 16 = .ok (.isub, 1) := by decide +kernel
theorem dX7_tie_17 : decode cX7_tie 17 = .ok (.invokestatic 65, 3) := by decide +kernel
theorem dX7_tie_20 : decode cX7_tie 20 = .ok (.ifCond .ne 8, 3) := by decide +kernel
theorem dX7_tie_23 : decode cX7_tie 23 = .ok (.aload_n 0, 1) := by decide +kernel
theorem dX7_tie_24 : decode cX7_tie 24 = .ok (.invokevirtual 180, 3) := by decide +kernel
theorem dX7_tie_27 : decode cX7_tie 27 = .ok (.ireturn, 1) := by decide +kernel
theorem dX7_tie_28 : decode cX7_tie 28 = .ok (.aload_n 0, 1) := by decide +kernel
theorem dX7_tie_29 : decode cX7_tie 29 = .ok (.invokevirtual 164, 3) := by decide +kernel
theorem dX7_tie_32 : decode cX7_tie 32 = .ok (.aload_n 0, 1) := by decide +kernel
theorem dX7_tie_33 : decode cX7_tie 33 = .ok (.iconst 0, 1) := by decide +kernel
theorem dX7_tie_34 : decode cX7_tie 34 = .ok (.putfield 62, 3) := by decide +kernel
theorem dX7_tie_37 : decode cX7_tie 37 = .ok (.aload_n 0, 1) := by decide +kernel
theorem dX7_tie_38 : decode cX7_tie 38 = .ok (.aload_n 0, 1) := by decide +kernel
theorem dX7_tie_39 : decode cX7_tie 39 = .ok (.iload_n 1, 1) := by decide +kernel
theorem dX7_tie_40 : decode cX7_tie 40 = .ok (.invokevirtual 208, 3) := by decide +kernel
theorem dX7_tie_43 : decode cX7_tie 43 = .ok (.ifCond .eq 7, 3) := by decide +kernel
theorem dX7_tie_46 : decode cX7_tie 46 = .ok (.lconst 1, 1) := by decide +kernel
theorem dX7_tie_47 : decode cX7_tie 47 = .ok (.goto 4, 3) := by decide +kernel
theorem dX7_tie_50 : decode cX7_tie 50 = .ok (.lconst 0, 1) := by decide +kernel
theorem dX7_tie_51 : decode cX7_tie 51 = .ok (.invokevirtual 135, 3) := by decide +kernel
theorem dX7_tie_54 : decode cX7_tie 54 = .ok (.iconst 0, 1) := by decide +kernel
theorem dX7_tie_55 : decode cX7_tie 55 = .ok (.istore_n 2, 1) := by decide +kernel
theorem dX7_tie_56 : decode cX7_tie 56 = .ok (.iload_n 2, 1) := by decide +kernel
theorem dX7_tie_57 : decode cX7_tie 57 = .ok (.iconst 3, 1) := by decide +kernel
theorem dX7_tie_58 : decode cX7_tie 58 = .ok (.if_icmp .ge 20, 3) := by decide +kernel
theorem dX7_tie_61 : decode cX7_tie 61 = .ok (.aload_n 0, 1) := by decide +kernel
theorem dX7_tie_62 : decode cX7_tie 62 = .ok (.aload_n 0, 1) := by decide +kernel
theorem dX7_tie_63 : decode cX7_tie 63 = .ok (.iload_n 1, 1) := by decide +kernel
theorem dX7_tie_64 : decode cX7_tie 64 = .ok (.iload_n 2, 1) := by decide +kernel
theorem dX7_tie_65 : decode cX7_tie 65 = .ok (.invokevirtual 110, 3) := by decide +kernel
theorem dX7_tie_68 : decode cX7_tie 68 = .ok (.i2l, 1) := by decide +kernel
theorem dX7_tie_69 : decode cX7_tie 69 = .ok (.invokevirtual 135, 3) := by decide +kernel
theorem dX7_tie_72 : decode cX7_tie 72 = .ok (.iinc 2 1, 3) := by decide +kernel
theorem dX7_tie_75 : decode cX7_tie 75 = .ok (.goto (-19), 3) := by decide +kernel
theorem dX7_tie_78 : decode cX7_tie 78 = .ok (.aload_n 0, 1) := by decide +kernel
theorem dX7_tie_79 : decode cX7_tie 79 = .ok (.iload_n 1, 1) := by decide +kernel
theorem dX7_tie_80 : decode cX7_tie 80 = .ok (.invokevirtual 205, 3) := by decide +kernel
theorem dX7_tie_83 : decode cX7_tie 83 = .ok (.ireturn, 1) := by decide +kernel
theorem dX7_broken_0 : decode cX7_broken 0 = .ok (.aload_n 0, 1) := by decide +kernel
theorem dX7_broken_1 : decode cX7_broken 1 = .ok (.iconst 0, 1) := by decide +kernel
theorem dX7_broken_2 : decode cX7_broken 2 = .ok (.putfield 58, 3) := by decide +kernel
theorem dX7_broken_5 : decode cX7_broken 5 = .ok (.aload_n 0, 1) := by decide +kernel
theorem dX7_broken_6 : decode cX7_broken 6 = .ok (.invokevirtual 164, 3) := by decide +kernel
theorem dX7_broken_9 : decode cX7_broken 9 = .ok (.iconst (-1), 1) := by decide +kernel
theorem dX7_broken_10 : decode cX7_broken 10 = .ok (.istore_n 1, 1) := by decide +kernel
theorem dX7_broken_11 : decode cX7_broken 11 = .ok (.iconst 0, 1) := by decide +kernel
theorem dX7_broken_12 : decode cX7_broken 12 = .ok (.istore_n 2, 1) := by decide +kernel
theorem dX7_broken_13 : decode cX7_broken 13 = .ok (.aload_n 0, 1) := by decide +kernel
theorem dX7_broken_14 : decode cX7_broken 14 = .ok (.getfield 9, 3) := by decide +kernel
theorem dX7_broken_17 : decode cX7_broken 17 = .ok (.sipush 218, 3) := by decide +kernel
theorem dX7_broken_20 : decode cX7_broken 20 = .ok (.iaload, 1) := by decide +kernel
theorem dX7_broken_21 : decode cX7_broken 21 = .ok (.iconst 1, 1) := by decide +kernel
theorem dX7_broken_22 : decode cX7_broken 22 = .ok (.isub, 1) := by decide +kernel
theorem dX7_broken_23 : decode cX7_broken 23 = .ok (.istore_n 3, 1) := by decide +kernel
theorem dX7_broken_24 : decode cX7_broken 24 = .ok (.iload_n 3, 1) := by decide +kernel
theorem dX7_broken_25 : decode cX7_broken 25 = .ok (.ifCond .lt 27, 3) := by decide +kernel
theorem dX7_broken_28 : decode cX7_broken 28 = .ok (.iload_n 2, 1) := by decide +kernel
theorem dX7_broken_29 : decode cX7_broken 29 = .ok (.aload_n 0, 1) := by decide +kernel
theorem dX7_broken_30 : decode cX7_broken 30 = .ok (.iload_n 3, 1) := by decide +kernel
theorem dX7_broken_31 : decode cX7_broken 31 = .ok (.invokevirtual 205, 3) := by decide +kernel
theorem dX7_broken_34 : decode cX7_broken 34 = .ok (.iadd, 1) := by decide +kernel
theorem dX7_broken_35 : decode cX7_broken 35 = .ok (.istore_n 2, 1) := by decide +kernel
theorem dX7_broken_36 : decode cX7_broken 36 = .ok (.aload_n 0, 1) := by decide +kernel
theorem dX7_broken_37 : decode cX7_broken 37 = .ok (.iload_n 3, 1) := by decide +kernel
theorem dX7_broken_38 : decode cX7_broken 38 = .ok (.invokevirtual 208, 3) := by decide +kernel
theorem dX7_broken_41 : decode cX7_broken 41 = .ok (.ifCond .eq 5, 3) := by decide +kernel
theorem dX7_broken_44 : decode cX7_broken 44 = .ok (.iload_n 3, 1) := by decide +kernel
theorem dX7_broken_45 : decode cX7_broken 45 = .ok (.istore_n 1, 1) := by decide +kernel
theorem dX7_broken_46 : decode cX7_broken 46 = .ok (.iinc 3 (-1), 3) := by decide +kernel
theorem dX7_broken_49 : decode cX7_broken 49 = .ok (.goto (-25), 3) := by decide +kernel
theorem dX7_broken_52 : decode cX7_broken 52 = .ok (.aload_n 0, 1) := by decide +kernel
theorem dX7_broken_53 : decode cX7_broken 53 = .ok (.iconst 0, 1) := by decide +kernel
theorem dX7_broken_54 : decode cX7_broken 54 = .ok (.putfield 62, 3) := by decide +kernel
theorem dX7_broken_57 : decode cX7_broken 57 = .ok (.aload_n 0, 1) := by decide +kernel
theorem dX7_broken_58 : decode cX7_broken 58 = .ok (.iload_n 1, 1) := by decide +kernel
theorem dX7_broken_59 : decode cX7_broken 59 = .ok (.i2l, 1) := by decide +kernel
theorem dX7_broken_60 : decode cX7_broken 60 = .ok (.invokevirtual 135, 3) := by decide +kernel
theorem dX7_broken_63 : decode cX7_broken 63 = .ok (.aload_n 0, 1) := by decide +kernel
theorem dX7_broken_64 : decode cX7_broken 64 = .ok (.iload_n 2, 1) := by decide +kernel
theorem dX7_broken_65 : decode cX7_broken 65 = .ok (.i2l, 1) := by decide +kernel
theorem dX7_broken_66 : decode cX7_broken 66 = .ok (.invokevirtual 135, 3) := by decide +kernel
theorem dX7_broken_69 : decode cX7_broken 69 = .ok (.aload_n 0, 1) := by decide +kernel
theorem dX7_broken_70 : decode cX7_broken 70 = .ok (.invokevirtual 211, 3) := by decide +kernel
theorem dX7_broken_73 : decode cX7_broken 73 = .ok (.ireturn, 1) := by decide +kernel
theorem dX7_isLoose_0 : decode cX7_isLoose 0 = .ok (.iconst 0, 1) := by decide +kernel
theorem dX7_isLoose_1 : decode cX7_isLoose 1 = .ok (.istore_n 2, 1) := by decide +kernel
theorem dX7_isLoose_2 : decode cX7_isLoose 2 = .ok (.iload_n 2, 1) := by decide +kernel
theorem dX7_isLoose_3 : decode cX7_isLoose 3 = .ok (.aload_n 0, 1) := by decide +kernel
theorem dX7_isLoose_4 : decode cX7_isLoose 4 = .ok (.getfield 9, 3) := by decide +kernel
theorem dX7_isLoose_7 : decode cX7_isLoose 7 = .ok (.sipush 218, 3) := by decide +kernel
theorem dX7_isLoose_10 : decode cX7_isLoose 10 = .ok (.iaload, 1) := by decide +kernel
theorem dX7_isLoose_11 : decode cX7_isLoose 11 = .ok (.if_icmp .ge 21, 3) := by decide +kernel
theorem dX7_isLoose_14 : decode cX7_isLoose 14 = .ok (.aload_n 0, 1) := by decide +kernel
theorem dX7_isLoose_15 : decode cX7_isLoose 15 = .ok (.iload_n 2, 1) := by decide +kernel
theorem dX7_isLoose_16 : decode cX7_isLoose 16 = .ok (.iconst 2, 1) := by decide +kernel
theorem dX7_isLoose_17 : decode cX7_isLoose 17 = .ok (.invokevirtual 110, 3) := by decide +kernel
theorem dX7_isLoose_20 : decode cX7_isLoose 20 = .ok (.iload_n 1, 1) := by decide +kernel
theorem dX7_isLoose_21 : decode cX7_isLoose 21 = .ok (.if_icmp .ne 5, 3) := by decide +kernel
theorem dX7_isLoose_24 : decode cX7_isLoose 24 = .ok (.iconst 0, 1) := by decide +kernel
theorem dX7_isLoose_25 : decode cX7_isLoose 25 = .ok (.ireturn, 1) := by decide +kernel
theorem dX7_isLoose_26 : decode cX7_isLoose 26 = .ok (.iinc 2 1, 3) := by decide +kernel
theorem dX7_isLoose_29 : decode cX7_isLoose 29 = .ok (.goto (-27), 3) := by decide +kernel
theorem dX7_isLoose_32 : decode cX7_isLoose 32 = .ok (.iconst 1, 1) := by decide +kernel
theorem dX7_isLoose_33 : decode cX7_isLoose 33 = .ok (.ireturn, 1) := by decide +kernel
theorem dX7_loose_0 : decode cX7_loose 0 = .ok (.aload_n 0, 1) := by decide +kernel
theorem dX7_loose_1 : decode cX7_loose 1 = .ok (.iconst 0, 1) := by decide +kernel
theorem dX7_loose_2 : decode cX7_loose 2 = .ok (.putfield 58, 3) := by decide +kernel
theorem dX7_loose_5 : decode cX7_loose 5 = .ok (.iconst 0, 1) := by decide +kernel
theorem dX7_loose_6 : decode cX7_loose 6 = .ok (.istore_n 1, 1) := by decide +kernel
theorem dX7_loose_7 : decode cX7_loose 7 = .ok (.iconst (-1), 1) := by decide +kernel
theorem dX7_loose_8 : decode cX7_loose 8 = .ok (.istore_n 2, 1) := by decide +kernel
theorem dX7_loose_9 : decode cX7_loose 9 = .ok (.aload_n 0, 1) := by decide +kernel
theorem dX7_loose_10 : decode cX7_loose 10 = .ok (.getfield 9, 3) := by decide +kernel
theorem dX7_loose_13 : decode cX7_loose 13 = .ok (.iconst 5, 1) := by decide +kernel
theorem dX7_loose_14 : decode cX7_loose 14 = .ok (.iaload, 1) := by decide +kernel
theorem dX7_loose_15 : decode cX7_loose 15 = .ok (.iconst 1, 1) := by decide +kernel
theorem dX7_loose_16 : decode cX7_loose 16 = .ok (.isub, 1) := by decide +kernel
theorem dX7_loose_17 : decode cX7_loose 17 = .ok (.istore_n 3, 1) := by decide +kernel
theorem dX7_loose_18 : decode cX7_loose 18 = .ok (.iload_n 3, 1) := by decide +kernel
theorem dX7_loose_19 : decode cX7_loose 19 = .ok (.ifCond .lt 25, 3) := by decide +kernel
theorem dX7_loose_22 : decode cX7_loose 22 = .ok (.aload_n 0, 1) := by decide +kernel
theorem dX7_loose_23 : decode cX7_loose 23 = .ok (.iload_n 3, 1) := by decide +kernel
theorem dX7_loose_24 : decode cX7_loose 24 = .ok (.invokevirtual 220, 3) := by decide +kernel
theorem dX7_loose_27 : decode cX7_loose 27 = .ok (.ifCond .ne 6, 3) := by decide +kernel
theorem dX7_loose_30 : decode cX7_loose 30 = .ok (.goto 8, 3) := by decide +kernel
theorem dX7_loose_33 : decode cX7_loose 33 = .ok (.iinc 1 1, 3) := by decide +kernel
theorem dX7_loose_36 : decode cX7_loose 36 = .ok (.iload_n 3, 1) := by decide +kernel
theorem dX7_loose_37 : decode cX7_loose 37 = .ok (.istore_n 2, 1) := by decide +kernel
theorem dX7_loose_38 : decode cX7_loose 38 = .ok (.iinc 3 (-1), 3) := by decide +kernel
theorem dX7_loose_41 : decode cX7_loose 41 = .ok (.goto (-23), 3) := by decide +kernel
theorem dX7_loose_44 : decode cX7_loose 44 = .ok (.aload_n 0, 1) := by decide +kernel
theorem dX7_loose_45 : decode cX7_loose 45 = .ok (.iconst 0, 1) := by decide +kernel
theorem dX7_loose_46 : decode cX7_loose 46 = .ok (.putfield 62, 3) := by decide +kernel
theorem dX7_loose_49 : decode cX7_loose 49 = .ok (.aload_n 0, 1) := by decide +kernel
theorem dX7_loose_50 : decode cX7_loose 50 = .ok (.iload_n 2, 1) := by decide +kernel
theorem dX7_loose_51 : decode cX7_loose 51 = .ok (.i2l, 1) := by decide +kernel
theorem dX7_loose_52 : decode cX7_loose 52 = .ok (.invokevirtual 135, 3) := by decide +kernel
theorem dX7_loose_55 : decode cX7_loose 55 = .ok (.iload_n 1, 1) := by decide +kernel
theorem dX7_loose_56 : decode cX7_loose 56 = .ok (.ireturn, 1) := by decide +kernel
theorem dX7_canPlan_0 : decode cX7_canPlan 0 = .ok (.iload_n 3, 1) := by decide +kernel
theorem dX7_canPlan_1 : decode cX7_canPlan 1 = .ok (.iconst 0, 1) := by decide +kernel
theorem dX7_canPlan_2 : decode cX7_canPlan 2 = .ok (.bipush 9, 2) := by decide +kernel
theorem dX7_canPlan_4 : decode cX7_canPlan 4 = .ok (.invokestatic 65, 3) := by decide +kernel
theorem dX7_canPlan_7 : decode cX7_canPlan 7 = .ok (.ifCond .eq 52, 3) := by decide +kernel
theorem dX7_canPlan_10 : decode cX7_canPlan 10 = .ok (.iload_n 3, 1) := by decide +kernel
theorem dX7_canPlan_11 : decode cX7_canPlan 11 = .ok (.iload_n 1, 1) := by decide +kernel
theorem dX7_canPlan_12 : decode cX7_canPlan 12 = .ok (.if_icmp .ge 47, 3) := by decide +kernel
theorem dX7_canPlan_15 : decode cX7_canPlan 15 = .ok (.iload 4, 2) := by decide +kernel
theorem dX7_canPlan_17 : decode cX7_canPlan 17 = .ok (.bipush 9, 2) := by decide +kernel
theorem dX7_canPlan_19 : decode cX7_canPlan 19 = .ok (.bipush 40, 2) := by decide +kernel
theorem dX7_canPlan_21 : decode cX7_canPlan 21 = .ok (.invokestatic 65, 3) := by decide +kernel
theorem dX7_canPlan_24 : decode cX7_canPlan 24 = .ok (.ifCond .eq 35, 3) := by decide +kernel
theorem dX7_canPlan_27 : decode cX7_canPlan 27 = .ok (.iload 5, 2) := by decide +kernel
theorem dX7_canPlan_29 : decode cX7_canPlan 29 = .ok (.bipush 9, 2) := by decide +kernel
theorem dX7_canPlan_31 : decode cX7_canPlan 31 = .ok (.bipush 40, 2) := by decide +kernel
theorem dX7_canPlan_33 : decode cX7_canPlan 33 = .ok (.invokestatic 65, 3) := by decide +kernel
theorem dX7_canPlan_36 : decode cX7_canPlan 36 = .ok (.ifCond .eq 23, 3) := by decide +kernel
theorem dX7_canPlan_39 : decode cX7_canPlan 39 = .ok (.iload 4, 2) := by decide +kernel
theorem dX7_canPlan_41 : decode cX7_canPlan 41 = .ok (.iload 5, 2) := by decide +kernel
theorem dX7_canPlan_43 : decode cX7_canPlan 43 = .ok (.iadd, 1) := by decide +kernel
theorem dX7_canPlan_44 : decode cX7_canPlan 44 = .ok (.iload_n 0, 1) := by decide +kernel
theorem dX7_canPlan_45 : decode cX7_canPlan 45 = .ok (.bipush 9, 2) := by decide +kernel
theorem dX7_canPlan_47 : decode cX7_canPlan 47 = .ok (.isub, 1) := by decide +kernel
theorem dX7_canPlan_48 : decode cX7_canPlan 48 = .ok (.iconst 2, 1) := by decide +kernel
theorem dX7_canPlan_49 : decode cX7_canPlan 49 = .ok (.iload_n 2, 1) := by decide +kernel
theorem dX7_canPlan_50 : decode cX7_canPlan 50 = .ok (.imul, 1) := by decide +kernel
theorem dX7_canPlan_51 : decode cX7_canPlan 51 = .ok (.isub, 1) := by decide +kernel
theorem dX7_canPlan_52 : decode cX7_canPlan 52 = .ok (.if_icmp .gt 7, 3) := by decide +kernel
theorem dX7_canPlan_55 : decode cX7_canPlan 55 = .ok (.iconst 1, 1) := by decide +kernel
theorem dX7_canPlan_56 : decode cX7_canPlan 56 = .ok (.goto 4, 3) := by decide +kernel
theorem dX7_canPlan_59 : decode cX7_canPlan 59 = .ok (.iconst 0, 1) := by decide +kernel
theorem dX7_canPlan_60 : decode cX7_canPlan 60 = .ok (.ireturn, 1) := by decide +kernel
theorem dX7_canBe_0 : decode cX7_canBe 0 = .ok (.aload_n 0, 1) := by decide +kernel
theorem dX7_canBe_1 : decode cX7_canBe 1 = .ok (.getfield 9, 3) := by decide +kernel
theorem dX7_canBe_4 : decode cX7_canBe 4 = .ok (.iconst 0, 1) := by decide +kernel
theorem dX7_canBe_5 : decode cX7_canBe 5 = .ok (.iaload, 1) := by decide +kernel
theorem dX7_canBe_6 : decode cX7_canBe 6 = .ok (.aload_n 0, 1) := by decide +kernel
theorem dX7_canBe_7 : decode cX7_canBe 7 = .ok (.getfield 9, 3) := by decide +kernel
theorem dX7_canBe_10 : decode cX7_canBe 10 = .ok (.iconst 1, 1) := by decide +kernel
theorem dX7_canBe_11 : decode cX7_canBe 11 = .ok (.iaload, 1) := by decide +kernel
theorem dX7_canBe_12 : decode cX7_canBe 12 = .ok (.aload_n 0, 1) := by decide +kernel
theorem dX7_canBe_13 : decode cX7_canBe 13 = .ok (.getfield 9, 3) := by decide +kernel
theorem dX7_canBe_16 : decode cX7_canBe 16 = .ok (.sipush 255, 3) := by decide +kernel
theorem dX7_canBe_19 : decode cX7_canBe 19 = .ok (.iaload, 1) := by decide +kernel
theorem dX7_canBe_20 : decode cX7_canBe 20 = .ok (.iload_n 1, 1) := by decide +kernel
theorem dX7_canBe_21 : decode cX7_canBe 21 = .ok (.iload_n 2, 1) := by decide +kernel
theorem dX7_canBe_22 : decode cX7_canBe 22 = .ok (.iload_n 3, 1) := by decide +kernel
theorem dX7_canBe_23 : decode cX7_canBe 23 = .ok (.invokestatic 223, 3) := by decide +kernel
theorem dX7_canBe_26 : decode cX7_canBe 26 = .ok (.ireturn, 1) := by decide +kernel
theorem dX7_layAside_0 : decode cX7_layAside 0 = .ok (.iconst 0, 1) := by decide +kernel
theorem dX7_layAside_1 : decode cX7_layAside 1 = .ok (.istore_n 1, 1) := by decide +kernel
theorem dX7_layAside_2 : decode cX7_layAside 2 = .ok (.iload_n 1, 1) := by decide +kernel
theorem dX7_layAside_3 : decode cX7_layAside 3 = .ok (.sipush 259, 3) := by decide +kernel
theorem dX7_layAside_6 : decode cX7_layAside 6 = .ok (.if_icmp .ge 21, 3) := by decide +kernel
theorem dX7_layAside_9 : decode cX7_layAside 9 = .ok (.aload_n 0, 1) := by decide +kernel
theorem dX7_layAside_10 : decode cX7_layAside 10 = .ok (.getfield 33, 3) := by decide +kernel
theorem dX7_layAside_13 : decode cX7_layAside 13 = .ok (.iload_n 1, 1) := by decide +kernel
theorem dX7_layAside_14 : decode cX7_layAside 14 = .ok (.aload_n 0, 1) := by decide +kernel
theorem dX7_layAside_15 : decode cX7_layAside 15 = .ok (.getfield 9, 3) := by decide +kernel
theorem dX7_layAside_18 : decode cX7_layAside 18 = .ok (.iload_n 1, 1) := by decide +kernel
theorem dX7_layAside_19 : decode cX7_layAside 19 = .ok (.iaload, 1) := by decide +kernel
theorem dX7_layAside_20 : decode cX7_layAside 20 = .ok (.iastore, 1) := by decide +kernel
theorem dX7_layAside_21 : decode cX7_layAside 21 = .ok (.iinc 1 1, 3) := by decide +kernel
theorem dX7_layAside_24 : decode cX7_layAside 24 = .ok (.goto (-22), 3) := by decide +kernel
theorem dX7_layAside_27 : decode cX7_layAside 27 = .ok (.return_, 1) := by decide +kernel
theorem dX7_comesBack_0 : decode cX7_comesBack 0 = .ok (.iconst 0, 1) := by decide +kernel
theorem dX7_comesBack_1 : decode cX7_comesBack 1 = .ok (.istore_n 1, 1) := by decide +kernel
theorem dX7_comesBack_2 : decode cX7_comesBack 2 = .ok (.iload_n 1, 1) := by decide +kernel
theorem dX7_comesBack_3 : decode cX7_comesBack 3 = .ok (.sipush 259, 3) := by decide +kernel
theorem dX7_comesBack_6 : decode cX7_comesBack 6 = .ok (.if_icmp .ge 21, 3) := by decide +kernel
theorem dX7_comesBack_9 : decode cX7_comesBack 9 = .ok (.aload_n 0, 1) := by decide +kernel
theorem dX7_comesBack_10 : decode cX7_comesBack 10 = .ok (.getfield 9, 3) := by decide +kernel
theorem dX7_comesBack_13 : decode cX7_comesBack 13 = .ok (.iload_n 1, 1) := by decide +kernel
theorem dX7_comesBack_14 : decode cX7_comesBack 14 = .ok (.aload_n 0, 1) := by decide +kernel
theorem dX7_comesBack_15 : decode cX7_comesBack 15 = .ok (.getfield 33, 3) := by decide +kernel
theorem dX7_comesBack_18 : decode cX7_comesBack 18 = .ok (.iload_n 1, 1) := by decide +kernel
theorem dX7_comesBack_19 : decode cX7_comesBack 19 = .ok (.iaload, 1) := by decide +kernel
theorem dX7_comesBack_20 : decode cX7_comesBack 20 = .ok (.iastore, 1) := by decide +kernel
theorem dX7_comesBack_21 : decode cX7_comesBack 21 = .ok (.iinc 1 1, 3) := by decide +kernel
theorem dX7_comesBack_24 : decode cX7_comesBack 24 = .ok (.goto (-22), 3) := by decide +kernel
theorem dX7_comesBack_27 : decode cX7_comesBack 27 = .ok (.return_, 1) := by decide +kernel
theorem dX7_putPlan_0 : decode cX7_putPlan 0 = .ok (.aload_n 0, 1) := by decide +kernel
theorem dX7_putPlan_1 : decode cX7_putPlan 1 = .ok (.getfield 9, 3) := by decide +kernel
theorem dX7_putPlan_4 : decode cX7_putPlan 4 = .ok (.iconst 2, 1) := by decide +kernel
theorem dX7_putPlan_5 : decode cX7_putPlan 5 = .ok (.iload_n 1, 1) := by decide +kernel
theorem dX7_putPlan_6 : decode cX7_putPlan 6 = .ok (.iastore, 1) := by decide +kernel
theorem dX7_putPlan_7 : decode cX7_putPlan 7 = .ok (.aload_n 0, 1) := by decide +kernel
theorem dX7_putPlan_8 : decode cX7_putPlan 8 = .ok (.getfield 9, 3) := by decide +kernel
theorem dX7_putPlan_11 : decode cX7_putPlan 11 = .ok (.iconst 3, 1) := by decide +kernel
theorem dX7_putPlan_12 : decode cX7_putPlan 12 = .ok (.iload_n 2, 1) := by decide +kernel
theorem dX7_putPlan_13 : decode cX7_putPlan 13 = .ok (.iastore, 1) := by decide +kernel
theorem dX7_putPlan_14 : decode cX7_putPlan 14 = .ok (.aload_n 0, 1) := by decide +kernel
theorem dX7_putPlan_15 : decode cX7_putPlan 15 = .ok (.getfield 9, 3) := by decide +kernel
theorem dX7_putPlan_18 : decode cX7_putPlan 18 = .ok (.iconst 4, 1) := by decide +kernel
theorem dX7_putPlan_19 : decode cX7_putPlan 19 = .ok (.iload_n 3, 1) := by decide +kernel
theorem dX7_putPlan_20 : decode cX7_putPlan 20 = .ok (.iastore, 1) := by decide +kernel
theorem dX7_putPlan_21 : decode cX7_putPlan 21 = .ok (.return_, 1) := by decide +kernel
theorem dX7_by_0 : decode cX7_by 0 = .ok (.aload_n 0, 1) := by decide +kernel
theorem dX7_by_1 : decode cX7_by 1 = .ok (.iconst 0, 1) := by decide +kernel
theorem dX7_by_2 : decode cX7_by 2 = .ok (.putfield 58, 3) := by decide +kernel
theorem dX7_by_5 : decode cX7_by 5 = .ok (.aload_n 0, 1) := by decide +kernel
theorem dX7_by_6 : decode cX7_by 6 = .ok (.iload_n 1, 1) := by decide +kernel
theorem dX7_by_7 : decode cX7_by 7 = .ok (.iload_n 2, 1) := by decide +kernel
theorem dX7_by_8 : decode cX7_by 8 = .ok (.iload_n 3, 1) := by decide +kernel
theorem dX7_by_9 : decode cX7_by 9 = .ok (.invokevirtual 227, 3) := by decide +kernel
theorem dX7_by_12 : decode cX7_by 12 = .ok (.ifCond .ne 5, 3) := by decide +kernel
theorem dX7_by_15 : decode cX7_by 15 = .ok (.iconst (-1), 1) := by decide +kernel
theorem dX7_by_16 : decode cX7_by 16 = .ok (.ireturn, 1) := by decide +kernel
theorem dX7_by_17 : decode cX7_by 17 = .ok (.aload_n 0, 1) := by decide +kernel
theorem dX7_by_18 : decode cX7_by 18 = .ok (.invokevirtual 230, 3) := by decide +kernel
theorem dX7_by_21 : decode cX7_by 21 = .ok (.aload_n 0, 1) := by decide +kernel
theorem dX7_by_22 : decode cX7_by 22 = .ok (.iload_n 1, 1) := by decide +kernel
theorem dX7_by_23 : decode cX7_by 23 = .ok (.iload_n 2, 1) := by decide +kernel
theorem dX7_by_24 : decode cX7_by 24 = .ok (.iload_n 3, 1) := by decide +kernel
theorem dX7_by_25 : decode cX7_by 25 = .ok (.invokevirtual 233, 3) := by decide +kernel
theorem dX7_by_28 : decode cX7_by 28 = .ok (.aload_n 0, 1) := by decide +kernel
theorem dX7_by_29 : decode cX7_by 29 = .ok (.invokevirtual 217, 3) := by decide +kernel
theorem dX7_by_32 : decode cX7_by 32 = .ok (.istore 4, 2) := by decide +kernel
theorem dX7_by_34 : decode cX7_by 34 = .ok (.aload_n 0, 1) := by decide +kernel
theorem dX7_by_35 : decode cX7_by 35 = .ok (.iconst 0, 1) := by decide +kernel
theorem dX7_by_36 : decode cX7_by 36 = .ok (.putfield 62, 3) := by decide +kernel
theorem dX7_by_39 : decode cX7_by 39 = .ok (.aload_n 0, 1) := by decide +kernel
theorem dX7_by_40 : decode cX7_by 40 = .ok (.aload_n 0, 1) := by decide +kernel
theorem dX7_by_41 : decode cX7_by 41 = .ok (.getfield 154, 3) := by decide +kernel
theorem dX7_by_44 : decode cX7_by 44 = .ok (.i2l, 1) := by decide +kernel
theorem dX7_by_45 : decode cX7_by 45 = .ok (.invokevirtual 135, 3) := by decide +kernel
theorem dX7_by_48 : decode cX7_by 48 = .ok (.aload_n 0, 1) := by decide +kernel
theorem dX7_by_49 : decode cX7_by 49 = .ok (.aload_n 0, 1) := by decide +kernel
theorem dX7_by_50 : decode cX7_by 50 = .ok (.invokevirtual 196, 3) := by decide +kernel
theorem dX7_by_53 : decode cX7_by 53 = .ok (.i2l, 1) := by decide +kernel
theorem dX7_by_54 : decode cX7_by 54 = .ok (.invokevirtual 135, 3) := by decide +kernel
theorem dX7_by_57 : decode cX7_by 57 = .ok (.aload_n 0, 1) := by decide +kernel
theorem dX7_by_58 : decode cX7_by 58 = .ok (.aload_n 0, 1) := by decide +kernel
theorem dX7_by_59 : decode cX7_by 59 = .ok (.invokevirtual 211, 3) := by decide +kernel
theorem dX7_by_62 : decode cX7_by 62 = .ok (.i2l, 1) := by decide +kernel
theorem dX7_by_63 : decode cX7_by 63 = .ok (.invokevirtual 135, 3) := by decide +kernel
theorem dX7_by_66 : decode cX7_by 66 = .ok (.aload_n 0, 1) := by decide +kernel
theorem dX7_by_67 : decode cX7_by 67 = .ok (.aload_n 0, 1) := by decide +kernel
theorem dX7_by_68 : decode cX7_by 68 = .ok (.invokevirtual 202, 3) := by decide +kernel
theorem dX7_by_71 : decode cX7_by 71 = .ok (.i2l, 1) := by decide +kernel
theorem dX7_by_72 : decode cX7_by 72 = .ok (.invokevirtual 135, 3) := by decide +kernel
theorem dX7_by_75 : decode cX7_by 75 = .ok (.aload_n 0, 1) := by decide +kernel
theorem dX7_by_76 : decode cX7_by 76 = .ok (.invokevirtual 237, 3) := by decide +kernel
theorem dX7_by_79 : decode cX7_by 79 = .ok (.iload 4, 2) := by decide +kernel
theorem dX7_by_81 : decode cX7_by 81 = .ok (.ireturn, 1) := by decide +kernel
theorem dX7_tryPlan_0 : decode cX7_tryPlan 0 = .ok (.aload_n 0, 1) := by decide +kernel
theorem dX7_tryPlan_1 : decode cX7_tryPlan 1 = .ok (.invokevirtual 217, 3) := by decide +kernel
theorem dX7_tryPlan_4 : decode cX7_tryPlan 4 = .ok (.istore_n 2, 1) := by decide +kernel
theorem dX7_tryPlan_5 : decode cX7_tryPlan 5 = .ok (.aload_n 0, 1) := by decide +kernel
theorem dX7_tryPlan_6 : decode cX7_tryPlan 6 = .ok (.getfield 240, 3) := by decide +kernel
theorem dX7_tryPlan_9 : decode cX7_tryPlan 9 = .ok (.ifCond .eq 11, 3) := by decide +kernel
theorem dX7_tryPlan_12 : decode cX7_tryPlan 12 = .ok (.iload_n 2, 1) := by decide +kernel
theorem dX7_tryPlan_13 : decode cX7_tryPlan 13 = .ok (.aload_n 0, 1) := by decide +kernel
theorem dX7_tryPlan_14 : decode cX7_tryPlan 14 = .ok (.getfield 243, 3) := by decide +kernel
theorem dX7_tryPlan_17 : decode cX7_tryPlan 17 = .ok (.if_icmp .ge 35, 3) := by decide +kernel
theorem dX7_tryPlan_20 : decode cX7_tryPlan 20 = .ok (.aload_n 0, 1) := by decide +kernel
theorem dX7_tryPlan_21 : decode cX7_tryPlan 21 = .ok (.iload_n 2, 1) := by decide +kernel
theorem dX7_tryPlan_22 : decode cX7_tryPlan 22 = .ok (.putfield 243, 3) := by decide +kernel
theorem dX7_tryPlan_25 : decode cX7_tryPlan 25 = .ok (.iconst 0, 1) := by decide +kernel
theorem dX7_tryPlan_26 : decode cX7_tryPlan 26 = .ok (.istore_n 3, 1) := by decide +kernel
theorem dX7_tryPlan_27 : decode cX7_tryPlan 27 = .ok (.iload_n 3, 1) := by decide +kernel
theorem dX7_tryPlan_28 : decode cX7_tryPlan 28 = .ok (.iconst 3, 1) := by decide +kernel
theorem dX7_tryPlan_29 : decode cX7_tryPlan 29 = .ok (.if_icmp .ge 23, 3) := by decide +kernel
theorem dX7_tryPlan_32 : decode cX7_tryPlan 32 = .ok (.aload_n 0, 1) := by decide +kernel
theorem dX7_tryPlan_33 : decode cX7_tryPlan 33 = .ok (.getfield 36, 3) := by decide +kernel
theorem dX7_tryPlan_36 : decode cX7_tryPlan 36 = .ok (.iload_n 3, 1) := by decide +kernel
theorem dX7_tryPlan_37 : decode cX7_tryPlan 37 = .ok (.aload_n 0, 1) := by decide +kernel
theorem dX7_tryPlan_38 : decode cX7_tryPlan 38 = .ok (.getfield 9, 3) := by decide +kernel
theorem dX7_tryPlan_41 : decode cX7_tryPlan 41 = .ok (.iconst 2, 1) := by decide +kernel
theorem dX7_tryPlan_42 : decode cX7_tryPlan 42 = .ok (.iload_n 3, 1) := by decide +kernel
theorem dX7_tryPlan_43 : decode cX7_tryPlan 43 = .ok (.iadd, 1) := by decide +kernel
theorem dX7_tryPlan_44 : decode cX7_tryPlan 44 = .ok (.iaload, 1) := by decide +kernel
theorem dX7_tryPlan_45 : decode cX7_tryPlan 45 = .ok (.iastore, 1) := by decide +kernel
theorem dX7_tryPlan_46 : decode cX7_tryPlan 46 = .ok (.iinc 3 1, 3) := by decide +kernel
theorem dX7_tryPlan_49 : decode cX7_tryPlan 49 = .ok (.goto (-22), 3) := by decide +kernel
theorem dX7_tryPlan_52 : decode cX7_tryPlan 52 = .ok (.aload_n 0, 1) := by decide +kernel
theorem dX7_tryPlan_53 : decode cX7_tryPlan 53 = .ok (.dup, 1) := by decide +kernel
theorem dX7_tryPlan_54 : decode cX7_tryPlan 54 = .ok (.getfield 240, 3) := by decide +kernel
theorem dX7_tryPlan_57 : decode cX7_tryPlan 57 = .ok (.iconst 1, 1) := by decide +kernel
theorem dX7_tryPlan_58 : decode cX7_tryPlan 58 = .ok (.iadd, 1) := by decide +kernel
theorem dX7_tryPlan_59 : decode cX7_tryPlan 59 = .ok (.putfield 240, 3) := by decide +kernel
theorem dX7_tryPlan_62 : decode cX7_tryPlan 62 = .ok (.aload_n 0, 1) := by decide +kernel
theorem dX7_tryPlan_63 : decode cX7_tryPlan 63 = .ok (.invokevirtual 196, 3) := by decide +kernel
theorem dX7_tryPlan_66 : decode cX7_tryPlan 66 = .ok (.iload_n 1, 1) := by decide +kernel
theorem dX7_tryPlan_67 : decode cX7_tryPlan 67 = .ok (.if_icmp .le 4, 3) := by decide +kernel
theorem dX7_tryPlan_70 : decode cX7_tryPlan 70 = .ok (.return_, 1) := by decide +kernel
theorem dX7_tryPlan_71 : decode cX7_tryPlan 71 = .ok (.iconst 0, 1) := by decide +kernel
theorem dX7_tryPlan_72 : decode cX7_tryPlan 72 = .ok (.istore_n 3, 1) := by decide +kernel
theorem dX7_tryPlan_73 : decode cX7_tryPlan 73 = .ok (.iload_n 3, 1) := by decide +kernel
theorem dX7_tryPlan_74 : decode cX7_tryPlan 74 = .ok (.iconst 3, 1) := by decide +kernel
theorem dX7_tryPlan_75 : decode cX7_tryPlan 75 = .ok (.if_icmp .ge 30, 3) := by decide +kernel
theorem dX7_tryPlan_78 : decode cX7_tryPlan 78 = .ok (.aload_n 0, 1) := by decide +kernel
theorem dX7_tryPlan_79 : decode cX7_tryPlan 79 = .ok (.getfield 246, 3) := by decide +kernel
theorem dX7_tryPlan_82 : decode cX7_tryPlan 82 = .ok (.ifCond .ne 23, 3) := by decide +kernel
theorem dX7_tryPlan_85 : decode cX7_tryPlan 85 = .ok (.aload_n 0, 1) := by decide +kernel
theorem dX7_tryPlan_86 : decode cX7_tryPlan 86 = .ok (.getfield 39, 3) := by decide +kernel
theorem dX7_tryPlan_89 : decode cX7_tryPlan 89 = .ok (.iload_n 3, 1) := by decide +kernel
theorem dX7_tryPlan_90 : decode cX7_tryPlan 90 = .ok (.aload_n 0, 1) := by decide +kernel
theorem dX7_tryPlan_91 : decode cX7_tryPlan 91 = .ok (.getfield 9, 3) := by decide +kernel
theorem dX7_tryPlan_94 : decode cX7_tryPlan 94 = .ok (.iconst 2, 1) := by decide +kernel
theorem dX7_tryPlan_95 : decode cX7_tryPlan 95 = .ok (.iload_n 3, 1) := by decide +kernel
theorem dX7_tryPlan_96 : decode cX7_tryPlan 96 = .ok (.iadd, 1) := by decide +kernel
theorem dX7_tryPlan_97 : decode cX7_tryPlan 97 = .ok (.iaload, 1) := by decide +kernel
theorem dX7_tryPlan_98 : decode cX7_tryPlan 98 = .ok (.iastore, 1) := by decide +kernel
theorem dX7_tryPlan_99 : decode cX7_tryPlan 99 = .ok (.iinc 3 1, 3) := by decide +kernel
theorem dX7_tryPlan_102 : decode cX7_tryPlan 102 = .ok (.goto (-29), 3) := by decide +kernel
theorem dX7_tryPlan_105 : decode cX7_tryPlan 105 = .ok (.aload_n 0, 1) := by decide +kernel
theorem dX7_tryPlan_106 : decode cX7_tryPlan 106 = .ok (.dup, 1) := by decide +kernel
theorem dX7_tryPlan_107 : decode cX7_tryPlan 107 = .ok (.getfield 246, 3) := by decide +kernel
theorem dX7_tryPlan_110 : decode cX7_tryPlan 110 = .ok (.iconst 1, 1) := by decide +kernel
theorem dX7_tryPlan_111 : decode cX7_tryPlan 111 = .ok (.iadd, 1) := by decide +kernel
theorem dX7_tryPlan_112 : decode cX7_tryPlan 112 = .ok (.putfield 246, 3) := by decide +kernel
theorem dX7_tryPlan_115 : decode cX7_tryPlan 115 = .ok (.return_, 1) := by decide +kernel
theorem dX7_goGrid_0 : decode cX7_goGrid 0 = .ok (.aload_n 0, 1) := by decide +kernel
theorem dX7_goGrid_1 : decode cX7_goGrid 1 = .ok (.invokevirtual 230, 3) := by decide +kernel
theorem dX7_goGrid_4 : decode cX7_goGrid 4 = .ok (.aload_n 0, 1) := by decide +kernel
theorem dX7_goGrid_5 : decode cX7_goGrid 5 = .ok (.iconst 0, 1) := by decide +kernel
theorem dX7_goGrid_6 : decode cX7_goGrid 6 = .ok (.putfield 240, 3) := by decide +kernel
theorem dX7_goGrid_9 : decode cX7_goGrid 9 = .ok (.aload_n 0, 1) := by decide +kernel
theorem dX7_goGrid_10 : decode cX7_goGrid 10 = .ok (.iconst 0, 1) := by decide +kernel
theorem dX7_goGrid_11 : decode cX7_goGrid 11 = .ok (.putfield 246, 3) := by decide +kernel
theorem dX7_goGrid_14 : decode cX7_goGrid 14 = .ok (.iconst 0, 1) := by decide +kernel
theorem dX7_goGrid_15 : decode cX7_goGrid 15 = .ok (.istore 4, 2) := by decide +kernel
theorem dX7_goGrid_17 : decode cX7_goGrid 17 = .ok (.iload 4, 2) := by decide +kernel
theorem dX7_goGrid_19 : decode cX7_goGrid 19 = .ok (.iload_n 1, 1) := by decide +kernel
theorem dX7_goGrid_20 : decode cX7_goGrid 20 = .ok (.if_icmp .gt 70, 3) := by decide +kernel
theorem dX7_goGrid_23 : decode cX7_goGrid 23 = .ok (.bipush 9, 2) := by decide +kernel
theorem dX7_goGrid_25 : decode cX7_goGrid 25 = .ok (.istore 5, 2) := by decide +kernel
theorem dX7_goGrid_27 : decode cX7_goGrid 27 = .ok (.iload 5, 2) := by decide +kernel
theorem dX7_goGrid_29 : decode cX7_goGrid 29 = .ok (.bipush 40, 2) := by decide +kernel
theorem dX7_goGrid_31 : decode cX7_goGrid 31 = .ok (.if_icmp .gt 53, 3) := by decide +kernel
theorem dX7_goGrid_34 : decode cX7_goGrid 34 = .ok (.bipush 9, 2) := by decide +kernel
theorem dX7_goGrid_36 : decode cX7_goGrid 36 = .ok (.istore 6, 2) := by decide +kernel
theorem dX7_goGrid_38 : decode cX7_goGrid 38 = .ok (.aload_n 0, 1) := by decide +kernel
theorem dX7_goGrid_39 : decode cX7_goGrid 39 = .ok (.iload 4, 2) := by decide +kernel
theorem dX7_goGrid_41 : decode cX7_goGrid 41 = .ok (.iload 5, 2) := by decide +kernel
theorem dX7_goGrid_43 : decode cX7_goGrid 43 = .ok (.iload 6, 2) := by decide +kernel
theorem dX7_goGrid_45 : decode cX7_goGrid 45 = .ok (.invokevirtual 227, 3) := by decide +kernel
theorem dX7_goGrid_48 : decode cX7_goGrid 48 = .ok (.ifCond .eq 27, 3) := by decide +kernel
theorem dX7_goGrid_51 : decode cX7_goGrid 51 = .ok (.aload_n 0, 1) := by decide +kernel
theorem dX7_goGrid_52 : decode cX7_goGrid 52 = .ok (.iload 4, 2) := by decide +kernel
theorem dX7_goGrid_54 : decode cX7_goGrid 54 = .ok (.iload 5, 2) := by decide +kernel
theorem dX7_goGrid_56 : decode cX7_goGrid 56 = .ok (.iload 6, 2) := by decide +kernel
theorem dX7_goGrid_58 : decode cX7_goGrid 58 = .ok (.invokevirtual 233, 3) := by decide +kernel
theorem dX7_goGrid_61 : decode cX7_goGrid 61 = .ok (.aload_n 0, 1) := by decide +kernel
theorem dX7_goGrid_62 : decode cX7_goGrid 62 = .ok (.iload_n 3, 1) := by decide +kernel
theorem dX7_goGrid_63 : decode cX7_goGrid 63 = .ok (.invokevirtual 249, 3) := by decide +kernel
theorem dX7_goGrid_66 : decode cX7_goGrid 66 = .ok (.iload 6, 2) := by decide +kernel
theorem dX7_goGrid_68 : decode cX7_goGrid 68 = .ok (.iload_n 2, 1) := by decide +kernel
theorem dX7_goGrid_69 : decode cX7_goGrid 69 = .ok (.iadd, 1) := by decide +kernel
theorem dX7_goGrid_70 : decode cX7_goGrid 70 = .ok (.istore 6, 2) := by decide +kernel
theorem dX7_goGrid_72 : decode cX7_goGrid 72 = .ok (.goto (-34), 3) := by decide +kernel
theorem dX7_goGrid_75 : decode cX7_goGrid 75 = .ok (.iload 5, 2) := by decide +kernel
theorem dX7_goGrid_77 : decode cX7_goGrid 77 = .ok (.iload_n 2, 1) := by decide +kernel
theorem dX7_goGrid_78 : decode cX7_goGrid 78 = .ok (.iadd, 1) := by decide +kernel
theorem dX7_goGrid_79 : decode cX7_goGrid 79 = .ok (.istore 5, 2) := by decide +kernel
theorem dX7_goGrid_81 : decode cX7_goGrid 81 = .ok (.goto (-54), 3) := by decide +kernel
theorem dX7_goGrid_84 : decode cX7_goGrid 84 = .ok (.iinc 4 1, 3) := by decide +kernel
theorem dX7_goGrid_87 : decode cX7_goGrid 87 = .ok (.goto (-70), 3) := by decide +kernel
theorem dX7_goGrid_90 : decode cX7_goGrid 90 = .ok (.aload_n 0, 1) := by decide +kernel
theorem dX7_goGrid_91 : decode cX7_goGrid 91 = .ok (.invokevirtual 237, 3) := by decide +kernel
theorem dX7_goGrid_94 : decode cX7_goGrid 94 = .ok (.return_, 1) := by decide +kernel
theorem dX7_isGrid_0 : decode cX7_isGrid 0 = .ok (.iload_n 0, 1) := by decide +kernel
theorem dX7_isGrid_1 : decode cX7_isGrid 1 = .ok (.iconst 0, 1) := by decide +kernel
theorem dX7_isGrid_2 : decode cX7_isGrid 2 = .ok (.bipush 9, 2) := by decide +kernel
theorem dX7_isGrid_4 : decode cX7_isGrid 4 = .ok (.invokestatic 65, 3) := by decide +kernel
theorem dX7_isGrid_7 : decode cX7_isGrid 7 = .ok (.ifCond .eq 17, 3) := by decide +kernel
theorem dX7_isGrid_10 : decode cX7_isGrid 10 = .ok (.iload_n 1, 1) := by decide +kernel
theorem dX7_isGrid_11 : decode cX7_isGrid 11 = .ok (.iconst 1, 1) := by decide +kernel
theorem dX7_isGrid_12 : decode cX7_isGrid 12 = .ok (.bipush 9, 2) := by decide +kernel
theorem dX7_isGrid_14 : decode cX7_isGrid 14 = .ok (.invokestatic 65, 3) := by decide +kernel
theorem dX7_isGrid_17 : decode cX7_isGrid 17 = .ok (.ifCond .eq 7, 3) := by decide +kernel
theorem dX7_isGrid_20 : decode cX7_isGrid 20 = .ok (.iconst 1, 1) := by decide +kernel
theorem dX7_isGrid_21 : decode cX7_isGrid 21 = .ok (.goto 4, 3) := by decide +kernel
theorem dX7_isGrid_24 : decode cX7_isGrid 24 = .ok (.iconst 0, 1) := by decide +kernel
theorem dX7_isGrid_25 : decode cX7_isGrid 25 = .ok (.ireturn, 1) := by decide +kernel
theorem dX7_best_0 : decode cX7_best 0 = .ok (.aload_n 0, 1) := by decide +kernel
theorem dX7_best_1 : decode cX7_best 1 = .ok (.iconst 0, 1) := by decide +kernel
theorem dX7_best_2 : decode cX7_best 2 = .ok (.putfield 58, 3) := by decide +kernel
theorem dX7_best_5 : decode cX7_best 5 = .ok (.iload_n 1, 1) := by decide +kernel
theorem dX7_best_6 : decode cX7_best 6 = .ok (.iload_n 2, 1) := by decide +kernel
theorem dX7_best_7 : decode cX7_best 7 = .ok (.invokestatic 252, 3) := by decide +kernel
theorem dX7_best_10 : decode cX7_best 10 = .ok (.ifCond .ne 5, 3) := by decide +kernel
theorem dX7_best_13 : decode cX7_best 13 = .ok (.iconst (-1), 1) := by decide +kernel
theorem dX7_best_14 : decode cX7_best 14 = .ok (.ireturn, 1) := by decide +kernel
theorem dX7_best_15 : decode cX7_best 15 = .ok (.aload_n 0, 1) := by decide +kernel
theorem dX7_best_16 : decode cX7_best 16 = .ok (.iload_n 1, 1) := by decide +kernel
theorem dX7_best_17 : decode cX7_best 17 = .ok (.iload_n 2, 1) := by decide +kernel
theorem dX7_best_18 : decode cX7_best 18 = .ok (.iconst 0, 1) := by decide +kernel
theorem dX7_best_19 : decode cX7_best 19 = .ok (.invokevirtual 255, 3) := by decide +kernel
theorem dX7_best_22 : decode cX7_best 22 = .ok (.aload_n 0, 1) := by decide +kernel
theorem dX7_best_23 : decode cX7_best 23 = .ok (.iconst 0, 1) := by decide +kernel
theorem dX7_best_24 : decode cX7_best 24 = .ok (.putfield 62, 3) := by decide +kernel
theorem dX7_best_27 : decode cX7_best 27 = .ok (.iconst 0, 1) := by decide +kernel
theorem dX7_best_28 : decode cX7_best 28 = .ok (.istore_n 3, 1) := by decide +kernel
theorem dX7_best_29 : decode cX7_best 29 = .ok (.iload_n 3, 1) := by decide +kernel
theorem dX7_best_30 : decode cX7_best 30 = .ok (.iconst 3, 1) := by decide +kernel
theorem dX7_best_31 : decode cX7_best 31 = .ok (.if_icmp .ge 20, 3) := by decide +kernel
theorem dX7_best_34 : decode cX7_best 34 = .ok (.aload_n 0, 1) := by decide +kernel
theorem dX7_best_35 : decode cX7_best 35 = .ok (.aload_n 0, 1) := by decide +kernel
theorem dX7_best_36 : decode cX7_best 36 = .ok (.getfield 36, 3) := by decide +kernel
theorem dX7_best_39 : decode cX7_best 39 = .ok (.iload_n 3, 1) := by decide +kernel
theorem dX7_best_40 : decode cX7_best 40 = .ok (.iaload, 1) := by decide +kernel
theorem dX7_best_41 : decode cX7_best 41 = .ok (.i2l, 1) := by decide +kernel
theorem dX7_best_42 : decode cX7_best 42 = .ok (.invokevirtual 135, 3) := by decide +kernel
theorem dX7_best_45 : decode cX7_best 45 = .ok (.iinc 3 1, 3) := by decide +kernel
theorem dX7_best_48 : decode cX7_best 48 = .ok (.goto (-19), 3) := by decide +kernel
theorem dX7_best_51 : decode cX7_best 51 = .ok (.aload_n 0, 1) := by decide +kernel
theorem dX7_best_52 : decode cX7_best 52 = .ok (.aload_n 0, 1) := by decide +kernel
theorem dX7_best_53 : decode cX7_best 53 = .ok (.getfield 240, 3) := by decide +kernel
theorem dX7_best_56 : decode cX7_best 56 = .ok (.i2l, 1) := by decide +kernel
theorem dX7_best_57 : decode cX7_best 57 = .ok (.invokevirtual 135, 3) := by decide +kernel
theorem dX7_best_60 : decode cX7_best 60 = .ok (.aload_n 0, 1) := by decide +kernel
theorem dX7_best_61 : decode cX7_best 61 = .ok (.getfield 243, 3) := by decide +kernel
theorem dX7_best_64 : decode cX7_best 64 = .ok (.ireturn, 1) := by decide +kernel
theorem dX7_near_0 : decode cX7_near 0 = .ok (.aload_n 0, 1) := by decide +kernel
theorem dX7_near_1 : decode cX7_near 1 = .ok (.iconst 0, 1) := by decide +kernel
theorem dX7_near_2 : decode cX7_near 2 = .ok (.putfield 58, 3) := by decide +kernel
theorem dX7_near_5 : decode cX7_near 5 = .ok (.iload_n 1, 1) := by decide +kernel
theorem dX7_near_6 : decode cX7_near 6 = .ok (.iload_n 2, 1) := by decide +kernel
theorem dX7_near_7 : decode cX7_near 7 = .ok (.invokestatic 252, 3) := by decide +kernel
theorem dX7_near_10 : decode cX7_near 10 = .ok (.ifCond .eq 13, 3) := by decide +kernel
theorem dX7_near_13 : decode cX7_near 13 = .ok (.iload_n 3, 1) := by decide +kernel
theorem dX7_near_14 : decode cX7_near 14 = .ok (.iconst 0, 1) := by decide +kernel
theorem dX7_near_15 : decode cX7_near 15 = .ok (.bipush 99, 2) := by decide +kernel
theorem dX7_near_17 : decode cX7_near 17 = .ok (.invokestatic 65, 3) := by decide +kernel
theorem dX7_near_20 : decode cX7_near 20 = .ok (.ifCond .ne 5, 3) := by decide +kernel
theorem dX7_near_23 : decode cX7_near 23 = .ok (.iconst (-1), 1) := by decide +kernel
theorem dX7_near_24 : decode cX7_near 24 = .ok (.ireturn, 1) := by decide +kernel
theorem dX7_near_25 : decode cX7_near 25 = .ok (.aload_n 0, 1) := by decide +kernel
theorem dX7_near_26 : decode cX7_near 26 = .ok (.iload_n 1, 1) := by decide +kernel
theorem dX7_near_27 : decode cX7_near 27 = .ok (.iload_n 2, 1) := by decide +kernel
theorem dX7_near_28 : decode cX7_near 28 = .ok (.iload_n 3, 1) := by decide +kernel
theorem dX7_near_29 : decode cX7_near 29 = .ok (.invokevirtual 255, 3) := by decide +kernel
theorem dX7_near_32 : decode cX7_near 32 = .ok (.aload_n 0, 1) := by decide +kernel
theorem dX7_near_33 : decode cX7_near 33 = .ok (.iconst 0, 1) := by decide +kernel
theorem dX7_near_34 : decode cX7_near 34 = .ok (.putfield 62, 3) := by decide +kernel
theorem dX7_near_37 : decode cX7_near 37 = .ok (.iconst 0, 1) := by decide +kernel
theorem dX7_near_38 : decode cX7_near 38 = .ok (.istore 4, 2) := by decide +kernel
theorem dX7_near_40 : decode cX7_near 40 = .ok (.iload 4, 2) := by decide +kernel
theorem dX7_near_42 : decode cX7_near 42 = .ok (.iconst 3, 1) := by decide +kernel
theorem dX7_near_43 : decode cX7_near 43 = .ok (.if_icmp .ge 28, 3) := by decide +kernel
theorem dX7_near_46 : decode cX7_near 46 = .ok (.aload_n 0, 1) := by decide +kernel
theorem dX7_near_47 : decode cX7_near 47 = .ok (.getfield 246, 3) := by decide +kernel
theorem dX7_near_50 : decode cX7_near 50 = .ok (.ifCond .le 21, 3) := by decide +kernel
theorem dX7_near_53 : decode cX7_near 53 = .ok (.aload_n 0, 1) := by decide +kernel
theorem dX7_near_54 : decode cX7_near 54 = .ok (.aload_n 0, 1) := by decide +kernel
theorem dX7_near_55 : decode cX7_near 55 = .ok (.getfield 39, 3) := by decide +kernel
theorem dX7_near_58 : decode cX7_near 58 = .ok (.iload 4, 2) := by decide +kernel
theorem dX7_near_60 : decode cX7_near 60 = .ok (.iaload, 1) := by decide +kernel
theorem dX7_near_61 : decode cX7_near 61 = .ok (.i2l, 1) := by decide +kernel
theorem dX7_near_62 : decode cX7_near 62 = .ok (.invokevirtual 135, 3) := by decide +kernel
theorem dX7_near_65 : decode cX7_near 65 = .ok (.iinc 4 1, 3) := by decide +kernel
theorem dX7_near_68 : decode cX7_near 68 = .ok (.goto (-28), 3) := by decide +kernel
theorem dX7_near_71 : decode cX7_near 71 = .ok (.aload_n 0, 1) := by decide +kernel
theorem dX7_near_72 : decode cX7_near 72 = .ok (.getfield 246, 3) := by decide +kernel
theorem dX7_near_75 : decode cX7_near 75 = .ok (.ireturn, 1) := by decide +kernel
theorem dX7_stepFrom_0 : decode cX7_stepFrom 0 = .ok (.iload_n 1, 1) := by decide +kernel
theorem dX7_stepFrom_1 : decode cX7_stepFrom 1 = .ok (.istore_n 2, 1) := by decide +kernel
theorem dX7_stepFrom_2 : decode cX7_stepFrom 2 = .ok (.iconst 0, 1) := by decide +kernel
theorem dX7_stepFrom_3 : decode cX7_stepFrom 3 = .ok (.istore_n 3, 1) := by decide +kernel
theorem dX7_stepFrom_4 : decode cX7_stepFrom 4 = .ok (.aload_n 0, 1) := by decide +kernel
theorem dX7_stepFrom_5 : decode cX7_stepFrom 5 = .ok (.getfield 9, 3) := by decide +kernel
theorem dX7_stepFrom_8 : decode cX7_stepFrom 8 = .ok (.iconst 2, 1) := by decide +kernel
theorem dX7_stepFrom_9 : decode cX7_stepFrom 9 = .ok (.iaload, 1) := by decide +kernel
theorem dX7_stepFrom_10 : decode cX7_stepFrom 10 = .ok (.istore 4, 2) := by decide +kernel
theorem dX7_stepFrom_12 : decode cX7_stepFrom 12 = .ok (.aload_n 0, 1) := by decide +kernel
theorem dX7_stepFrom_13 : decode cX7_stepFrom 13 = .ok (.getfield 9, 3) := by decide +kernel
theorem dX7_stepFrom_16 : decode cX7_stepFrom 16 = .ok (.iconst 3, 1) := by decide +kernel
theorem dX7_stepFrom_17 : decode cX7_stepFrom 17 = .ok (.iaload, 1) := by decide +kernel
theorem dX7_stepFrom_18 : decode cX7_stepFrom 18 = .ok (.istore 5, 2) := by decide +kernel
theorem dX7_stepFrom_20 : decode cX7_stepFrom 20 = .ok (.aload_n 0, 1) := by decide +kernel
theorem dX7_stepFrom_21 : decode cX7_stepFrom 21 = .ok (.getfield 9, 3) := by decide +kernel
theorem dX7_stepFrom_24 : decode cX7_stepFrom 24 = .ok (.iconst 4, 1) := by decide +kernel
theorem dX7_stepFrom_25 : decode cX7_stepFrom 25 = .ok (.iaload, 1) := by decide +kernel
theorem dX7_stepFrom_26 : decode cX7_stepFrom 26 = .ok (.istore 6, 2) := by decide +kernel
theorem dX7_stepFrom_28 : decode cX7_stepFrom 28 = .ok (.iconst 0, 1) := by decide +kernel
theorem dX7_stepFrom_29 : decode cX7_stepFrom 29 = .ok (.istore 7, 2) := by decide +kernel
theorem dX7_stepFrom_31 : decode cX7_stepFrom 31 = .ok (.iload 7, 2) := by decide +kernel
theorem dX7_stepFrom_33 : decode cX7_stepFrom 33 = .ok (.bipush 6, 2) := by decide +kernel
theorem dX7_stepFrom_35 : decode cX7_stepFrom 35 = .ok (.if_icmp .ge 149, 3) := by decide +kernel
theorem dX7_stepFrom_38 : decode cX7_stepFrom 38 = .ok (.iload 7, 2) := by decide +kernel
theorem dX7_stepFrom_40 : decode cX7_stepFrom 40 = .ok (.iconst 2, 1) := by decide +kernel
theorem dX7_stepFrom_41 : decode cX7_stepFrom 41 = .ok (.irem, 1) := by decide +kernel
theorem dX7_stepFrom_42 : decode cX7_stepFrom 42 = .ok (.ifCond .ne 7, 3) := by decide +kernel
theorem dX7_stepFrom_45 : decode cX7_stepFrom 45 = .ok (.iconst (-1), 1) := by decide +kernel
theorem dX7_stepFrom_46 : decode cX7_stepFrom 46 = .ok (.goto 4, 3) := by decide +kernel
theorem dX7_stepFrom_49 : decode cX7_stepFrom 49 = .ok (.iconst 1, 1) := by decide +kernel
theorem dX7_stepFrom_50 : decode cX7_stepFrom 50 = .ok (.istore 8, 2) := by decide +kernel
theorem dX7_stepFrom_52 : decode cX7_stepFrom 52 = .ok (.iload 4, 2) := by decide +kernel
theorem dX7_stepFrom_54 : decode cX7_stepFrom 54 = .ok (.iload 7, 2) := by decide +kernel
theorem dX7_stepFrom_56 : decode cX7_stepFrom 56 = .ok (.iconst 2, 1) := by decide +kernel
theorem dX7_stepFrom_57 : decode cX7_stepFrom 57 = .ok (.idiv, 1) := by decide +kernel
theorem dX7_stepFrom_58 : decode cX7_stepFrom 58 = .ok (.ifCond .ne 8, 3) := by decide +kernel
theorem dX7_stepFrom_61 : decode cX7_stepFrom 61 = .ok (.iload 8, 2) := by decide +kernel
theorem dX7_stepFrom_63 : decode cX7_stepFrom 63 = .ok (.goto 4, 3) := by decide +kernel
theorem dX7_stepFrom_66 : decode cX7_stepFrom 66 = .ok (.iconst 0, 1) := by decide +kernel
theorem dX7_stepFrom_67 : decode cX7_stepFrom 67 = .ok (.iadd, 1) := by decide +kernel
theorem dX7_stepFrom_68 : decode cX7_stepFrom 68 = .ok (.istore 9, 2) := by decide +kernel
theorem dX7_stepFrom_70 : decode cX7_stepFrom 70 = .ok (.iload 5, 2) := by decide +kernel
theorem dX7_stepFrom_72 : decode cX7_stepFrom 72 = .ok (.iload 7, 2) := by decide +kernel
theorem dX7_stepFrom_74 : decode cX7_stepFrom 74 = .ok (.iconst 2, 1) := by decide +kernel
theorem dX7_stepFrom_75 : decode cX7_stepFrom 75 = .ok (.idiv, 1) := by decide +kernel
theorem dX7_stepFrom_76 : decode cX7_stepFrom 76 = .ok (.iconst 1, 1) := by decide +kernel
theorem dX7_stepFrom_77 : decode cX7_stepFrom 77 = .ok (.if_icmp .ne 8, 3) := by decide +kernel
theorem dX7_stepFrom_80 : decode cX7_stepFrom 80 = .ok (.iload 8, 2) := by decide +kernel
theorem dX7_stepFrom_82 : decode cX7_stepFrom 82 = .ok (.goto 4, 3) := by decide +kernel
theorem dX7_stepFrom_85 : decode cX7_stepFrom 85 = .ok (.iconst 0, 1) := by decide +kernel
theorem dX7_stepFrom_86 : decode cX7_stepFrom 86 = .ok (.iadd, 1) := by decide +kernel
theorem dX7_stepFrom_87 : decode cX7_stepFrom 87 = .ok (.istore 10, 2) := by decide +kernel
theorem dX7_stepFrom_89 : decode cX7_stepFrom 89 = .ok (.iload 6, 2) := by decide +kernel
theorem dX7_stepFrom_91 : decode cX7_stepFrom 91 = .ok (.iload 7, 2) := by decide +kernel
theorem dX7_stepFrom_93 : decode cX7_stepFrom 93 = .ok (.iconst 2, 1) := by decide +kernel
theorem dX7_stepFrom_94 : decode cX7_stepFrom 94 = .ok (.idiv, 1) := by decide +kernel
theorem dX7_stepFrom_95 : decode cX7_stepFrom 95 = .ok (.iconst 2, 1) := by decide +kernel
theorem dX7_stepFrom_96 : decode cX7_stepFrom 96 = .ok (.if_icmp .ne 8, 3) := by decide +kernel
theorem dX7_stepFrom_99 : decode cX7_stepFrom 99 = .ok (.iload 8, 2) := by decide +kernel
theorem dX7_stepFrom_101 : decode cX7_stepFrom 101 = .ok (.goto 4, 3) := by decide +kernel
theorem dX7_stepFrom_104 : decode cX7_stepFrom 104 = .ok (.iconst 0, 1) := by decide +kernel
theorem dX7_stepFrom_105 : decode cX7_stepFrom 105 = .ok (.iadd, 1) := by decide +kernel
theorem dX7_stepFrom_106 : decode cX7_stepFrom 106 = .ok (.istore 11, 2) := by decide +kernel
theorem dX7_stepFrom_108 : decode cX7_stepFrom 108 = .ok (.aload_n 0, 1) := by decide +kernel
theorem dX7_stepFrom_109 : decode cX7_stepFrom 109 = .ok (.iload 9, 2) := by decide +kernel
theorem dX7_stepFrom_111 : decode cX7_stepFrom 111 = .ok (.iload 10, 2) := by decide +kernel
theorem dX7_stepFrom_113 : decode cX7_stepFrom 113 = .ok (.iload 11, 2) := by decide +kernel
theorem dX7_stepFrom_115 : decode cX7_stepFrom 115 = .ok (.invokevirtual 227, 3) := by decide +kernel
theorem dX7_stepFrom_118 : decode cX7_stepFrom 118 = .ok (.ifCond .ne 6, 3) := by decide +kernel
theorem dX7_stepFrom_121 : decode cX7_stepFrom 121 = .ok (.goto 57, 3) := by decide +kernel
theorem dX7_stepFrom_124 : decode cX7_stepFrom 124 = .ok (.aload_n 0, 1) := by decide +kernel
theorem dX7_stepFrom_125 : decode cX7_stepFrom 125 = .ok (.iload 9, 2) := by decide +kernel
theorem dX7_stepFrom_127 : decode cX7_stepFrom 127 = .ok (.iload 10, 2) := by decide +kernel
theorem dX7_stepFrom_129 : decode cX7_stepFrom 129 = .ok (.iload 11, 2) := by decide +kernel
theorem dX7_stepFrom_131 : decode cX7_stepFrom 131 = .ok (.invokevirtual 233, 3) := by decide +kernel
theorem dX7_stepFrom_134 : decode cX7_stepFrom 134 = .ok (.aload_n 0, 1) := by decide +kernel
theorem dX7_stepFrom_135 : decode cX7_stepFrom 135 = .ok (.invokevirtual 217, 3) := by decide +kernel
theorem dX7_stepFrom_138 : decode cX7_stepFrom 138 = .ok (.istore 12, 2) := by decide +kernel
theorem dX7_stepFrom_140 : decode cX7_stepFrom 140 = .ok (.iload 12, 2) := by decide +kernel
theorem dX7_stepFrom_142 : decode cX7_stepFrom 142 = .ok (.iload_n 2, 1) := by decide +kernel
theorem dX7_stepFrom_143 : decode cX7_stepFrom 143 = .ok (.if_icmp .lt 6, 3) := by decide +kernel
theorem dX7_stepFrom_146 : decode cX7_stepFrom 146 = .ok (.goto 32, 3) := by decide +kernel
theorem dX7_stepFrom_149 : decode cX7_stepFrom 149 = .ok (.iload 12, 2) := by decide +kernel
theorem dX7_stepFrom_151 : decode cX7_stepFrom 151 = .ok (.istore_n 2, 1) := by decide +kernel
theorem dX7_stepFrom_152 : decode cX7_stepFrom 152 = .ok (.iconst 1, 1) := by decide +kernel
theorem dX7_stepFrom_153 : decode cX7_stepFrom 153 = .ok (.istore_n 3, 1) := by decide +kernel
theorem dX7_stepFrom_154 : decode cX7_stepFrom 154 = .ok (.aload_n 0, 1) := by decide +kernel
theorem dX7_stepFrom_155 : decode cX7_stepFrom 155 = .ok (.getfield 42, 3) := by decide +kernel
theorem dX7_stepFrom_158 : decode cX7_stepFrom 158 = .ok (.iconst 0, 1) := by decide +kernel
theorem dX7_stepFrom_159 : decode cX7_stepFrom 159 = .ok (.iload 9, 2) := by decide +kernel
theorem dX7_stepFrom_161 : decode cX7_stepFrom 161 = .ok (.iastore, 1) := by decide +kernel
theorem dX7_stepFrom_162 : decode cX7_stepFrom 162 = .ok (.aload_n 0, 1) := by decide +kernel
theorem dX7_stepFrom_163 : decode cX7_stepFrom 163 = .ok (.getfield 42, 3) := by decide +kernel
theorem dX7_stepFrom_166 : decode cX7_stepFrom 166 = .ok (.iconst 1, 1) := by decide +kernel
theorem dX7_stepFrom_167 : decode cX7_stepFrom 167 = .ok (.iload 10, 2) := by decide +kernel
theorem dX7_stepFrom_169 : decode cX7_stepFrom 169 = .ok (.iastore, 1) := by decide +kernel
theorem dX7_stepFrom_170 : decode cX7_stepFrom 170 = .ok (.aload_n 0, 1) := by decide +kernel
theorem dX7_stepFrom_171 : decode cX7_stepFrom 171 = .ok (.getfield 42, 3) := by decide +kernel
theorem dX7_stepFrom_174 : decode cX7_stepFrom 174 = .ok (.iconst 2, 1) := by decide +kernel
theorem dX7_stepFrom_175 : decode cX7_stepFrom 175 = .ok (.iload 11, 2) := by decide +kernel
theorem dX7_stepFrom_177 : decode cX7_stepFrom 177 = .ok (.iastore, 1) := by decide +kernel
theorem dX7_stepFrom_178 : decode cX7_stepFrom 178 = .ok (.iinc 7 1, 3) := by decide +kernel
theorem dX7_stepFrom_181 : decode cX7_stepFrom 181 = .ok (.goto (-150), 3) := by decide +kernel
theorem dX7_stepFrom_184 : decode cX7_stepFrom 184 = .ok (.aload_n 0, 1) := by decide +kernel
theorem dX7_stepFrom_185 : decode cX7_stepFrom 185 = .ok (.iload 4, 2) := by decide +kernel
theorem dX7_stepFrom_187 : decode cX7_stepFrom 187 = .ok (.iload 5, 2) := by decide +kernel
theorem dX7_stepFrom_189 : decode cX7_stepFrom 189 = .ok (.iload 6, 2) := by decide +kernel
theorem dX7_stepFrom_191 : decode cX7_stepFrom 191 = .ok (.invokevirtual 233, 3) := by decide +kernel
theorem dX7_stepFrom_194 : decode cX7_stepFrom 194 = .ok (.iload_n 3, 1) := by decide +kernel
theorem dX7_stepFrom_195 : decode cX7_stepFrom 195 = .ok (.ifCond .eq 7, 3) := by decide +kernel
theorem dX7_stepFrom_198 : decode cX7_stepFrom 198 = .ok (.iload_n 2, 1) := by decide +kernel
theorem dX7_stepFrom_199 : decode cX7_stepFrom 199 = .ok (.goto 4, 3) := by decide +kernel
theorem dX7_stepFrom_202 : decode cX7_stepFrom 202 = .ok (.iconst (-1), 1) := by decide +kernel
theorem dX7_stepFrom_203 : decode cX7_stepFrom 203 = .ok (.ireturn, 1) := by decide +kernel
theorem dX7_climbs_0 : decode cX7_climbs 0 = .ok (.aload_n 0, 1) := by decide +kernel
theorem dX7_climbs_1 : decode cX7_climbs 1 = .ok (.iconst 0, 1) := by decide +kernel
theorem dX7_climbs_2 : decode cX7_climbs 2 = .ok (.putfield 58, 3) := by decide +kernel
theorem dX7_climbs_5 : decode cX7_climbs 5 = .ok (.aload_n 0, 1) := by decide +kernel
theorem dX7_climbs_6 : decode cX7_climbs 6 = .ok (.invokevirtual 230, 3) := by decide +kernel
theorem dX7_climbs_9 : decode cX7_climbs 9 = .ok (.aload_n 0, 1) := by decide +kernel
theorem dX7_climbs_10 : decode cX7_climbs 10 = .ok (.invokevirtual 217, 3) := by decide +kernel
theorem dX7_climbs_13 : decode cX7_climbs 13 = .ok (.istore_n 1, 1) := by decide +kernel
theorem dX7_climbs_14 : decode cX7_climbs 14 = .ok (.iconst 0, 1) := by decide +kernel
theorem dX7_climbs_15 : decode cX7_climbs 15 = .ok (.istore_n 2, 1) := by decide +kernel
theorem dX7_climbs_16 : decode cX7_climbs 16 = .ok (.aload_n 0, 1) := by decide +kernel
theorem dX7_climbs_17 : decode cX7_climbs 17 = .ok (.iload_n 1, 1) := by decide +kernel
theorem dX7_climbs_18 : decode cX7_climbs 18 = .ok (.invokevirtual 258, 3) := by decide +kernel
theorem dX7_climbs_21 : decode cX7_climbs 21 = .ok (.istore_n 3, 1) := by decide +kernel
theorem dX7_climbs_22 : decode cX7_climbs 22 = .ok (.iload_n 3, 1) := by decide +kernel
theorem dX7_climbs_23 : decode cX7_climbs 23 = .ok (.iconst (-1), 1) := by decide +kernel
theorem dX7_climbs_24 : decode cX7_climbs 24 = .ok (.if_icmp .eq 39, 3) := by decide +kernel
theorem dX7_climbs_27 : decode cX7_climbs 27 = .ok (.aload_n 0, 1) := by decide +kernel
theorem dX7_climbs_28 : decode cX7_climbs 28 = .ok (.aload_n 0, 1) := by decide +kernel
theorem dX7_climbs_29 : decode cX7_climbs 29 = .ok (.getfield 42, 3) := by decide +kernel
theorem dX7_climbs_32 : decode cX7_climbs 32 = .ok (.iconst 0, 1) := by decide +kernel
theorem dX7_climbs_33 : decode cX7_climbs 33 = .ok (.iaload, 1) := by decide +kernel
theorem dX7_climbs_34 : decode cX7_climbs 34 = .ok (.aload_n 0, 1) := by decide +kernel
theorem dX7_climbs_35 : decode cX7_climbs 35 = .ok (.getfield 42, 3) := by decide +kernel
theorem dX7_climbs_38 : decode cX7_climbs 38 = .ok (.iconst 1, 1) := by decide +kernel
theorem dX7_climbs_39 : decode cX7_climbs 39 = .ok (.iaload, 1) := by decide +kernel
theorem dX7_climbs_40 : decode cX7_climbs 40 = .ok (.aload_n 0, 1) := by decide +kernel
theorem dX7_climbs_41 : decode cX7_climbs 41 = .ok (.getfield 42, 3) := by decide +kernel
theorem dX7_climbs_44 : decode cX7_climbs 44 = .ok (.iconst 2, 1) := by decide +kernel
theorem dX7_climbs_45 : decode cX7_climbs 45 = .ok (.iaload, 1) := by decide +kernel
theorem dX7_climbs_46 : decode cX7_climbs 46 = .ok (.invokevirtual 233, 3) := by decide +kernel
theorem dX7_climbs_49 : decode cX7_climbs 49 = .ok (.iload_n 3, 1) := by decide +kernel
theorem dX7_climbs_50 : decode cX7_climbs 50 = .ok (.istore_n 1, 1) := by decide +kernel
theorem dX7_climbs_51 : decode cX7_climbs 51 = .ok (.iinc 2 1, 3) := by decide +kernel
theorem dX7_climbs_54 : decode cX7_climbs 54 = .ok (.aload_n 0, 1) := by decide +kernel
theorem dX7_climbs_55 : decode cX7_climbs 55 = .ok (.iload_n 1, 1) := by decide +kernel
theorem dX7_climbs_56 : decode cX7_climbs 56 = .ok (.invokevirtual 258, 3) := by decide +kernel
theorem dX7_climbs_59 : decode cX7_climbs 59 = .ok (.istore_n 3, 1) := by decide +kernel
theorem dX7_climbs_60 : decode cX7_climbs 60 = .ok (.goto (-38), 3) := by decide +kernel
theorem dX7_climbs_63 : decode cX7_climbs 63 = .ok (.aload_n 0, 1) := by decide +kernel
theorem dX7_climbs_64 : decode cX7_climbs 64 = .ok (.iconst 0, 1) := by decide +kernel
theorem dX7_climbs_65 : decode cX7_climbs 65 = .ok (.putfield 62, 3) := by decide +kernel
theorem dX7_climbs_68 : decode cX7_climbs 68 = .ok (.iconst 0, 1) := by decide +kernel
theorem dX7_climbs_69 : decode cX7_climbs 69 = .ok (.istore_n 3, 1) := by decide +kernel
theorem dX7_climbs_70 : decode cX7_climbs 70 = .ok (.iload_n 3, 1) := by decide +kernel
theorem dX7_climbs_71 : decode cX7_climbs 71 = .ok (.iconst 3, 1) := by decide +kernel
theorem dX7_climbs_72 : decode cX7_climbs 72 = .ok (.if_icmp .ge 22, 3) := by decide +kernel
theorem dX7_climbs_75 : decode cX7_climbs 75 = .ok (.aload_n 0, 1) := by decide +kernel
theorem dX7_climbs_76 : decode cX7_climbs 76 = .ok (.aload_n 0, 1) := by decide +kernel
theorem dX7_climbs_77 : decode cX7_climbs 77 = .ok (.getfield 9, 3) := by decide +kernel
theorem dX7_climbs_80 : decode cX7_climbs 80 = .ok (.iconst 2, 1) := by decide +kernel
theorem dX7_climbs_81 : decode cX7_climbs 81 = .ok (.iload_n 3, 1) := by decide +kernel
theorem dX7_climbs_82 : decode cX7_climbs 82 = .ok (.iadd, 1) := by decide +kernel
theorem dX7_climbs_83 : decode cX7_climbs 83 = .ok (.iaload, 1) := by decide +kernel
theorem dX7_climbs_84 : decode cX7_climbs 84 = .ok (.i2l, 1) := by decide +kernel
theorem dX7_climbs_85 : decode cX7_climbs 85 = .ok (.invokevirtual 135, 3) := by decide +kernel
theorem dX7_climbs_88 : decode cX7_climbs 88 = .ok (.iinc 3 1, 3) := by decide +kernel
theorem dX7_climbs_91 : decode cX7_climbs 91 = .ok (.goto (-21), 3) := by decide +kernel
theorem dX7_climbs_94 : decode cX7_climbs 94 = .ok (.aload_n 0, 1) := by decide +kernel
theorem dX7_climbs_95 : decode cX7_climbs 95 = .ok (.iload_n 1, 1) := by decide +kernel
theorem dX7_climbs_96 : decode cX7_climbs 96 = .ok (.i2l, 1) := by decide +kernel
theorem dX7_climbs_97 : decode cX7_climbs 97 = .ok (.invokevirtual 135, 3) := by decide +kernel
theorem dX7_climbs_100 : decode cX7_climbs 100 = .ok (.aload_n 0, 1) := by decide +kernel
theorem dX7_climbs_101 : decode cX7_climbs 101 = .ok (.invokevirtual 237, 3) := by decide +kernel
theorem dX7_climbs_104 : decode cX7_climbs 104 = .ok (.iload_n 2, 1) := by decide +kernel
theorem dX7_climbs_105 : decode cX7_climbs 105 = .ok (.ireturn, 1) := by decide +kernel
theorem dX7_leastBy_0 : decode cX7_leastBy 0 = .ok (.aload_n 0, 1) := by decide +kernel
theorem dX7_leastBy_1 : decode cX7_leastBy 1 = .ok (.invokevirtual 230, 3) := by decide +kernel
theorem dX7_leastBy_4 : decode cX7_leastBy 4 = .ok (.iload_n 2, 1) := by decide +kernel
theorem dX7_leastBy_5 : decode cX7_leastBy 5 = .ok (.istore 5, 2) := by decide +kernel
theorem dX7_leastBy_7 : decode cX7_leastBy 7 = .ok (.iconst 0, 1) := by decide +kernel
theorem dX7_leastBy_8 : decode cX7_leastBy 8 = .ok (.istore 6, 2) := by decide +kernel
theorem dX7_leastBy_10 : decode cX7_leastBy 10 = .ok (.iload 5, 2) := by decide +kernel
theorem dX7_leastBy_12 : decode cX7_leastBy 12 = .ok (.iload_n 3, 1) := by decide +kernel
theorem dX7_leastBy_13 : decode cX7_leastBy 13 = .ok (.if_icmp .gt 76, 3) := by decide +kernel
theorem dX7_leastBy_16 : decode cX7_leastBy 16 = .ok (.iload 6, 2) := by decide +kernel
theorem dX7_leastBy_18 : decode cX7_leastBy 18 = .ok (.ifCond .ne 71, 3) := by decide +kernel
theorem dX7_leastBy_21 : decode cX7_leastBy 21 = .ok (.aload_n 0, 1) := by decide +kernel
theorem dX7_leastBy_22 : decode cX7_leastBy 22 = .ok (.getfield 9, 3) := by decide +kernel
theorem dX7_leastBy_25 : decode cX7_leastBy 25 = .ok (.iload_n 1, 1) := by decide +kernel
theorem dX7_leastBy_26 : decode cX7_leastBy 26 = .ok (.iload 5, 2) := by decide +kernel
theorem dX7_leastBy_28 : decode cX7_leastBy 28 = .ok (.iastore, 1) := by decide +kernel
theorem dX7_leastBy_29 : decode cX7_leastBy 29 = .ok (.aload_n 0, 1) := by decide +kernel
theorem dX7_leastBy_30 : decode cX7_leastBy 30 = .ok (.aload_n 0, 1) := by decide +kernel
theorem dX7_leastBy_31 : decode cX7_leastBy 31 = .ok (.getfield 9, 3) := by decide +kernel
theorem dX7_leastBy_34 : decode cX7_leastBy 34 = .ok (.iconst 2, 1) := by decide +kernel
theorem dX7_leastBy_35 : decode cX7_leastBy 35 = .ok (.iaload, 1) := by decide +kernel
theorem dX7_leastBy_36 : decode cX7_leastBy 36 = .ok (.aload_n 0, 1) := by decide +kernel
theorem dX7_leastBy_37 : decode cX7_leastBy 37 = .ok (.getfield 9, 3) := by decide +kernel
theorem dX7_leastBy_40 : decode cX7_leastBy 40 = .ok (.iconst 3, 1) := by decide +kernel
theorem dX7_leastBy_41 : decode cX7_leastBy 41 = .ok (.iaload, 1) := by decide +kernel
theorem dX7_leastBy_42 : decode cX7_leastBy 42 = .ok (.aload_n 0, 1) := by decide +kernel
theorem dX7_leastBy_43 : decode cX7_leastBy 43 = .ok (.getfield 9, 3) := by decide +kernel
theorem dX7_leastBy_46 : decode cX7_leastBy 46 = .ok (.iconst 4, 1) := by decide +kernel
theorem dX7_leastBy_47 : decode cX7_leastBy 47 = .ok (.iaload, 1) := by decide +kernel
theorem dX7_leastBy_48 : decode cX7_leastBy 48 = .ok (.invokevirtual 227, 3) := by decide +kernel
theorem dX7_leastBy_51 : decode cX7_leastBy 51 = .ok (.istore 6, 2) := by decide +kernel
theorem dX7_leastBy_53 : decode cX7_leastBy 53 = .ok (.iload 6, 2) := by decide +kernel
theorem dX7_leastBy_55 : decode cX7_leastBy 55 = .ok (.ifCond .eq 7, 3) := by decide +kernel
theorem dX7_leastBy_58 : decode cX7_leastBy 58 = .ok (.aload_n 0, 1) := by decide +kernel
theorem dX7_leastBy_59 : decode cX7_leastBy 59 = .ok (.invokevirtual 164, 3) := by decide +kernel
theorem dX7_leastBy_62 : decode cX7_leastBy 62 = .ok (.iload 6, 2) := by decide +kernel
theorem dX7_leastBy_64 : decode cX7_leastBy 64 = .ok (.ifCond .eq 16, 3) := by decide +kernel
theorem dX7_leastBy_67 : decode cX7_leastBy 67 = .ok (.aload_n 0, 1) := by decide +kernel
theorem dX7_leastBy_68 : decode cX7_leastBy 68 = .ok (.getfield 154, 3) := by decide +kernel
theorem dX7_leastBy_71 : decode cX7_leastBy 71 = .ok (.iload 4, 2) := by decide +kernel
theorem dX7_leastBy_73 : decode cX7_leastBy 73 = .ok (.if_icmp .gt 7, 3) := by decide +kernel
theorem dX7_leastBy_76 : decode cX7_leastBy 76 = .ok (.iconst 1, 1) := by decide +kernel
theorem dX7_leastBy_77 : decode cX7_leastBy 77 = .ok (.goto 4, 3) := by decide +kernel
theorem dX7_leastBy_80 : decode cX7_leastBy 80 = .ok (.iconst 0, 1) := by decide +kernel
theorem dX7_leastBy_81 : decode cX7_leastBy 81 = .ok (.istore 6, 2) := by decide +kernel
theorem dX7_leastBy_83 : decode cX7_leastBy 83 = .ok (.iinc 5 1, 3) := by decide +kernel
theorem dX7_leastBy_86 : decode cX7_leastBy 86 = .ok (.goto (-76), 3) := by decide +kernel
theorem dX7_leastBy_89 : decode cX7_leastBy 89 = .ok (.aload_n 0, 1) := by decide +kernel
theorem dX7_leastBy_90 : decode cX7_leastBy 90 = .ok (.invokevirtual 237, 3) := by decide +kernel
theorem dX7_leastBy_93 : decode cX7_leastBy 93 = .ok (.iload 6, 2) := by decide +kernel
theorem dX7_leastBy_95 : decode cX7_leastBy 95 = .ok (.ifCond .ne 6, 3) := by decide +kernel
theorem dX7_leastBy_98 : decode cX7_leastBy 98 = .ok (.bipush (-2), 2) := by decide +kernel
theorem dX7_leastBy_100 : decode cX7_leastBy 100 = .ok (.ireturn, 1) := by decide +kernel
theorem dX7_leastBy_101 : decode cX7_leastBy 101 = .ok (.aload_n 0, 1) := by decide +kernel
theorem dX7_leastBy_102 : decode cX7_leastBy 102 = .ok (.iconst 0, 1) := by decide +kernel
theorem dX7_leastBy_103 : decode cX7_leastBy 103 = .ok (.putfield 62, 3) := by decide +kernel
theorem dX7_leastBy_106 : decode cX7_leastBy 106 = .ok (.aload_n 0, 1) := by decide +kernel
theorem dX7_leastBy_107 : decode cX7_leastBy 107 = .ok (.aload_n 0, 1) := by decide +kernel
theorem dX7_leastBy_108 : decode cX7_leastBy 108 = .ok (.getfield 154, 3) := by decide +kernel
theorem dX7_leastBy_111 : decode cX7_leastBy 111 = .ok (.i2l, 1) := by decide +kernel
theorem dX7_leastBy_112 : decode cX7_leastBy 112 = .ok (.invokevirtual 135, 3) := by decide +kernel
theorem dX7_leastBy_115 : decode cX7_leastBy 115 = .ok (.iload 5, 2) := by decide +kernel
theorem dX7_leastBy_117 : decode cX7_leastBy 117 = .ok (.iconst 1, 1) := by decide +kernel
theorem dX7_leastBy_118 : decode cX7_leastBy 118 = .ok (.isub, 1) := by decide +kernel
theorem dX7_leastBy_119 : decode cX7_leastBy 119 = .ok (.ireturn, 1) := by decide +kernel
theorem dX7_narrow_0 : decode cX7_narrow 0 = .ok (.aload_n 0, 1) := by decide +kernel
theorem dX7_narrow_1 : decode cX7_narrow 1 = .ok (.iconst 0, 1) := by decide +kernel
theorem dX7_narrow_2 : decode cX7_narrow 2 = .ok (.putfield 58, 3) := by decide +kernel
theorem dX7_narrow_5 : decode cX7_narrow 5 = .ok (.iload_n 1, 1) := by decide +kernel
theorem dX7_narrow_6 : decode cX7_narrow 6 = .ok (.iconst 1, 1) := by decide +kernel
theorem dX7_narrow_7 : decode cX7_narrow 7 = .ok (.bipush 9, 2) := by decide +kernel
theorem dX7_narrow_9 : decode cX7_narrow 9 = .ok (.invokestatic 65, 3) := by decide +kernel
theorem dX7_narrow_12 : decode cX7_narrow 12 = .ok (.ifCond .eq 16, 3) := by decide +kernel
theorem dX7_narrow_15 : decode cX7_narrow 15 = .ok (.aload_n 0, 1) := by decide +kernel
theorem dX7_narrow_16 : decode cX7_narrow 16 = .ok (.iconst 0, 1) := by decide +kernel
theorem dX7_narrow_17 : decode cX7_narrow 17 = .ok (.bipush 29, 2) := by decide +kernel
theorem dX7_narrow_19 : decode cX7_narrow 19 = .ok (.bipush 60, 2) := by decide +kernel
theorem dX7_narrow_21 : decode cX7_narrow 21 = .ok (.iload_n 1, 1) := by decide +kernel
theorem dX7_narrow_22 : decode cX7_narrow 22 = .ok (.invokevirtual 261, 3) := by decide +kernel
