theorem dX6_ends_25 : decode cX6_ends 25 = .ok (.getfield 22, 3) := by decide +kernel
theorem dX6_ends_28 : decode cX6_ends 28 = .ok (.getfield 170, 3) := by decide +kernel
theorem dX6_ends_31 : decode cX6_ends 31 = .ok (.iload_n 1, 1) := by decide +kernel
theorem dX6_ends_32 : decode cX6_ends 32 = .ok (.iaload, 1) := by decide +kernel
theorem dX6_ends_33 : decode cX6_ends 33 = .ok (.i2l, 1) := by decide +kernel
theorem dX6_ends_34 : decode cX6_ends 34 = .ok (.aload_n 0, 1) := by decide +kernel
theorem dX6_ends_35 : decode cX6_ends 35 = .ok (.getfield 22, 3) := by decide +kernel
theorem dX6_ends_38 : decode cX6_ends 38 = .ok (.getfield 174, 3) := by decide +kernel
theorem dX6_ends_41 : decode cX6_ends 41 = .ok (.iload_n 1, 1) := by decide +kernel
theorem dX6_ends_42 : decode cX6_ends 42 = .ok (.iaload, 1) := by decide +kernel
theorem dX6_ends_43 : decode cX6_ends 43 = .ok (.i2l, 1) := by decide +kernel
theorem dX6_ends_44 : decode cX6_ends 44 = .ok (.invokevirtual 105, 3) := by decide +kernel
theorem dX6_ends_47 : decode cX6_ends 47 = .ok (.aload_n 0, 1) := by decide +kernel
theorem dX6_ends_48 : decode cX6_ends 48 = .ok (.getfield 22, 3) := by decide +kernel
theorem dX6_ends_51 : decode cX6_ends 51 = .ok (.aload_n 0, 1) := by decide +kernel
theorem dX6_ends_52 : decode cX6_ends 52 = .ok (.getfield 12, 3) := by decide +kernel
theorem dX6_ends_55 : decode cX6_ends 55 = .ok (.iload_n 1, 1) := by decide +kernel
theorem dX6_ends_56 : decode cX6_ends 56 = .ok (.invokevirtual 177, 3) := by decide +kernel
theorem dX6_ends_59 : decode cX6_ends 59 = .ok (.ireturn, 1) := by decide +kernel
theorem dX6_apart_0 : decode cX6_apart 0 = .ok (.aload_n 0, 1) := by decide +kernel
theorem dX6_apart_1 : decode cX6_apart 1 = .ok (.getfield 22, 3) := by decide +kernel
theorem dX6_apart_4 : decode cX6_apart 4 = .ok (.aload_n 0, 1) := by decide +kernel
theorem dX6_apart_5 : decode cX6_apart 5 = .ok (.getfield 12, 3) := by decide +kernel
theorem dX6_apart_8 : decode cX6_apart 8 = .ok (.invokevirtual 113, 3) := by decide +kernel
theorem dX6_apart_11 : decode cX6_apart 11 = .ok (.aload_n 0, 1) := by decide +kernel
theorem dX6_apart_12 : decode cX6_apart 12 = .ok (.getfield 58, 3) := by decide +kernel
theorem dX6_apart_15 : decode cX6_apart 15 = .ok (.aload_n 0, 1) := by decide +kernel
theorem dX6_apart_16 : decode cX6_apart 16 = .ok (.getfield 22, 3) := by decide +kernel
theorem dX6_apart_19 : decode cX6_apart 19 = .ok (.aload_n 0, 1) := by decide +kernel
theorem dX6_apart_20 : decode cX6_apart 20 = .ok (.getfield 12, 3) := by decide +kernel
theorem dX6_apart_23 : decode cX6_apart 23 = .ok (.invokevirtual 181, 3) := by decide +kernel
theorem dX6_apart_26 : decode cX6_apart 26 = .ok (.i2l, 1) := by decide +kernel
theorem dX6_apart_27 : decode cX6_apart 27 = .ok (.aload_n 0, 1) := by decide +kernel
theorem dX6_apart_28 : decode cX6_apart 28 = .ok (.getfield 22, 3) := by decide +kernel
theorem dX6_apart_31 : decode cX6_apart 31 = .ok (.aload_n 0, 1) := by decide +kernel
theorem dX6_apart_32 : decode cX6_apart 32 = .ok (.getfield 12, 3) := by decide +kernel
theorem dX6_apart_35 : decode cX6_apart 35 = .ok (.invokevirtual 184, 3) := by decide +kernel
theorem dX6_apart_38 : decode cX6_apart 38 = .ok (.i2l, 1) := by decide +kernel
theorem dX6_apart_39 : decode cX6_apart 39 = .ok (.invokevirtual 105, 3) := by decide +kernel
theorem dX6_apart_42 : decode cX6_apart 42 = .ok (.aload_n 0, 1) := by decide +kernel
theorem dX6_apart_43 : decode cX6_apart 43 = .ok (.getfield 22, 3) := by decide +kernel
theorem dX6_apart_46 : decode cX6_apart 46 = .ok (.aload_n 0, 1) := by decide +kernel
theorem dX6_apart_47 : decode cX6_apart 47 = .ok (.getfield 12, 3) := by decide +kernel
theorem dX6_apart_50 : decode cX6_apart 50 = .ok (.invokevirtual 187, 3) := by decide +kernel
theorem dX6_apart_53 : decode cX6_apart 53 = .ok (.ireturn, 1) := by decide +kernel
theorem dX6_ragged_0 : decode cX6_ragged 0 = .ok (.aload_n 0, 1) := by decide +kernel
theorem dX6_ragged_1 : decode cX6_ragged 1 = .ok (.getfield 22, 3) := by decide +kernel
theorem dX6_ragged_4 : decode cX6_ragged 4 = .ok (.aload_n 0, 1) := by decide +kernel
theorem dX6_ragged_5 : decode cX6_ragged 5 = .ok (.getfield 12, 3) := by decide +kernel
theorem dX6_ragged_8 : decode cX6_ragged 8 = .ok (.invokevirtual 113, 3) := by decide +kernel
theorem dX6_ragged_11 : decode cX6_ragged 11 = .ok (.iconst 0, 1) := by decide +kernel
theorem dX6_ragged_12 : decode cX6_ragged 12 = .ok (.istore_n 1, 1) := by decide +kernel
theorem dX6_ragged_13 : decode cX6_ragged 13 = .ok (.iconst 0, 1) := by decide +kernel
theorem dX6_ragged_14 : decode cX6_ragged 14 = .ok (.istore_n 2, 1) := by decide +kernel
theorem dX6_ragged_15 : decode cX6_ragged 15 = .ok (.iconst 0, 1) := by decide +kernel
theorem dX6_ragged_16 : decode cX6_ragged 16 = .ok (.istore_n 3, 1) := by decide +kernel
theorem dX6_ragged_17 : decode cX6_ragged 17 = .ok (.iconst 0, 1) := by decide +kernel
theorem dX6_ragged_18 : decode cX6_ragged 18 = .ok (.istore 4, 2) := by decide +kernel
theorem dX6_ragged_20 : decode cX6_ragged 20 = .ok (.iload 4, 2) := by decide +kernel
theorem dX6_ragged_22 : decode cX6_ragged 22 = .ok (.aload_n 0, 1) := by decide +kernel
theorem dX6_ragged_23 : decode cX6_ragged 23 = .ok (.getfield 22, 3) := by decide +kernel
theorem dX6_ragged_26 : decode cX6_ragged 26 = .ok (.getfield 120, 3) := by decide +kernel
theorem dX6_ragged_29 : decode cX6_ragged 29 = .ok (.if_icmp .ge 75, 3) := by decide +kernel
theorem dX6_ragged_32 : decode cX6_ragged 32 = .ok (.iconst 0, 1) := by decide +kernel
theorem dX6_ragged_33 : decode cX6_ragged 33 = .ok (.istore 5, 2) := by decide +kernel
theorem dX6_ragged_35 : decode cX6_ragged 35 = .ok (.iload 5, 2) := by decide +kernel
theorem dX6_ragged_37 : decode cX6_ragged 37 = .ok (.iconst 3, 1) := by decide +kernel
theorem dX6_ragged_38 : decode cX6_ragged 38 = .ok (.if_icmp .ge 60, 3) := by decide +kernel
theorem dX6_ragged_41 : decode cX6_ragged 41 = .ok (.aload_n 0, 1) := by decide +kernel
theorem dX6_ragged_42 : decode cX6_ragged 42 = .ok (.getfield 22, 3) := by decide +kernel
theorem dX6_ragged_45 : decode cX6_ragged 45 = .ok (.iload 5, 2) := by decide +kernel
theorem dX6_ragged_47 : decode cX6_ragged 47 = .ok (.iload 4, 2) := by decide +kernel
theorem dX6_ragged_49 : decode cX6_ragged 49 = .ok (.invokevirtual 133, 3) := by decide +kernel
theorem dX6_ragged_52 : decode cX6_ragged 52 = .ok (.ifCond .le 40, 3) := by decide +kernel
theorem dX6_ragged_55 : decode cX6_ragged 55 = .ok (.aload_n 0, 1) := by decide +kernel
theorem dX6_ragged_56 : decode cX6_ragged 56 = .ok (.getfield 22, 3) := by decide +kernel
theorem dX6_ragged_59 : decode cX6_ragged 59 = .ok (.getfield 146, 3) := by decide +kernel
theorem dX6_ragged_62 : decode cX6_ragged 62 = .ok (.iload 5, 2) := by decide +kernel
theorem dX6_ragged_64 : decode cX6_ragged 64 = .ok (.aaload, 1) := by decide +kernel
theorem dX6_ragged_65 : decode cX6_ragged 65 = .ok (.iload 4, 2) := by decide +kernel
theorem dX6_ragged_67 : decode cX6_ragged 67 = .ok (.iaload, 1) := by decide +kernel
theorem dX6_ragged_68 : decode cX6_ragged 68 = .ok (.iload_n 1, 1) := by decide +kernel
theorem dX6_ragged_69 : decode cX6_ragged 69 = .ok (.if_icmp .le 23, 3) := by decide +kernel
theorem dX6_ragged_72 : decode cX6_ragged 72 = .ok (.aload_n 0, 1) := by decide +kernel
theorem dX6_ragged_73 : decode cX6_ragged 73 = .ok (.getfield 22, 3) := by decide +kernel
theorem dX6_ragged_76 : decode cX6_ragged 76 = .ok (.getfield 146, 3) := by decide +kernel
theorem dX6_ragged_79 : decode cX6_ragged 79 = .ok (.iload 5, 2) := by decide +kernel
theorem dX6_ragged_81 : decode cX6_ragged 81 = .ok (.aaload, 1) := by decide +kernel
theorem dX6_ragged_82 : decode cX6_ragged 82 = .ok (.iload 4, 2) := by decide +kernel
theorem dX6_ragged_84 : decode cX6_ragged 84 = .ok (.iaload, 1) := by decide +kernel
theorem dX6_ragged_85 : decode cX6_ragged 85 = .ok (.istore_n 1, 1) := by decide +kernel
theorem dX6_ragged_86 : decode cX6_ragged 86 = .ok (.iload 4, 2) := by decide +kernel
theorem dX6_ragged_88 : decode cX6_ragged 88 = .ok (.istore_n 2, 1) := by decide +kernel
theorem dX6_ragged_89 : decode cX6_ragged 89 = .ok (.iload 5, 2) := by decide +kernel
theorem dX6_ragged_91 : decode cX6_ragged 91 = .ok (.istore_n 3, 1) := by decide +kernel
theorem dX6_ragged_92 : decode cX6_ragged 92 = .ok (.iinc 5 1, 3) := by decide +kernel
theorem dX6_ragged_95 : decode cX6_ragged 95 = .ok (.goto (-60), 3) := by decide +kernel
theorem dX6_ragged_98 : decode cX6_ragged 98 = .ok (.iinc 4 1, 3) := by decide +kernel
theorem dX6_ragged_101 : decode cX6_ragged 101 = .ok (.goto (-81), 3) := by decide +kernel
theorem dX6_ragged_104 : decode cX6_ragged 104 = .ok (.aload_n 0, 1) := by decide +kernel
theorem dX6_ragged_105 : decode cX6_ragged 105 = .ok (.getfield 12, 3) := by decide +kernel
theorem dX6_ragged_108 : decode cX6_ragged 108 = .ok (.iload_n 2, 1) := by decide +kernel
theorem dX6_ragged_109 : decode cX6_ragged 109 = .ok (.invokevirtual 158, 3) := by decide +kernel
theorem dX6_ragged_112 : decode cX6_ragged 112 = .ok (.istore 4, 2) := by decide +kernel
theorem dX6_ragged_114 : decode cX6_ragged 114 = .ok (.aload_n 0, 1) := by decide +kernel
theorem dX6_ragged_115 : decode cX6_ragged 115 = .ok (.getfield 58, 3) := by decide +kernel
theorem dX6_ragged_118 : decode cX6_ragged 118 = .ok (.iload_n 1, 1) := by decide +kernel
theorem dX6_ragged_119 : decode cX6_ragged 119 = .ok (.i2l, 1) := by decide +kernel
theorem dX6_ragged_120 : decode cX6_ragged 120 = .ok (.iload 4, 2) := by decide +kernel
theorem dX6_ragged_122 : decode cX6_ragged 122 = .ok (.i2l, 1) := by decide +kernel
theorem dX6_ragged_123 : decode cX6_ragged 123 = .ok (.iload_n 2, 1) := by decide +kernel
theorem dX6_ragged_124 : decode cX6_ragged 124 = .ok (.iload 4, 2) := by decide +kernel
theorem dX6_ragged_126 : decode cX6_ragged 126 = .ok (.aload_n 0, 1) := by decide +kernel
theorem dX6_ragged_127 : decode cX6_ragged 127 = .ok (.getfield 12, 3) := by decide +kernel
theorem dX6_ragged_130 : decode cX6_ragged 130 = .ok (.getfield 123, 3) := by decide +kernel
theorem dX6_ragged_133 : decode cX6_ragged 133 = .ok (.imul, 1) := by decide +kernel
theorem dX6_ragged_134 : decode cX6_ragged 134 = .ok (.isub, 1) := by decide +kernel
theorem dX6_ragged_135 : decode cX6_ragged 135 = .ok (.i2l, 1) := by decide +kernel
theorem dX6_ragged_136 : decode cX6_ragged 136 = .ok (.iload_n 3, 1) := by decide +kernel
theorem dX6_ragged_137 : decode cX6_ragged 137 = .ok (.i2l, 1) := by decide +kernel
theorem dX6_ragged_138 : decode cX6_ragged 138 = .ok (.invokevirtual 149, 3) := by decide +kernel
theorem dX6_ragged_141 : decode cX6_ragged 141 = .ok (.aload_n 0, 1) := by decide +kernel
theorem dX6_ragged_142 : decode cX6_ragged 142 = .ok (.getfield 22, 3) := by decide +kernel
theorem dX6_ragged_145 : decode cX6_ragged 145 = .ok (.invokevirtual 190, 3) := by decide +kernel
theorem dX6_ragged_148 : decode cX6_ragged 148 = .ok (.ireturn, 1) := by decide +kernel
theorem dX6_cost_0 : decode cX6_cost 0 = .ok (.aload_n 0, 1) := by decide +kernel
theorem dX6_cost_1 : decode cX6_cost 1 = .ok (.getfield 22, 3) := by decide +kernel
theorem dX6_cost_4 : decode cX6_cost 4 = .ok (.aload_n 0, 1) := by decide +kernel
theorem dX6_cost_5 : decode cX6_cost 5 = .ok (.getfield 12, 3) := by decide +kernel
theorem dX6_cost_8 : decode cX6_cost 8 = .ok (.invokevirtual 113, 3) := by decide +kernel
theorem dX6_cost_11 : decode cX6_cost 11 = .ok (.aload_n 0, 1) := by decide +kernel
theorem dX6_cost_12 : decode cX6_cost 12 = .ok (.getfield 58, 3) := by decide +kernel
theorem dX6_cost_15 : decode cX6_cost 15 = .ok (.aload_n 0, 1) := by decide +kernel
theorem dX6_cost_16 : decode cX6_cost 16 = .ok (.getfield 22, 3) := by decide +kernel
theorem dX6_cost_19 : decode cX6_cost 19 = .ok (.aload_n 0, 1) := by decide +kernel
theorem dX6_cost_20 : decode cX6_cost 20 = .ok (.getfield 12, 3) := by decide +kernel
theorem dX6_cost_23 : decode cX6_cost 23 = .ok (.invokevirtual 187, 3) := by decide +kernel
theorem dX6_cost_26 : decode cX6_cost 26 = .ok (.i2l, 1) := by decide +kernel
theorem dX6_cost_27 : decode cX6_cost 27 = .ok (.aload_n 0, 1) := by decide +kernel
theorem dX6_cost_28 : decode cX6_cost 28 = .ok (.getfield 22, 3) := by decide +kernel
theorem dX6_cost_31 : decode cX6_cost 31 = .ok (.aload_n 0, 1) := by decide +kernel
theorem dX6_cost_32 : decode cX6_cost 32 = .ok (.getfield 12, 3) := by decide +kernel
theorem dX6_cost_35 : decode cX6_cost 35 = .ok (.invokevirtual 193, 3) := by decide +kernel
theorem dX6_cost_38 : decode cX6_cost 38 = .ok (.i2l, 1) := by decide +kernel
theorem dX6_cost_39 : decode cX6_cost 39 = .ok (.aload_n 0, 1) := by decide +kernel
theorem dX6_cost_40 : decode cX6_cost 40 = .ok (.getfield 22, 3) := by decide +kernel
theorem dX6_cost_43 : decode cX6_cost 43 = .ok (.invokevirtual 190, 3) := by decide +kernel
theorem dX6_cost_46 : decode cX6_cost 46 = .ok (.i2l, 1) := by decide +kernel
theorem dX6_cost_47 : decode cX6_cost 47 = .ok (.invokevirtual 196, 3) := by decide +kernel
theorem dX6_cost_50 : decode cX6_cost 50 = .ok (.aload_n 0, 1) := by decide +kernel
theorem dX6_cost_51 : decode cX6_cost 51 = .ok (.getfield 22, 3) := by decide +kernel
theorem dX6_cost_54 : decode cX6_cost 54 = .ok (.aload_n 0, 1) := by decide +kernel
theorem dX6_cost_55 : decode cX6_cost 55 = .ok (.getfield 12, 3) := by decide +kernel
theorem dX6_cost_58 : decode cX6_cost 58 = .ok (.invokevirtual 199, 3) := by decide +kernel
theorem dX6_cost_61 : decode cX6_cost 61 = .ok (.ireturn, 1) := by decide +kernel
theorem dX6_line_0 : decode cX6_line 0 = .ok (.aload_n 0, 1) := by decide +kernel
theorem dX6_line_1 : decode cX6_line 1 = .ok (.iload_n 1, 1) := by decide +kernel
theorem dX6_line_2 : decode cX6_line 2 = .ok (.iload_n 2, 1) := by decide +kernel
theorem dX6_line_3 : decode cX6_line 3 = .ok (.invokevirtual 129, 3) := by decide +kernel
theorem dX6_line_6 : decode cX6_line 6 = .ok (.istore_n 3, 1) := by decide +kernel
theorem dX6_line_7 : decode cX6_line 7 = .ok (.iload_n 3, 1) := by decide +kernel
theorem dX6_line_8 : decode cX6_line 8 = .ok (.ifCond .ge 5, 3) := by decide +kernel
theorem dX6_line_11 : decode cX6_line 11 = .ok (.iconst (-1), 1) := by decide +kernel
theorem dX6_line_12 : decode cX6_line 12 = .ok (.ireturn, 1) := by decide +kernel
theorem dX6_line_13 : decode cX6_line 13 = .ok (.aload_n 0, 1) := by decide +kernel
theorem dX6_line_14 : decode cX6_line 14 = .ok (.getfield 58, 3) := by decide +kernel
theorem dX6_line_17 : decode cX6_line 17 = .ok (.aload_n 0, 1) := by decide +kernel
theorem dX6_line_18 : decode cX6_line 18 = .ok (.getfield 12, 3) := by decide +kernel
theorem dX6_line_21 : decode cX6_line 21 = .ok (.getfield 168, 3) := by decide +kernel
theorem dX6_line_24 : decode cX6_line 24 = .ok (.invokevirtual 202, 3) := by decide +kernel
theorem dX6_line_27 : decode cX6_line 27 = .ok (.iconst 0, 1) := by decide +kernel
theorem dX6_line_28 : decode cX6_line 28 = .ok (.istore 4, 2) := by decide +kernel
theorem dX6_line_30 : decode cX6_line 30 = .ok (.iconst 0, 1) := by decide +kernel
theorem dX6_line_31 : decode cX6_line 31 = .ok (.istore 5, 2) := by decide +kernel
theorem dX6_line_33 : decode cX6_line 33 = .ok (.iload 5, 2) := by decide +kernel
theorem dX6_line_35 : decode cX6_line 35 = .ok (.iconst 3, 1) := by decide +kernel
theorem dX6_line_36 : decode cX6_line 36 = .ok (.if_icmp .ge 111, 3) := by decide +kernel
theorem dX6_line_39 : decode cX6_line 39 = .ok (.aload_n 0, 1) := by decide +kernel
theorem dX6_line_40 : decode cX6_line 40 = .ok (.getfield 22, 3) := by decide +kernel
theorem dX6_line_43 : decode cX6_line 43 = .ok (.iload 5, 2) := by decide +kernel
theorem dX6_line_45 : decode cX6_line 45 = .ok (.iload_n 3, 1) := by decide +kernel
theorem dX6_line_46 : decode cX6_line 46 = .ok (.invokevirtual 133, 3) := by decide +kernel
theorem dX6_line_49 : decode cX6_line 49 = .ok (.istore 6, 2) := by decide +kernel
theorem dX6_line_51 : decode cX6_line 51 = .ok (.iconst 0, 1) := by decide +kernel
theorem dX6_line_52 : decode cX6_line 52 = .ok (.istore 7, 2) := by decide +kernel
theorem dX6_line_54 : decode cX6_line 54 = .ok (.iload 7, 2) := by decide +kernel
theorem dX6_line_56 : decode cX6_line 56 = .ok (.iload 6, 2) := by decide +kernel
theorem dX6_line_58 : decode cX6_line 58 = .ok (.if_icmp .ge 83, 3) := by decide +kernel
theorem dX6_line_61 : decode cX6_line 61 = .ok (.aload_n 0, 1) := by decide +kernel
theorem dX6_line_62 : decode cX6_line 62 = .ok (.getfield 22, 3) := by decide +kernel
theorem dX6_line_65 : decode cX6_line 65 = .ok (.getfield 136, 3) := by decide +kernel
theorem dX6_line_68 : decode cX6_line 68 = .ok (.iload 5, 2) := by decide +kernel
theorem dX6_line_70 : decode cX6_line 70 = .ok (.aaload, 1) := by decide +kernel
theorem dX6_line_71 : decode cX6_line 71 = .ok (.iload_n 3, 1) := by decide +kernel
theorem dX6_line_72 : decode cX6_line 72 = .ok (.iaload, 1) := by decide +kernel
theorem dX6_line_73 : decode cX6_line 73 = .ok (.iload 7, 2) := by decide +kernel
theorem dX6_line_75 : decode cX6_line 75 = .ok (.iadd, 1) := by decide +kernel
theorem dX6_line_76 : decode cX6_line 76 = .ok (.istore 8, 2) := by decide +kernel
theorem dX6_line_78 : decode cX6_line 78 = .ok (.aload_n 0, 1) := by decide +kernel
theorem dX6_line_79 : decode cX6_line 79 = .ok (.getfield 58, 3) := by decide +kernel
theorem dX6_line_82 : decode cX6_line 82 = .ok (.aload_n 0, 1) := by decide +kernel
theorem dX6_line_83 : decode cX6_line 83 = .ok (.getfield 22, 3) := by decide +kernel
theorem dX6_line_86 : decode cX6_line 86 = .ok (.aload_n 0, 1) := by decide +kernel
theorem dX6_line_87 : decode cX6_line 87 = .ok (.getfield 12, 3) := by decide +kernel
theorem dX6_line_90 : decode cX6_line 90 = .ok (.iload 5, 2) := by decide +kernel
theorem dX6_line_92 : decode cX6_line 92 = .ok (.iload 8, 2) := by decide +kernel
theorem dX6_line_94 : decode cX6_line 94 = .ok (.invokevirtual 161, 3) := by decide +kernel
theorem dX6_line_97 : decode cX6_line 97 = .ok (.aload_n 0, 1) := by decide +kernel
theorem dX6_line_98 : decode cX6_line 98 = .ok (.getfield 12, 3) := by decide +kernel
theorem dX6_line_101 : decode cX6_line 101 = .ok (.getfield 165, 3) := by decide +kernel
theorem dX6_line_104 : decode cX6_line 104 = .ok (.iload 5, 2) := by decide +kernel
theorem dX6_line_106 : decode cX6_line 106 = .ok (.aaload, 1) := by decide +kernel
theorem dX6_line_107 : decode cX6_line 107 = .ok (.iload 8, 2) := by decide +kernel
theorem dX6_line_109 : decode cX6_line 109 = .ok (.iaload, 1) := by decide +kernel
theorem dX6_line_110 : decode cX6_line 110 = .ok (.iload 5, 2) := by decide +kernel
theorem dX6_line_112 : decode cX6_line 112 = .ok (.iconst 1, 1) := by decide +kernel
theorem dX6_line_113 : decode cX6_line 113 = .ok (.iadd, 1) := by decide +kernel
theorem dX6_line_114 : decode cX6_line 114 = .ok (.invokevirtual 206, 3) := by decide +kernel
theorem dX6_line_117 : decode cX6_line 117 = .ok (.iload 4, 2) := by decide +kernel
theorem dX6_line_119 : decode cX6_line 119 = .ok (.aload_n 0, 1) := by decide +kernel
theorem dX6_line_120 : decode cX6_line 120 = .ok (.getfield 12, 3) := by decide +kernel
theorem dX6_line_123 : decode cX6_line 123 = .ok (.getfield 165, 3) := by decide +kernel
theorem dX6_line_126 : decode cX6_line 126 = .ok (.iload 5, 2) := by decide +kernel
theorem dX6_line_128 : decode cX6_line 128 = .ok (.aaload, 1) := by decide +kernel
theorem dX6_line_129 : decode cX6_line 129 = .ok (.iload 8, 2) := by decide +kernel
theorem dX6_line_131 : decode cX6_line 131 = .ok (.iaload, 1) := by decide +kernel
theorem dX6_line_132 : decode cX6_line 132 = .ok (.iadd, 1) := by decide +kernel
theorem dX6_line_133 : decode cX6_line 133 = .ok (.istore 4, 2) := by decide +kernel
theorem dX6_line_135 : decode cX6_line 135 = .ok (.iinc 7 1, 3) := by decide +kernel
theorem dX6_line_138 : decode cX6_line 138 = .ok (.goto (-84), 3) := by decide +kernel
theorem dX6_line_141 : decode cX6_line 141 = .ok (.iinc 5 1, 3) := by decide +kernel
theorem dX6_line_144 : decode cX6_line 144 = .ok (.goto (-111), 3) := by decide +kernel
theorem dX6_line_147 : decode cX6_line 147 = .ok (.iload 4, 2) := by decide +kernel
theorem dX6_line_149 : decode cX6_line 149 = .ok (.ireturn, 1) := by decide +kernel
theorem dX6_blank_0 : decode cX6_blank 0 = .ok (.aload_n 0, 1) := by decide +kernel
theorem dX6_blank_1 : decode cX6_blank 1 = .ok (.getfield 22, 3) := by decide +kernel
theorem dX6_blank_4 : decode cX6_blank 4 = .ok (.aload_n 0, 1) := by decide +kernel
theorem dX6_blank_5 : decode cX6_blank 5 = .ok (.getfield 12, 3) := by decide +kernel
theorem dX6_blank_8 : decode cX6_blank 8 = .ok (.invokevirtual 113, 3) := by decide +kernel
theorem dX6_blank_11 : decode cX6_blank 11 = .ok (.aload_n 0, 1) := by decide +kernel
theorem dX6_blank_12 : decode cX6_blank 12 = .ok (.getfield 22, 3) := by decide +kernel
theorem dX6_blank_15 : decode cX6_blank 15 = .ok (.aload_n 0, 1) := by decide +kernel
theorem dX6_blank_16 : decode cX6_blank 16 = .ok (.getfield 12, 3) := by decide +kernel
theorem dX6_blank_19 : decode cX6_blank 19 = .ok (.invokevirtual 116, 3) := by decide +kernel
theorem dX6_blank_22 : decode cX6_blank 22 = .ok (.istore_n 1, 1) := by decide +kernel
theorem dX6_blank_23 : decode cX6_blank 23 = .ok (.iload_n 1, 1) := by decide +kernel
theorem dX6_blank_24 : decode cX6_blank 24 = .ok (.ifCond .ne 13, 3) := by decide +kernel
theorem dX6_blank_27 : decode cX6_blank 27 = .ok (.aload_n 0, 1) := by decide +kernel
theorem dX6_blank_28 : decode cX6_blank 28 = .ok (.getfield 58, 3) := by decide +kernel
theorem dX6_blank_31 : decode cX6_blank 31 = .ok (.lconst 0, 1) := by decide +kernel
theorem dX6_blank_32 : decode cX6_blank 32 = .ok (.invokevirtual 126, 3) := by decide +kernel
theorem dX6_blank_35 : decode cX6_blank 35 = .ok (.iconst 0, 1) := by decide +kernel
theorem dX6_blank_36 : decode cX6_blank 36 = .ok (.ireturn, 1) := by decide +kernel
theorem dX6_blank_37 : decode cX6_blank 37 = .ok (.aload_n 0, 1) := by decide +kernel
theorem dX6_blank_38 : decode cX6_blank 38 = .ok (.getfield 12, 3) := by decide +kernel
theorem dX6_blank_41 : decode cX6_blank 41 = .ok (.getfield 123, 3) := by decide +kernel
theorem dX6_blank_44 : decode cX6_blank 44 = .ok (.aload_n 0, 1) := by decide +kernel
theorem dX6_blank_45 : decode cX6_blank 45 = .ok (.getfield 12, 3) := by decide +kernel
theorem dX6_blank_48 : decode cX6_blank 48 = .ok (.getfield 168, 3) := by decide +kernel
theorem dX6_blank_51 : decode cX6_blank 51 = .ok (.imul, 1) := by decide +kernel
theorem dX6_blank_52 : decode cX6_blank 52 = .ok (.istore_n 2, 1) := by decide +kernel
theorem dX6_blank_53 : decode cX6_blank 53 = .ok (.aload_n 0, 1) := by decide +kernel
theorem dX6_blank_54 : decode cX6_blank 54 = .ok (.getfield 58, 3) := by decide +kernel
theorem dX6_blank_57 : decode cX6_blank 57 = .ok (.iload_n 2, 1) := by decide +kernel
theorem dX6_blank_58 : decode cX6_blank 58 = .ok (.aload_n 0, 1) := by decide +kernel
theorem dX6_blank_59 : decode cX6_blank 59 = .ok (.getfield 22, 3) := by decide +kernel
theorem dX6_blank_62 : decode cX6_blank 62 = .ok (.aload_n 0, 1) := by decide +kernel
theorem dX6_blank_63 : decode cX6_blank 63 = .ok (.getfield 12, 3) := by decide +kernel
theorem dX6_blank_66 : decode cX6_blank 66 = .ok (.iload_n 1, 1) := by decide +kernel
theorem dX6_blank_67 : decode cX6_blank 67 = .ok (.iconst 1, 1) := by decide +kernel
theorem dX6_blank_68 : decode cX6_blank 68 = .ok (.isub, 1) := by decide +kernel
theorem dX6_blank_69 : decode cX6_blank 69 = .ok (.aload_n 0, 1) := by decide +kernel
theorem dX6_blank_70 : decode cX6_blank 70 = .ok (.getfield 12, 3) := by decide +kernel
theorem dX6_blank_73 : decode cX6_blank 73 = .ok (.getfield 123, 3) := by decide +kernel
theorem dX6_blank_76 : decode cX6_blank 76 = .ok (.imul, 1) := by decide +kernel
theorem dX6_blank_77 : decode cX6_blank 77 = .ok (.invokevirtual 210, 3) := by decide +kernel
theorem dX6_blank_80 : decode cX6_blank 80 = .ok (.isub, 1) := by decide +kernel
theorem dX6_blank_81 : decode cX6_blank 81 = .ok (.i2l, 1) := by decide +kernel
theorem dX6_blank_82 : decode cX6_blank 82 = .ok (.invokevirtual 126, 3) := by decide +kernel
theorem dX6_blank_85 : decode cX6_blank 85 = .ok (.iload_n 1, 1) := by decide +kernel
theorem dX6_blank_86 : decode cX6_blank 86 = .ok (.iload_n 2, 1) := by decide +kernel
theorem dX6_blank_87 : decode cX6_blank 87 = .ok (.imul, 1) := by decide +kernel
theorem dX6_blank_88 : decode cX6_blank 88 = .ok (.aload_n 0, 1) := by decide +kernel
theorem dX6_blank_89 : decode cX6_blank 89 = .ok (.getfield 22, 3) := by decide +kernel
theorem dX6_blank_92 : decode cX6_blank 92 = .ok (.aload_n 0, 1) := by decide +kernel
theorem dX6_blank_93 : decode cX6_blank 93 = .ok (.getfield 12, 3) := by decide +kernel
theorem dX6_blank_96 : decode cX6_blank 96 = .ok (.iconst 0, 1) := by decide +kernel
theorem dX6_blank_97 : decode cX6_blank 97 = .ok (.invokevirtual 210, 3) := by decide +kernel
theorem dX6_blank_100 : decode cX6_blank 100 = .ok (.isub, 1) := by decide +kernel
theorem dX6_blank_101 : decode cX6_blank 101 = .ok (.ireturn, 1) := by decide +kernel
theorem dX6_tie_0 : decode cX6_tie 0 = .ok (.iload_n 1, 1) := by decide +kernel
theorem dX6_tie_1 : decode cX6_tie 1 = .ok (.ifCond .lt 14, 3) := by decide +kernel
theorem dX6_tie_4 : decode cX6_tie 4 = .ok (.iload_n 1, 1) := by decide +kernel
theorem dX6_tie_5 : decode cX6_tie 5 = .ok (.aload_n 0, 1) := by decide +kernel
theorem dX6_tie_6 : decode cX6_tie 6 = .ok (.getfield 12, 3) := by decide +kernel
theorem dX6_tie_9 : decode cX6_tie 9 = .ok (.getfield 213, 3) := by decide +kernel
theorem dX6_tie_12 : decode cX6_tie 12 = .ok (.if_icmp .lt 11, 3) := by decide +kernel
theorem dX6_tie_15 : decode cX6_tie 15 = .ok (.new 152, 3) := by decide +kernel
theorem dX6_tie_18 : decode cX6_tie 18 = .ok (.dup, 1) := by decide +kernel
theorem dX6_tie_19 : decode cX6_tie 19 = .ok (.invokespecial 154, 3) := by decide +kernel
theorem dX6_tie_22 : decode cX6_tie 22 = .ok (.athrow, 1) := by decide +kernel
theorem dX6_tie_23 : decode cX6_tie 23 = .ok (.aload_n 0, 1) := by decide +kernel
theorem dX6_tie_24 : decode cX6_tie 24 = .ok (.getfield 22, 3) := by decide +kernel
theorem dX6_tie_27 : decode cX6_tie 27 = .ok (.aload_n 0, 1) := by decide +kernel
theorem dX6_tie_28 : decode cX6_tie 28 = .ok (.getfield 12, 3) := by decide +kernel
theorem dX6_tie_31 : decode cX6_tie 31 = .ok (.invokevirtual 113, 3) := by decide +kernel
theorem dX6_tie_34 : decode cX6_tie 34 = .ok (.aload_n 0, 1) := by decide +kernel
theorem dX6_tie_35 : decode cX6_tie 35 = .ok (.getfield 22, 3) := by decide +kernel
theorem dX6_tie_38 : decode cX6_tie 38 = .ok (.aload_n 0, 1) := by decide +kernel
theorem dX6_tie_39 : decode cX6_tie 39 = .ok (.getfield 12, 3) := by decide +kernel
theorem dX6_tie_42 : decode cX6_tie 42 = .ok (.iload_n 1, 1) := by decide +kernel
theorem dX6_tie_43 : decode cX6_tie 43 = .ok (.invokevirtual 216, 3) := by decide +kernel
theorem dX6_tie_46 : decode cX6_tie 46 = .ok (.istore_n 2, 1) := by decide +kernel
theorem dX6_tie_47 : decode cX6_tie 47 = .ok (.aload_n 0, 1) := by decide +kernel
theorem dX6_tie_48 : decode cX6_tie 48 = .ok (.getfield 58, 3) := by decide +kernel
theorem dX6_tie_51 : decode cX6_tie 51 = .ok (.iload_n 2, 1) := by decide +kernel
theorem dX6_tie_52 : decode cX6_tie 52 = .ok (.invokestatic 219, 3) := by decide +kernel
theorem dX6_tie_55 : decode cX6_tie 55 = .ok (.ifCond .eq 7, 3) := by decide +kernel
theorem dX6_tie_58 : decode cX6_tie 58 = .ok (.lconst 1, 1) := by decide +kernel
theorem dX6_tie_59 : decode cX6_tie 59 = .ok (.goto 4, 3) := by decide +kernel
theorem dX6_tie_62 : decode cX6_tie 62 = .ok (.lconst 0, 1) := by decide +kernel
theorem dX6_tie_63 : decode cX6_tie 63 = .ok (.aload_n 0, 1) := by decide +kernel
theorem dX6_tie_64 : decode cX6_tie 64 = .ok (.getfield 12, 3) := by decide +kernel
theorem dX6_tie_67 : decode cX6_tie 67 = .ok (.getfield 222, 3) := by decide +kernel
theorem dX6_tie_70 : decode cX6_tie 70 = .ok (.iload_n 1, 1) := by decide +kernel
theorem dX6_tie_71 : decode cX6_tie 71 = .ok (.iaload, 1) := by decide +kernel
theorem dX6_tie_72 : decode cX6_tie 72 = .ok (.i2l, 1) := by decide +kernel
theorem dX6_tie_73 : decode cX6_tie 73 = .ok (.aload_n 0, 1) := by decide +kernel
theorem dX6_tie_74 : decode cX6_tie 74 = .ok (.getfield 12, 3) := by decide +kernel
theorem dX6_tie_77 : decode cX6_tie 77 = .ok (.getfield 225, 3) := by decide +kernel
theorem dX6_tie_80 : decode cX6_tie 80 = .ok (.iload_n 1, 1) := by decide +kernel
theorem dX6_tie_81 : decode cX6_tie 81 = .ok (.iaload, 1) := by decide +kernel
theorem dX6_tie_82 : decode cX6_tie 82 = .ok (.i2l, 1) := by decide +kernel
theorem dX6_tie_83 : decode cX6_tie 83 = .ok (.aload_n 0, 1) := by decide +kernel
theorem dX6_tie_84 : decode cX6_tie 84 = .ok (.getfield 12, 3) := by decide +kernel
theorem dX6_tie_87 : decode cX6_tie 87 = .ok (.getfield 228, 3) := by decide +kernel
theorem dX6_tie_90 : decode cX6_tie 90 = .ok (.iload_n 1, 1) := by decide +kernel
theorem dX6_tie_91 : decode cX6_tie 91 = .ok (.iaload, 1) := by decide +kernel
theorem dX6_tie_92 : decode cX6_tie 92 = .ok (.i2l, 1) := by decide +kernel
theorem dX6_tie_93 : decode cX6_tie 93 = .ok (.invokevirtual 149, 3) := by decide +kernel
theorem dX6_tie_96 : decode cX6_tie 96 = .ok (.iload_n 2, 1) := by decide +kernel
theorem dX6_tie_97 : decode cX6_tie 97 = .ok (.ireturn, 1) := by decide +kernel
theorem dX6_broken_0 : decode cX6_broken 0 = .ok (.aload_n 0, 1) := by decide +kernel
theorem dX6_broken_1 : decode cX6_broken 1 = .ok (.getfield 22, 3) := by decide +kernel
theorem dX6_broken_4 : decode cX6_broken 4 = .ok (.aload_n 0, 1) := by decide +kernel
theorem dX6_broken_5 : decode cX6_broken 5 = .ok (.getfield 12, 3) := by decide +kernel
theorem dX6_broken_8 : decode cX6_broken 8 = .ok (.invokevirtual 113, 3) := by decide +kernel
theorem dX6_broken_11 : decode cX6_broken 11 = .ok (.iconst (-1), 1) := by decide +kernel
theorem dX6_broken_12 : decode cX6_broken 12 = .ok (.istore_n 1, 1) := by decide +kernel
theorem dX6_broken_13 : decode cX6_broken 13 = .ok (.iconst 0, 1) := by decide +kernel
theorem dX6_broken_14 : decode cX6_broken 14 = .ok (.istore_n 2, 1) := by decide +kernel
theorem dX6_broken_15 : decode cX6_broken 15 = .ok (.aload_n 0, 1) := by decide +kernel
theorem dX6_broken_16 : decode cX6_broken 16 = .ok (.getfield 12, 3) := by decide +kernel
theorem dX6_broken_19 : decode cX6_broken 19 = .ok (.getfield 213, 3) := by decide +kernel
theorem dX6_broken_22 : decode cX6_broken 22 = .ok (.iconst 1, 1) := by decide +kernel
theorem dX6_broken_23 : decode cX6_broken 23 = .ok (.isub, 1) := by decide +kernel
theorem dX6_broken_24 : decode cX6_broken 24 = .ok (.istore_n 3, 1) := by decide +kernel
theorem dX6_broken_25 : decode cX6_broken 25 = .ok (.iload_n 3, 1) := by decide +kernel
theorem dX6_broken_26 : decode cX6_broken 26 = .ok (.ifCond .lt 38, 3) := by decide +kernel
theorem dX6_broken_29 : decode cX6_broken 29 = .ok (.aload_n 0, 1) := by decide +kernel
theorem dX6_broken_30 : decode cX6_broken 30 = .ok (.getfield 22, 3) := by decide +kernel
theorem dX6_broken_33 : decode cX6_broken 33 = .ok (.aload_n 0, 1) := by decide +kernel
theorem dX6_broken_34 : decode cX6_broken 34 = .ok (.getfield 12, 3) := by decide +kernel
theorem dX6_broken_37 : decode cX6_broken 37 = .ok (.iload_n 3, 1) := by decide +kernel
theorem dX6_broken_38 : decode cX6_broken 38 = .ok (.invokevirtual 216, 3) := by decide +kernel
theorem dX6_broken_41 : decode cX6_broken 41 = .ok (.istore 4, 2) := by decide +kernel
theorem dX6_broken_43 : decode cX6_broken 43 = .ok (.iload_n 2, 1) := by decide +kernel
theorem dX6_broken_44 : decode cX6_broken 44 = .ok (.iload 4, 2) := by decide +kernel
theorem dX6_broken_46 : decode cX6_broken 46 = .ok (.iadd, 1) := by decide +kernel
theorem dX6_broken_47 : decode cX6_broken 47 = .ok (.istore_n 2, 1) := by decide +kernel
theorem dX6_broken_48 : decode cX6_broken 48 = .ok (.iload 4, 2) := by decide +kernel
theorem dX6_broken_50 : decode cX6_broken 50 = .ok (.invokestatic 219, 3) := by decide +kernel
theorem dX6_broken_53 : decode cX6_broken 53 = .ok (.ifCond .eq 5, 3) := by decide +kernel
theorem dX6_broken_56 : decode cX6_broken 56 = .ok (.iload_n 3, 1) := by decide +kernel
theorem dX6_broken_57 : decode cX6_broken 57 = .ok (.istore_n 1, 1) := by decide +kernel
theorem dX6_broken_58 : decode cX6_broken 58 = .ok (.iinc 3 (-1), 3) := by decide +kernel
theorem dX6_broken_61 : decode cX6_broken 61 = .ok (.goto (-36), 3) := by decide +kernel
theorem dX6_broken_64 : decode cX6_broken 64 = .ok (.aload_n 0, 1) := by decide +kernel
theorem dX6_broken_65 : decode cX6_broken 65 = .ok (.getfield 58, 3) := by decide +kernel
theorem dX6_broken_68 : decode cX6_broken 68 = .ok (.iload_n 1, 1) := by decide +kernel
theorem dX6_broken_69 : decode cX6_broken 69 = .ok (.i2l, 1) := by decide +kernel
theorem dX6_broken_70 : decode cX6_broken 70 = .ok (.iload_n 2, 1) := by decide +kernel
theorem dX6_broken_71 : decode cX6_broken 71 = .ok (.i2l, 1) := by decide +kernel
theorem dX6_broken_72 : decode cX6_broken 72 = .ok (.invokevirtual 105, 3) := by decide +kernel
theorem dX6_broken_75 : decode cX6_broken 75 = .ok (.aload_n 0, 1) := by decide +kernel
theorem dX6_broken_76 : decode cX6_broken 76 = .ok (.getfield 22, 3) := by decide +kernel
theorem dX6_broken_79 : decode cX6_broken 79 = .ok (.aload_n 0, 1) := by decide +kernel
theorem dX6_broken_80 : decode cX6_broken 80 = .ok (.getfield 12, 3) := by decide +kernel
theorem dX6_broken_83 : decode cX6_broken 83 = .ok (.invokevirtual 193, 3) := by decide +kernel
theorem dX6_broken_86 : decode cX6_broken 86 = .ok (.ireturn, 1) := by decide +kernel
theorem dX6_loose_0 : decode cX6_loose 0 = .ok (.iconst (-1), 1) := by decide +kernel
theorem dX6_loose_1 : decode cX6_loose 1 = .ok (.istore_n 1, 1) := by decide +kernel
theorem dX6_loose_2 : decode cX6_loose 2 = .ok (.iconst 0, 1) := by decide +kernel
theorem dX6_loose_3 : decode cX6_loose 3 = .ok (.istore_n 2, 1) := by decide +kernel
theorem dX6_loose_4 : decode cX6_loose 4 = .ok (.aload_n 0, 1) := by decide +kernel
theorem dX6_loose_5 : decode cX6_loose 5 = .ok (.getfield 12, 3) := by decide +kernel
theorem dX6_loose_8 : decode cX6_loose 8 = .ok (.getfield 231, 3) := by decide +kernel
theorem dX6_loose_11 : decode cX6_loose 11 = .ok (.iconst 0, 1) := by decide +kernel
theorem dX6_loose_12 : decode cX6_loose 12 = .ok (.iaload, 1) := by decide +kernel
theorem dX6_loose_13 : decode cX6_loose 13 = .ok (.iconst 1, 1) := by decide +kernel
theorem dX6_loose_14 : decode cX6_loose 14 = .ok (.isub, 1) := by decide +kernel
theorem dX6_loose_15 : decode cX6_loose 15 = .ok (.istore_n 3, 1) := by decide +kernel
theorem dX6_loose_16 : decode cX6_loose 16 = .ok (.iload_n 3, 1) := by decide +kernel
theorem dX6_loose_17 : decode cX6_loose 17 = .ok (.ifCond .lt 26, 3) := by decide +kernel
theorem dX6_loose_20 : decode cX6_loose 20 = .ok (.aload_n 0, 1) := by decide +kernel
theorem dX6_loose_21 : decode cX6_loose 21 = .ok (.getfield 12, 3) := by decide +kernel
theorem dX6_loose_24 : decode cX6_loose 24 = .ok (.iconst 0, 1) := by decide +kernel
theorem dX6_loose_25 : decode cX6_loose 25 = .ok (.iload_n 3, 1) := by decide +kernel
theorem dX6_loose_26 : decode cX6_loose 26 = .ok (.invokevirtual 234, 3) := by decide +kernel
theorem dX6_loose_29 : decode cX6_loose 29 = .ok (.ifCond .ne 8, 3) := by decide +kernel
theorem dX6_loose_32 : decode cX6_loose 32 = .ok (.iload_n 3, 1) := by decide +kernel
theorem dX6_loose_33 : decode cX6_loose 33 = .ok (.istore_n 1, 1) := by decide +kernel
theorem dX6_loose_34 : decode cX6_loose 34 = .ok (.iinc 2 1, 3) := by decide +kernel
theorem dX6_loose_37 : decode cX6_loose 37 = .ok (.iinc 3 (-1), 3) := by decide +kernel
theorem dX6_loose_40 : decode cX6_loose 40 = .ok (.goto (-24), 3) := by decide +kernel
theorem dX6_loose_43 : decode cX6_loose 43 = .ok (.aload_n 0, 1) := by decide +kernel
theorem dX6_loose_44 : decode cX6_loose 44 = .ok (.getfield 58, 3) := by decide +kernel
theorem dX6_loose_47 : decode cX6_loose 47 = .ok (.iload_n 1, 1) := by decide +kernel
theorem dX6_loose_48 : decode cX6_loose 48 = .ok (.i2l, 1) := by decide +kernel
theorem dX6_loose_49 : decode cX6_loose 49 = .ok (.invokevirtual 126, 3) := by decide +kernel
theorem dX6_loose_52 : decode cX6_loose 52 = .ok (.iload_n 2, 1) := by decide +kernel
theorem dX6_loose_53 : decode cX6_loose 53 = .ok (.ireturn, 1) := by decide +kernel
theorem dX6_by_0 : decode cX6_by 0 = .ok (.aload_n 0, 1) := by decide +kernel
theorem dX6_by_1 : decode cX6_by 1 = .ok (.getfield 12, 3) := by decide +kernel
theorem dX6_by_4 : decode cX6_by 4 = .ok (.iload_n 1, 1) := by decide +kernel
theorem dX6_by_5 : decode cX6_by 5 = .ok (.iload_n 2, 1) := by decide +kernel
theorem dX6_by_6 : decode cX6_by 6 = .ok (.iload_n 3, 1) := by decide +kernel
theorem dX6_by_7 : decode cX6_by 7 = .ok (.invokevirtual 237, 3) := by decide +kernel
theorem dX6_by_10 : decode cX6_by 10 = .ok (.ifCond .ne 5, 3) := by decide +kernel
theorem dX6_by_13 : decode cX6_by 13 = .ok (.iconst (-1), 1) := by decide +kernel
theorem dX6_by_14 : decode cX6_by 14 = .ok (.ireturn, 1) := by decide +kernel
theorem dX6_by_15 : decode cX6_by 15 = .ok (.aload_n 0, 1) := by decide +kernel
theorem dX6_by_16 : decode cX6_by 16 = .ok (.getfield 16, 3) := by decide +kernel
theorem dX6_by_19 : decode cX6_by 19 = .ok (.aload_n 0, 1) := by decide +kernel
theorem dX6_by_20 : decode cX6_by 20 = .ok (.getfield 12, 3) := by decide +kernel
theorem dX6_by_23 : decode cX6_by 23 = .ok (.invokevirtual 240, 3) := by decide +kernel
theorem dX6_by_26 : decode cX6_by 26 = .ok (.aload_n 0, 1) := by decide +kernel
theorem dX6_by_27 : decode cX6_by 27 = .ok (.getfield 16, 3) := by decide +kernel
theorem dX6_by_30 : decode cX6_by 30 = .ok (.iload_n 1, 1) := by decide +kernel
theorem dX6_by_31 : decode cX6_by 31 = .ok (.iload_n 2, 1) := by decide +kernel
theorem dX6_by_32 : decode cX6_by 32 = .ok (.iload_n 3, 1) := by decide +kernel
theorem dX6_by_33 : decode cX6_by 33 = .ok (.invokevirtual 243, 3) := by decide +kernel
theorem dX6_by_36 : decode cX6_by 36 = .ok (.aload_n 0, 1) := by decide +kernel
theorem dX6_by_37 : decode cX6_by 37 = .ok (.getfield 22, 3) := by decide +kernel
theorem dX6_by_40 : decode cX6_by 40 = .ok (.aload_n 0, 1) := by decide +kernel
theorem dX6_by_41 : decode cX6_by 41 = .ok (.getfield 16, 3) := by decide +kernel
theorem dX6_by_44 : decode cX6_by 44 = .ok (.invokevirtual 113, 3) := by decide +kernel
theorem dX6_by_47 : decode cX6_by 47 = .ok (.aload_n 0, 1) := by decide +kernel
theorem dX6_by_48 : decode cX6_by 48 = .ok (.getfield 58, 3) := by decide +kernel
theorem dX6_by_51 : decode cX6_by 51 = .ok (.aload_n 0, 1) := by decide +kernel
theorem dX6_by_52 : decode cX6_by 52 = .ok (.getfield 22, 3) := by decide +kernel
theorem dX6_by_55 : decode cX6_by 55 = .ok (.aload_n 0, 1) := by decide +kernel
theorem dX6_by_56 : decode cX6_by 56 = .ok (.getfield 16, 3) := by decide +kernel
theorem dX6_by_59 : decode cX6_by 59 = .ok (.invokevirtual 116, 3) := by decide +kernel
theorem dX6_by_62 : decode cX6_by 62 = .ok (.i2l, 1) := by decide +kernel
theorem dX6_by_63 : decode cX6_by 63 = .ok (.aload_n 0, 1) := by decide +kernel
theorem dX6_by_64 : decode cX6_by 64 = .ok (.getfield 22, 3) := by decide +kernel
theorem dX6_by_67 : decode cX6_by 67 = .ok (.aload_n 0, 1) := by decide +kernel
theorem dX6_by_68 : decode cX6_by 68 = .ok (.getfield 16, 3) := by decide +kernel
theorem dX6_by_71 : decode cX6_by 71 = .ok (.invokevirtual 187, 3) := by decide +kernel
theorem dX6_by_74 : decode cX6_by 74 = .ok (.i2l, 1) := by decide +kernel
theorem dX6_by_75 : decode cX6_by 75 = .ok (.aload_n 0, 1) := by decide +kernel
theorem dX6_by_76 : decode cX6_by 76 = .ok (.getfield 22, 3) := by decide +kernel
theorem dX6_by_79 : decode cX6_by 79 = .ok (.aload_n 0, 1) := by decide +kernel
theorem dX6_by_80 : decode cX6_by 80 = .ok (.getfield 16, 3) := by decide +kernel
theorem dX6_by_83 : decode cX6_by 83 = .ok (.invokevirtual 193, 3) := by decide +kernel
theorem dX6_by_86 : decode cX6_by 86 = .ok (.i2l, 1) := by decide +kernel
theorem dX6_by_87 : decode cX6_by 87 = .ok (.aload_n 0, 1) := by decide +kernel
theorem dX6_by_88 : decode cX6_by 88 = .ok (.getfield 22, 3) := by decide +kernel
theorem dX6_by_91 : decode cX6_by 91 = .ok (.invokevirtual 190, 3) := by decide +kernel
theorem dX6_by_94 : decode cX6_by 94 = .ok (.i2l, 1) := by decide +kernel
theorem dX6_by_95 : decode cX6_by 95 = .ok (.invokevirtual 149, 3) := by decide +kernel
theorem dX6_by_98 : decode cX6_by 98 = .ok (.aload_n 0, 1) := by decide +kernel
theorem dX6_by_99 : decode cX6_by 99 = .ok (.getfield 22, 3) := by decide +kernel
theorem dX6_by_102 : decode cX6_by 102 = .ok (.aload_n 0, 1) := by decide +kernel
theorem dX6_by_103 : decode cX6_by 103 = .ok (.getfield 16, 3) := by decide +kernel
theorem dX6_by_106 : decode cX6_by 106 = .ok (.invokevirtual 199, 3) := by decide +kernel
theorem dX6_by_109 : decode cX6_by 109 = .ok (.ireturn, 1) := by decide +kernel
theorem dX6_best_0 : decode cX6_best 0 = .ok (.iload_n 1, 1) := by decide +kernel
theorem dX6_best_1 : decode cX6_best 1 = .ok (.iload_n 2, 1) := by decide +kernel
theorem dX6_best_2 : decode cX6_best 2 = .ok (.invokestatic 246, 3) := by decide +kernel
theorem dX6_best_5 : decode cX6_best 5 = .ok (.ifCond .ne 5, 3) := by decide +kernel
theorem dX6_best_8 : decode cX6_best 8 = .ok (.iconst (-1), 1) := by decide +kernel
theorem dX6_best_9 : decode cX6_best 9 = .ok (.ireturn, 1) := by decide +kernel
theorem dX6_best_10 : decode cX6_best 10 = .ok (.aload_n 0, 1) := by decide +kernel
theorem dX6_best_11 : decode cX6_best 11 = .ok (.getfield 16, 3) := by decide +kernel
theorem dX6_best_14 : decode cX6_best 14 = .ok (.aload_n 0, 1) := by decide +kernel
theorem dX6_best_15 : decode cX6_best 15 = .ok (.getfield 12, 3) := by decide +kernel
theorem dX6_best_18 : decode cX6_best 18 = .ok (.invokevirtual 240, 3) := by decide +kernel
theorem dX6_best_21 : decode cX6_best 21 = .ok (.aload_n 0, 1) := by decide +kernel
theorem dX6_best_22 : decode cX6_best 22 = .ok (.getfield 29, 3) := by decide +kernel
theorem dX6_best_25 : decode cX6_best 25 = .ok (.aload_n 0, 1) := by decide +kernel
theorem dX6_best_26 : decode cX6_best 26 = .ok (.getfield 16, 3) := by decide +kernel
theorem dX6_best_29 : decode cX6_best 29 = .ok (.aload_n 0, 1) := by decide +kernel
theorem dX6_best_30 : decode cX6_best 30 = .ok (.getfield 22, 3) := by decide +kernel
theorem dX6_best_33 : decode cX6_best 33 = .ok (.iload_n 1, 1) := by decide +kernel
theorem dX6_best_34 : decode cX6_best 34 = .ok (.iload_n 2, 1) := by decide +kernel
theorem dX6_best_35 : decode cX6_best 35 = .ok (.invokevirtual 249, 3) := by decide +kernel
theorem dX6_best_38 : decode cX6_best 38 = .ok (.aload_n 0, 1) := by decide +kernel
theorem dX6_best_39 : decode cX6_best 39 = .ok (.getfield 58, 3) := by decide +kernel
theorem dX6_best_42 : decode cX6_best 42 = .ok (.aload_n 0, 1) := by decide +kernel
theorem dX6_best_43 : decode cX6_best 43 = .ok (.getfield 29, 3) := by decide +kernel
theorem dX6_best_46 : decode cX6_best 46 = .ok (.getfield 253, 3) := by decide +kernel
theorem dX6_best_49 : decode cX6_best 49 = .ok (.i2l, 1) := by decide +kernel
theorem dX6_best_50 : decode cX6_best 50 = .ok (.aload_n 0, 1) := by decide +kernel
theorem dX6_best_51 : decode cX6_best 51 = .ok (.getfield 29, 3) := by decide +kernel
theorem dX6_best_54 : decode cX6_best 54 = .ok (.getfield 256, 3) := by decide +kernel
theorem dX6_best_57 : decode cX6_best 57 = .ok (.i2l, 1) := by decide +kernel
theorem dX6_best_58 : decode cX6_best 58 = .ok (.aload_n 0, 1) := by decide +kernel
theorem dX6_best_59 : decode cX6_best 59 = .ok (.getfield 29, 3) := by decide +kernel
theorem dX6_best_62 : decode cX6_best 62 = .ok (.getfield 259, 3) := by decide +kernel
theorem dX6_best_65 : decode cX6_best 65 = .ok (.i2l, 1) := by decide +kernel
theorem dX6_best_66 : decode cX6_best 66 = .ok (.aload_n 0, 1) := by decide +kernel
theorem dX6_best_67 : decode cX6_best 67 = .ok (.getfield 29, 3) := by decide +kernel
theorem dX6_best_70 : decode cX6_best 70 = .ok (.getfield 262, 3) := by decide +kernel
theorem dX6_best_73 : decode cX6_best 73 = .ok (.i2l, 1) := by decide +kernel
theorem dX6_best_74 : decode cX6_best 74 = .ok (.invokevirtual 149, 3) := by decide +kernel
theorem dX6_best_77 : decode cX6_best 77 = .ok (.aload_n 0, 1) := by decide +kernel
theorem dX6_best_78 : decode cX6_best 78 = .ok (.getfield 29, 3) := by decide +kernel
theorem dX6_best_81 : decode cX6_best 81 = .ok (.getfield 265, 3) := by decide +kernel
theorem dX6_best_84 : decode cX6_best 84 = .ok (.ireturn, 1) := by decide +kernel
theorem dX6_near_0 : decode cX6_near 0 = .ok (.iload_n 1, 1) := by decide +kernel
theorem dX6_near_1 : decode cX6_near 1 = .ok (.iload_n 2, 1) := by decide +kernel
theorem dX6_near_2 : decode cX6_near 2 = .ok (.invokestatic 246, 3) := by decide +kernel
theorem dX6_near_5 : decode cX6_near 5 = .ok (.ifCond .eq 13, 3) := by decide +kernel
theorem dX6_near_8 : decode cX6_near 8 = .ok (.iload_n 3, 1) := by decide +kernel
theorem dX6_near_9 : decode cX6_near 9 = .ok (.ifCond .lt 9, 3) := by decide +kernel
theorem dX6_near_12 : decode cX6_near 12 = .ok (.iload_n 3, 1) := by decide +kernel
theorem dX6_near_13 : decode cX6_near 13 = .ok (.bipush 99, 2) := by decide +kernel
theorem dX6_near_15 : decode cX6_near 15 = .ok (.if_icmp .le 5, 3) := by decide +kernel
theorem dX6_near_18 : decode cX6_near 18 = .ok (.iconst (-1), 1) := by decide +kernel
theorem dX6_near_19 : decode cX6_near 19 = .ok (.ireturn, 1) := by decide +kernel
theorem dX6_near_20 : decode cX6_near 20 = .ok (.aload_n 0, 1) := by decide +kernel
theorem dX6_near_21 : decode cX6_near 21 = .ok (.getfield 16, 3) := by decide +kernel
theorem dX6_near_24 : decode cX6_near 24 = .ok (.aload_n 0, 1) := by decide +kernel
theorem dX6_near_25 : decode cX6_near 25 = .ok (.getfield 12, 3) := by decide +kernel
theorem dX6_near_28 : decode cX6_near 28 = .ok (.invokevirtual 240, 3) := by decide +kernel
theorem dX6_near_31 : decode cX6_near 31 = .ok (.aload_n 0, 1) := by decide +kernel
theorem dX6_near_32 : decode cX6_near 32 = .ok (.getfield 29, 3) := by decide +kernel
theorem dX6_near_35 : decode cX6_near 35 = .ok (.aload_n 0, 1) := by decide +kernel
theorem dX6_near_36 : decode cX6_near 36 = .ok (.getfield 16, 3) := by decide +kernel
theorem dX6_near_39 : decode cX6_near 39 = .ok (.aload_n 0, 1) := by decide +kernel
theorem dX6_near_40 : decode cX6_near 40 = .ok (.getfield 22, 3) := by decide +kernel
theorem dX6_near_43 : decode cX6_near 43 = .ok (.iload_n 1, 1) := by decide +kernel
theorem dX6_near_44 : decode cX6_near 44 = .ok (.iload_n 2, 1) := by decide +kernel
theorem dX6_near_45 : decode cX6_near 45 = .ok (.iload_n 3, 1) := by decide +kernel
theorem dX6_near_46 : decode cX6_near 46 = .ok (.invokevirtual 268, 3) := by decide +kernel
theorem dX6_near_49 : decode cX6_near 49 = .ok (.aload_n 0, 1) := by decide +kernel
theorem dX6_near_50 : decode cX6_near 50 = .ok (.getfield 29, 3) := by decide +kernel
theorem dX6_near_53 : decode cX6_near 53 = .ok (.getfield 262, 3) := by decide +kernel
theorem dX6_near_56 : decode cX6_near 56 = .ok (.ifCond .ne 13, 3) := by decide +kernel
theorem dX6_near_59 : decode cX6_near 59 = .ok (.aload_n 0, 1) := by decide +kernel
theorem dX6_near_60 : decode cX6_near 60 = .ok (.getfield 58, 3) := by decide +kernel
theorem dX6_near_63 : decode cX6_near 63 = .ok (.invokevirtual 272, 3) := by decide +kernel
theorem dX6_near_66 : decode cX6_near 66 = .ok (.goto 34, 3) := by decide +kernel
theorem dX6_near_69 : decode cX6_near 69 = .ok (.aload_n 0, 1) := by decide +kernel
theorem dX6_near_70 : decode cX6_near 70 = .ok (.getfield 58, 3) := by decide +kernel
theorem dX6_near_73 : decode cX6_near 73 = .ok (.aload_n 0, 1) := by decide +kernel
theorem dX6_near_74 : decode cX6_near 74 = .ok (.getfield 29, 3) := by decide +kernel
theorem dX6_near_77 : decode cX6_near 77 = .ok (.getfield 253, 3) := by decide +kernel
theorem dX6_near_80 : decode cX6_near 80 = .ok (.i2l, 1) := by decide +kernel
theorem dX6_near_81 : decode cX6_near 81 = .ok (.aload_n 0, 1) := by decide +kernel
theorem dX6_near_82 : decode cX6_near 82 = .ok (.getfield 29, 3) := by decide +kernel
theorem dX6_near_85 : decode cX6_near 85 = .ok (.getfield 256, 3) := by decide +kernel
theorem dX6_near_88 : decode cX6_near 88 = .ok (.i2l, 1) := by decide +kernel
theorem dX6_near_89 : decode cX6_near 89 = .ok (.aload_n 0, 1) := by decide +kernel
theorem dX6_near_90 : decode cX6_near 90 = .ok (.getfield 29, 3) := by decide +kernel
theorem dX6_near_93 : decode cX6_near 93 = .ok (.getfield 259, 3) := by decide +kernel
theorem dX6_near_96 : decode cX6_near 96 = .ok (.i2l, 1) := by decide +kernel
theorem dX6_near_97 : decode cX6_near 97 = .ok (.invokevirtual 196, 3) := by decide +kernel
theorem dX6_near_100 : decode cX6_near 100 = .ok (.aload_n 0, 1) := by decide +kernel
theorem dX6_near_101 : decode cX6_near 101 = .ok (.getfield 29, 3) := by decide +kernel
theorem dX6_near_104 : decode cX6_near 104 = .ok (.getfield 262, 3) := by decide +kernel
theorem dX6_near_107 : decode cX6_near 107 = .ok (.ireturn, 1) := by decide +kernel
theorem dX6_climbs_0 : decode cX6_climbs 0 = .ok (.aload_n 0, 1) := by decide +kernel
theorem dX6_climbs_1 : decode cX6_climbs 1 = .ok (.getfield 16, 3) := by decide +kernel
theorem dX6_climbs_4 : decode cX6_climbs 4 = .ok (.aload_n 0, 1) := by decide +kernel
theorem dX6_climbs_5 : decode cX6_climbs 5 = .ok (.getfield 12, 3) := by decide +kernel
theorem dX6_climbs_8 : decode cX6_climbs 8 = .ok (.invokevirtual 240, 3) := by decide +kernel
theorem dX6_climbs_11 : decode cX6_climbs 11 = .ok (.aload_n 0, 1) := by decide +kernel
theorem dX6_climbs_12 : decode cX6_climbs 12 = .ok (.getfield 29, 3) := by decide +kernel
theorem dX6_climbs_15 : decode cX6_climbs 15 = .ok (.aload_n 0, 1) := by decide +kernel
theorem dX6_climbs_16 : decode cX6_climbs 16 = .ok (.getfield 16, 3) := by decide +kernel
theorem dX6_climbs_19 : decode cX6_climbs 19 = .ok (.aload_n 0, 1) := by decide +kernel
theorem dX6_climbs_20 : decode cX6_climbs 20 = .ok (.getfield 22, 3) := by decide +kernel
theorem dX6_climbs_23 : decode cX6_climbs 23 = .ok (.invokevirtual 273, 3) := by decide +kernel
theorem dX6_climbs_26 : decode cX6_climbs 26 = .ok (.istore_n 1, 1) := by decide +kernel
theorem dX6_climbs_27 : decode cX6_climbs 27 = .ok (.aload_n 0, 1) := by decide +kernel
theorem dX6_climbs_28 : decode cX6_climbs 28 = .ok (.getfield 58, 3) := by decide +kernel
theorem dX6_climbs_31 : decode cX6_climbs 31 = .ok (.aload_n 0, 1) := by decide +kernel
theorem dX6_climbs_32 : decode cX6_climbs 32 = .ok (.getfield 29, 3) := by decide +kernel
theorem dX6_climbs_35 : decode cX6_climbs 35 = .ok (.getfield 253, 3) := by decide +kernel
theorem dX6_climbs_38 : decode cX6_climbs 38 = .ok (.i2l, 1) := by decide +kernel
theorem dX6_climbs_39 : decode cX6_climbs 39 = .ok (.aload_n 0, 1) := by decide +kernel
theorem dX6_climbs_40 : decode cX6_climbs 40 = .ok (.getfield 29, 3) := by decide +kernel
theorem dX6_climbs_43 : decode cX6_climbs 43 = .ok (.getfield 256, 3) := by decide +kernel
theorem dX6_climbs_46 : decode cX6_climbs 46 = .ok (.i2l, 1) := by decide +kernel
theorem dX6_climbs_47 : decode cX6_climbs 47 = .ok (.aload_n 0, 1) := by decide +kernel
theorem dX6_climbs_48 : decode cX6_climbs 48 = .ok (.getfield 29, 3) := by decide +kernel
theorem dX6_climbs_51 : decode cX6_climbs 51 = .ok (.getfield 259, 3) := by decide +kernel
theorem dX6_climbs_54 : decode cX6_climbs 54 = .ok (.i2l, 1) := by decide +kernel
theorem dX6_climbs_55 : decode cX6_climbs 55 = .ok (.aload_n 0, 1) := by decide +kernel
theorem dX6_climbs_56 : decode cX6_climbs 56 = .ok (.getfield 29, 3) := by decide +kernel
theorem dX6_climbs_59 : decode cX6_climbs 59 = .ok (.getfield 265, 3) := by decide +kernel
theorem dX6_climbs_62 : decode cX6_climbs 62 = .ok (.i2l, 1) := by decide +kernel
theorem dX6_climbs_63 : decode cX6_climbs 63 = .ok (.invokevirtual 149, 3) := by decide +kernel
theorem dX6_climbs_66 : decode cX6_climbs 66 = .ok (.iload_n 1, 1) := by decide +kernel
theorem dX6_climbs_67 : decode cX6_climbs 67 = .ok (.ireturn, 1) := by decide +kernel
theorem dX6_narrow_0 : decode cX6_narrow 0 = .ok (.aload_n 0, 1) := by decide +kernel
theorem dX6_narrow_1 : decode cX6_narrow 1 = .ok (.iconst 0, 1) := by decide +kernel
theorem dX6_narrow_2 : decode cX6_narrow 2 = .ok (.iload_n 1, 1) := by decide +kernel
theorem dX6_narrow_3 : decode cX6_narrow 3 = .ok (.invokevirtual 277, 3) := by decide +kernel
theorem dX6_narrow_6 : decode cX6_narrow 6 = .ok (.ireturn, 1) := by decide +kernel
theorem dX6_low_0 : decode cX6_low 0 = .ok (.aload_n 0, 1) := by decide +kernel
theorem dX6_low_1 : decode cX6_low 1 = .ok (.iconst 1, 1) := by decide +kernel
theorem dX6_low_2 : decode cX6_low 2 = .ok (.iload_n 1, 1) := by decide +kernel
theorem dX6_low_3 : decode cX6_low 3 = .ok (.invokevirtual 277, 3) := by decide +kernel
theorem dX6_low_6 : decode cX6_low 6 = .ok (.ireturn, 1) := by decide +kernel
theorem dX6_more_0 : decode cX6_more 0 = .ok (.aload_n 0, 1) := by decide +kernel
theorem dX6_more_1 : decode cX6_more 1 = .ok (.getfield 16, 3) := by decide +kernel
theorem dX6_more_4 : decode cX6_more 4 = .ok (.aload_n 0, 1) := by decide +kernel
theorem dX6_more_5 : decode cX6_more 5 = .ok (.getfield 12, 3) := by decide +kernel
theorem dX6_more_8 : decode cX6_more 8 = .ok (.invokevirtual 240, 3) := by decide +kernel
theorem dX6_more_11 : decode cX6_more 11 = .ok (.aload_n 0, 1) := by decide +kernel
theorem dX6_more_12 : decode cX6_more 12 = .ok (.getfield 16, 3) := by decide +kernel
theorem dX6_more_15 : decode cX6_more 15 = .ok (.iload_n 1, 1) := by decide +kernel
theorem dX6_more_16 : decode cX6_more 16 = .ok (.iload_n 2, 1) := by decide +kernel
theorem dX6_more_17 : decode cX6_more 17 = .ok (.iload_n 3, 1) := by decide +kernel
theorem dX6_more_18 : decode cX6_more 18 = .ok (.invokestatic 280, 3) := by decide +kernel
theorem dX6_more_21 : decode cX6_more 21 = .ok (.istore 4, 2) := by decide +kernel
theorem dX6_more_23 : decode cX6_more 23 = .ok (.iload 4, 2) := by decide +kernel
theorem dX6_more_25 : decode cX6_more 25 = .ok (.ifCond .ge 8, 3) := by decide +kernel
theorem dX6_more_28 : decode cX6_more 28 = .ok (.iload 4, 2) := by decide +kernel
theorem dX6_more_30 : decode cX6_more 30 = .ok (.goto 7, 3) := by decide +kernel
theorem dX6_more_33 : decode cX6_more 33 = .ok (.aload_n 0, 1) := by decide +kernel
theorem dX6_more_34 : decode cX6_more 34 = .ok (.invokevirtual 284, 3) := by decide +kernel
theorem dX6_more_37 : decode cX6_more 37 = .ok (.ireturn, 1) := by decide +kernel
theorem dX6_less_0 : decode cX6_less 0 = .ok (.aload_n 0, 1) := by decide +kernel
theorem dX6_less_1 : decode cX6_less 1 = .ok (.getfield 16, 3) := by decide +kernel
theorem dX6_less_4 : decode cX6_less 4 = .ok (.aload_n 0, 1) := by decide +kernel
theorem dX6_less_5 : decode cX6_less 5 = .ok (.getfield 12, 3) := by decide +kernel
theorem dX6_less_8 : decode cX6_less 8 = .ok (.invokevirtual 240, 3) := by decide +kernel
theorem dX6_less_11 : decode cX6_less 11 = .ok (.aload_n 0, 1) := by decide +kernel
theorem dX6_less_12 : decode cX6_less 12 = .ok (.getfield 16, 3) := by decide +kernel
theorem dX6_less_15 : decode cX6_less 15 = .ok (.iload_n 1, 1) := by decide +kernel
theorem dX6_less_16 : decode cX6_less 16 = .ok (.iload_n 2, 1) := by decide +kernel
theorem dX6_less_17 : decode cX6_less 17 = .ok (.invokestatic 287, 3) := by decide +kernel
theorem dX6_less_20 : decode cX6_less 20 = .ok (.istore_n 3, 1) := by decide +kernel
theorem dX6_less_21 : decode cX6_less 21 = .ok (.iload_n 3, 1) := by decide +kernel
theorem dX6_less_22 : decode cX6_less 22 = .ok (.ifCond .ge 7, 3) := by decide +kernel
theorem dX6_less_25 : decode cX6_less 25 = .ok (.iload_n 3, 1) := by decide +kernel
theorem dX6_less_26 : decode cX6_less 26 = .ok (.goto 7, 3) := by decide +kernel
theorem dX6_less_29 : decode cX6_less 29 = .ok (.aload_n 0, 1) := by decide +kernel
theorem dX6_less_30 : decode cX6_less 30 = .ok (.invokevirtual 284, 3) := by decide +kernel
theorem dX6_less_33 : decode cX6_less 33 = .ok (.ireturn, 1) := by decide +kernel
theorem dX6_spare_0 : decode cX6_spare 0 = .ok (.iload_n 1, 1) := by decide +kernel
theorem dX6_spare_1 : decode cX6_spare 1 = .ok (.iconst 1, 1) := by decide +kernel
theorem dX6_spare_2 : decode cX6_spare 2 = .ok (.if_icmp .eq 10, 3) := by decide +kernel
theorem dX6_spare_5 : decode cX6_spare 5 = .ok (.iload_n 1, 1) := by decide +kernel
theorem dX6_spare_6 : decode cX6_spare 6 = .ok (.iconst 2, 1) := by decide +kernel
theorem dX6_spare_7 : decode cX6_spare 7 = .ok (.if_icmp .eq 5, 3) := by decide +kernel
theorem dX6_spare_10 : decode cX6_spare 10 = .ok (.iconst (-1), 1) := by decide +kernel
theorem dX6_spare_11 : decode cX6_spare 11 = .ok (.ireturn, 1) := by decide +kernel
theorem dX6_spare_12 : decode cX6_spare 12 = .ok (.aload_n 0, 1) := by decide +kernel
theorem dX6_spare_13 : decode cX6_spare 13 = .ok (.getfield 16, 3) := by decide +kernel
theorem dX6_spare_16 : decode cX6_spare 16 = .ok (.aload_n 0, 1) := by decide +kernel
theorem dX6_spare_17 : decode cX6_spare 17 = .ok (.getfield 12, 3) := by decide +kernel
theorem dX6_spare_20 : decode cX6_spare 20 = .ok (.invokevirtual 240, 3) := by decide +kernel
theorem dX6_spare_23 : decode cX6_spare 23 = .ok (.aload_n 0, 1) := by decide +kernel
theorem dX6_spare_24 : decode cX6_spare 24 = .ok (.getfield 22, 3) := by decide +kernel
theorem dX6_spare_27 : decode cX6_spare 27 = .ok (.aload_n 0, 1) := by decide +kernel
theorem dX6_spare_28 : decode cX6_spare 28 = .ok (.getfield 16, 3) := by decide +kernel
theorem dX6_spare_31 : decode cX6_spare 31 = .ok (.invokevirtual 113, 3) := by decide +kernel
theorem dX6_spare_34 : decode cX6_spare 34 = .ok (.aload_n 0, 1) := by decide +kernel
theorem dX6_spare_35 : decode cX6_spare 35 = .ok (.getfield 22, 3) := by decide +kernel
theorem dX6_spare_38 : decode cX6_spare 38 = .ok (.aload_n 0, 1) := by decide +kernel
theorem dX6_spare_39 : decode cX6_spare 39 = .ok (.getfield 16, 3) := by decide +kernel
theorem dX6_spare_42 : decode cX6_spare 42 = .ok (.invokevirtual 116, 3) := by decide +kernel
theorem dX6_spare_45 : decode cX6_spare 45 = .ok (.istore_n 2, 1) := by decide +kernel
theorem dX6_spare_46 : decode cX6_spare 46 = .ok (.iload_n 2, 1) := by decide +kernel
theorem dX6_spare_47 : decode cX6_spare 47 = .ok (.ifCond .ne 6, 3) := by decide +kernel
theorem dX6_spare_50 : decode cX6_spare 50 = .ok (.bipush (-2), 2) := by decide +kernel
theorem dX6_spare_52 : decode cX6_spare 52 = .ok (.ireturn, 1) := by decide +kernel
theorem dX6_spare_53 : decode cX6_spare 53 = .ok (.aload_n 0, 1) := by decide +kernel
theorem dX6_spare_54 : decode cX6_spare 54 = .ok (.getfield 22, 3) := by decide +kernel
theorem dX6_spare_57 : decode cX6_spare 57 = .ok (.aload_n 0, 1) := by decide +kernel
theorem dX6_spare_58 : decode cX6_spare 58 = .ok (.getfield 16, 3) := by decide +kernel
theorem dX6_spare_61 : decode cX6_spare 61 = .ok (.invokevirtual 187, 3) := by decide +kernel
theorem dX6_spare_64 : decode cX6_spare 64 = .ok (.istore_n 3, 1) := by decide +kernel
theorem dX6_spare_65 : decode cX6_spare 65 = .ok (.iconst 0, 1) := by decide +kernel
theorem dX6_spare_66 : decode cX6_spare 66 = .ok (.istore 4, 2) := by decide +kernel
theorem dX6_spare_68 : decode cX6_spare 68 = .ok (.aload_n 0, 1) := by decide +kernel
theorem dX6_spare_69 : decode cX6_spare 69 = .ok (.getfield 12, 3) := by decide +kernel
theorem dX6_spare_72 : decode cX6_spare 72 = .ok (.getfield 231, 3) := by decide +kernel
theorem dX6_spare_75 : decode cX6_spare 75 = .ok (.iload_n 1, 1) := by decide +kernel
theorem dX6_spare_76 : decode cX6_spare 76 = .ok (.iaload, 1) := by decide +kernel
theorem dX6_spare_77 : decode cX6_spare 77 = .ok (.istore 5, 2) := by decide +kernel
theorem dX6_spare_79 : decode cX6_spare 79 = .ok (.iload 5, 2) := by decide +kernel
theorem dX6_spare_81 : decode cX6_spare 81 = .ok (.bipush 70, 2) := by decide +kernel
theorem dX6_spare_83 : decode cX6_spare 83 = .ok (.if_icmp .ge 64, 3) := by decide +kernel
theorem dX6_spare_86 : decode cX6_spare 86 = .ok (.aload_n 0, 1) := by decide +kernel
theorem dX6_spare_87 : decode cX6_spare 87 = .ok (.getfield 16, 3) := by decide +kernel
theorem dX6_spare_90 : decode cX6_spare 90 = .ok (.iload_n 1, 1) := by decide +kernel
theorem dX6_spare_91 : decode cX6_spare 91 = .ok (.iload 5, 2) := by decide +kernel
theorem dX6_spare_93 : decode cX6_spare 93 = .ok (.iconst 5, 1) := by decide +kernel
theorem dX6_spare_94 : decode cX6_spare 94 = .ok (.invokevirtual 290, 3) := by decide +kernel
theorem dX6_spare_97 : decode cX6_spare 97 = .ok (.aload_n 0, 1) := by decide +kernel
theorem dX6_spare_98 : decode cX6_spare 98 = .ok (.getfield 22, 3) := by decide +kernel
theorem dX6_spare_101 : decode cX6_spare 101 = .ok (.aload_n 0, 1) := by decide +kernel
theorem dX6_spare_102 : decode cX6_spare 102 = .ok (.getfield 16, 3) := by decide +kernel
theorem dX6_spare_105 : decode cX6_spare 105 = .ok (.invokevirtual 113, 3) := by decide +kernel
theorem dX6_spare_108 : decode cX6_spare 108 = .ok (.aload_n 0, 1) := by decide +kernel
theorem dX6_spare_109 : decode cX6_spare 109 = .ok (.getfield 22, 3) := by decide +kernel
theorem dX6_spare_112 : decode cX6_spare 112 = .ok (.aload_n 0, 1) := by decide +kernel
theorem dX6_spare_113 : decode cX6_spare 113 = .ok (.getfield 16, 3) := by decide +kernel
theorem dX6_spare_116 : decode cX6_spare 116 = .ok (.invokevirtual 116, 3) := by decide +kernel
theorem dX6_spare_119 : decode cX6_spare 119 = .ok (.iload_n 2, 1) := by decide +kernel
theorem dX6_spare_120 : decode cX6_spare 120 = .ok (.if_icmp .eq 6, 3) := by decide +kernel
theorem dX6_spare_123 : decode cX6_spare 123 = .ok (.goto 24, 3) := by decide +kernel
theorem dX6_spare_126 : decode cX6_spare 126 = .ok (.aload_n 0, 1) := by decide +kernel
theorem dX6_spare_127 : decode cX6_spare 127 = .ok (.getfield 22, 3) := by decide +kernel
theorem dX6_spare_130 : decode cX6_spare 130 = .ok (.aload_n 0, 1) := by decide +kernel
theorem dX6_spare_131 : decode cX6_spare 131 = .ok (.getfield 16, 3) := by decide +kernel
theorem dX6_spare_134 : decode cX6_spare 134 = .ok (.invokevirtual 187, 3) := by decide +kernel
theorem dX6_spare_137 : decode cX6_spare 137 = .ok (.istore_n 3, 1) := by decide +kernel
theorem dX6_spare_138 : decode cX6_spare 138 = .ok (.iinc 4 1, 3) := by decide +kernel
theorem dX6_spare_141 : decode cX6_spare 141 = .ok (.iinc 5 1, 3) := by decide +kernel
theorem dX6_spare_144 : decode cX6_spare 144 = .ok (.goto (-65), 3) := by decide +kernel
theorem dX6_spare_147 : decode cX6_spare 147 = .ok (.aload_n 0, 1) := by decide +kernel
theorem dX6_spare_148 : decode cX6_spare 148 = .ok (.getfield 58, 3) := by decide +kernel
theorem dX6_spare_151 : decode cX6_spare 151 = .ok (.iload_n 3, 1) := by decide +kernel
theorem dX6_spare_152 : decode cX6_spare 152 = .ok (.i2l, 1) := by decide +kernel
theorem dX6_spare_153 : decode cX6_spare 153 = .ok (.invokevirtual 126, 3) := by decide +kernel
theorem dX6_spare_156 : decode cX6_spare 156 = .ok (.iload 4, 2) := by decide +kernel
theorem dX6_spare_158 : decode cX6_spare 158 = .ok (.ireturn, 1) := by decide +kernel
theorem dX6_sets_0 : decode cX6_sets 0 = .ok (.aload_n 0, 1) := by decide +kernel
theorem dX6_sets_1 : decode cX6_sets 1 = .ok (.getfield 36, 3) := by decide +kernel
theorem dX6_sets_4 : decode cX6_sets 4 = .ok (.aload_n 0, 1) := by decide +kernel
theorem dX6_sets_5 : decode cX6_sets 5 = .ok (.getfield 12, 3) := by decide +kernel
theorem dX6_sets_8 : decode cX6_sets 8 = .ok (.invokevirtual 73, 3) := by decide +kernel
theorem dX6_sets_11 : decode cX6_sets 11 = .ok (.aload_n 0, 1) := by decide +kernel
theorem dX6_sets_12 : decode cX6_sets 12 = .ok (.aload_n 0, 1) := by decide +kernel
theorem dX6_sets_13 : decode cX6_sets 13 = .ok (.iload_n 1, 1) := by decide +kernel
theorem dX6_sets_14 : decode cX6_sets 14 = .ok (.iload_n 2, 1) := by decide +kernel
theorem dX6_sets_15 : decode cX6_sets 15 = .ok (.invokevirtual 291, 3) := by decide +kernel
theorem dX6_sets_18 : decode cX6_sets 18 = .ok (.invokevirtual 87, 3) := by decide +kernel
theorem dX6_sets_21 : decode cX6_sets 21 = .ok (.ireturn, 1) := by decide +kernel
theorem dX6_weighs_0 : decode cX6_weighs 0 = .ok (.iload_n 1, 1) := by decide +kernel
theorem dX6_weighs_1 : decode cX6_weighs 1 = .ok (.ifCond .lt 21, 3) := by decide +kernel
theorem dX6_weighs_4 : decode cX6_weighs 4 = .ok (.iload_n 1, 1) := by decide +kernel
theorem dX6_weighs_5 : decode cX6_weighs 5 = .ok (.iconst 3, 1) := by decide +kernel
theorem dX6_weighs_6 : decode cX6_weighs 6 = .ok (.if_icmp .ge 16, 3) := by decide +kernel
theorem dX6_weighs_9 : decode cX6_weighs 9 = .ok (.iload_n 2, 1) := by decide +kernel
theorem dX6_weighs_10 : decode cX6_weighs 10 = .ok (.ifCond .lt 12, 3) := by decide +kernel
theorem dX6_weighs_13 : decode cX6_weighs 13 = .ok (.iload_n 2, 1) := by decide +kernel
theorem dX6_weighs_14 : decode cX6_weighs 14 = .ok (.getstatic 294, 3) := by decide +kernel
theorem dX6_weighs_17 : decode cX6_weighs 17 = .ok (.iload_n 1, 1) := by decide +kernel
theorem dX6_weighs_18 : decode cX6_weighs 18 = .ok (.iaload, 1) := by decide +kernel
theorem dX6_weighs_19 : decode cX6_weighs 19 = .ok (.if_icmp .le 5, 3) := by decide +kernel
theorem dX6_weighs_22 : decode cX6_weighs 22 = .ok (.iconst (-1), 1) := by decide +kernel
theorem dX6_weighs_23 : decode cX6_weighs 23 = .ok (.ireturn, 1) := by decide +kernel
theorem dX6_weighs_24 : decode cX6_weighs 24 = .ok (.aload_n 0, 1) := by decide +kernel
theorem dX6_weighs_25 : decode cX6_weighs 25 = .ok (.getfield 12, 3) := by decide +kernel
theorem dX6_weighs_28 : decode cX6_weighs 28 = .ok (.getfield 297, 3) := by decide +kernel
theorem dX6_weighs_31 : decode cX6_weighs 31 = .ok (.iload_n 1, 1) := by decide +kernel
theorem dX6_weighs_32 : decode cX6_weighs 32 = .ok (.iaload, 1) := by decide +kernel
theorem dX6_weighs_33 : decode cX6_weighs 33 = .ok (.istore_n 3, 1) := by decide +kernel
theorem dX6_weighs_34 : decode cX6_weighs 34 = .ok (.iload_n 3, 1) := by decide +kernel
theorem dX6_weighs_35 : decode cX6_weighs 35 = .ok (.iload_n 2, 1) := by decide +kernel
theorem dX6_weighs_36 : decode cX6_weighs 36 = .ok (.if_icmp .ne 6, 3) := by decide +kernel
theorem dX6_weighs_39 : decode cX6_weighs 39 = .ok (.bipush (-2), 2) := by decide +kernel
theorem dX6_weighs_41 : decode cX6_weighs 41 = .ok (.ireturn, 1) := by decide +kernel
theorem dX6_weighs_42 : decode cX6_weighs 42 = .ok (.aload_n 0, 1) := by decide +kernel
theorem dX6_weighs_43 : decode cX6_weighs 43 = .ok (.getfield 36, 3) := by decide +kernel
theorem dX6_weighs_46 : decode cX6_weighs 46 = .ok (.aload_n 0, 1) := by decide +kernel
theorem dX6_weighs_47 : decode cX6_weighs 47 = .ok (.getfield 12, 3) := by decide +kernel
theorem dX6_weighs_50 : decode cX6_weighs 50 = .ok (.invokevirtual 73, 3) := by decide +kernel
theorem dX6_weighs_53 : decode cX6_weighs 53 = .ok (.aload_n 0, 1) := by decide +kernel
theorem dX6_weighs_54 : decode cX6_weighs 54 = .ok (.getfield 12, 3) := by decide +kernel
theorem dX6_weighs_57 : decode cX6_weighs 57 = .ok (.getfield 297, 3) := by decide +kernel
theorem dX6_weighs_60 : decode cX6_weighs 60 = .ok (.iload_n 1, 1) := by decide +kernel
theorem dX6_weighs_61 : decode cX6_weighs 61 = .ok (.iload_n 2, 1) := by decide +kernel
theorem dX6_weighs_62 : decode cX6_weighs 62 = .ok (.iastore, 1) := by decide +kernel
theorem dX6_weighs_63 : decode cX6_weighs 63 = .ok (.aload_n 0, 1) := by decide +kernel
theorem dX6_weighs_64 : decode cX6_weighs 64 = .ok (.iload_n 3, 1) := by decide +kernel
theorem dX6_weighs_65 : decode cX6_weighs 65 = .ok (.invokevirtual 87, 3) := by decide +kernel
theorem dX6_weighs_68 : decode cX6_weighs 68 = .ok (.ireturn, 1) := by decide +kernel
theorem dX6_swaps_0 : decode cX6_swaps 0 = .ok (.aload_n 0, 1) := by decide +kernel
theorem dX6_swaps_1 : decode cX6_swaps 1 = .ok (.getfield 36, 3) := by decide +kernel
theorem dX6_swaps_4 : decode cX6_swaps 4 = .ok (.aload_n 0, 1) := by decide +kernel
theorem dX6_swaps_5 : decode cX6_swaps 5 = .ok (.getfield 12, 3) := by decide +kernel
theorem dX6_swaps_8 : decode cX6_swaps 8 = .ok (.invokevirtual 73, 3) := by decide +kernel
theorem dX6_swaps_11 : decode cX6_swaps 11 = .ok (.aload_n 0, 1) := by decide +kernel
theorem dX6_swaps_12 : decode cX6_swaps 12 = .ok (.aload_n 0, 1) := by decide +kernel
theorem dX6_swaps_13 : decode cX6_swaps 13 = .ok (.invokevirtual 300, 3) := by decide +kernel
theorem dX6_swaps_16 : decode cX6_swaps 16 = .ok (.invokevirtual 87, 3) := by decide +kernel
theorem dX6_swaps_19 : decode cX6_swaps 19 = .ok (.ireturn, 1) := by decide +kernel
theorem dX6_plans_0 : decode cX6_plans 0 = .ok (.aload_n 0, 1) := by decide +kernel
theorem dX6_plans_1 : decode cX6_plans 1 = .ok (.getfield 36, 3) := by decide +kernel
theorem dX6_plans_4 : decode cX6_plans 4 = .ok (.aload_n 0, 1) := by decide +kernel
theorem dX6_plans_5 : decode cX6_plans 5 = .ok (.getfield 12, 3) := by decide +kernel
theorem dX6_plans_8 : decode cX6_plans 8 = .ok (.invokevirtual 73, 3) := by decide +kernel
theorem dX6_plans_11 : decode cX6_plans 11 = .ok (.aload_n 0, 1) := by decide +kernel
theorem dX6_plans_12 : decode cX6_plans 12 = .ok (.aload_n 0, 1) := by decide +kernel
theorem dX6_plans_13 : decode cX6_plans 13 = .ok (.iload_n 1, 1) := by decide +kernel
theorem dX6_plans_14 : decode cX6_plans 14 = .ok (.iload_n 2, 1) := by decide +kernel
theorem dX6_plans_15 : decode cX6_plans 15 = .ok (.iload_n 3, 1) := by decide +kernel
theorem dX6_plans_16 : decode cX6_plans 16 = .ok (.invokevirtual 303, 3) := by decide +kernel
theorem dX6_plans_19 : decode cX6_plans 19 = .ok (.invokevirtual 87, 3) := by decide +kernel
theorem dX6_plans_22 : decode cX6_plans 22 = .ok (.ireturn, 1) := by decide +kernel
theorem dX6_takesBest_0 : decode cX6_takesBest 0 = .ok (.aload_n 0, 1) := by decide +kernel
theorem dX6_takesBest_1 : decode cX6_takesBest 1 = .ok (.getfield 36, 3) := by decide +kernel
theorem dX6_takesBest_4 : decode cX6_takesBest 4 = .ok (.aload_n 0, 1) := by decide +kernel
theorem dX6_takesBest_5 : decode cX6_takesBest 5 = .ok (.getfield 12, 3) := by decide +kernel
theorem dX6_takesBest_8 : decode cX6_takesBest 8 = .ok (.invokevirtual 73, 3) := by decide +kernel
theorem dX6_takesBest_11 : decode cX6_takesBest 11 = .ok (.aload_n 0, 1) := by decide +kernel
theorem dX6_takesBest_12 : decode cX6_takesBest 12 = .ok (.aload_n 0, 1) := by decide +kernel
theorem dX6_takesBest_13 : decode cX6_takesBest 13 = .ok (.iload_n 1, 1) := by decide +kernel
theorem dX6_takesBest_14 : decode cX6_takesBest 14 = .ok (.iload_n 2, 1) := by decide +kernel
theorem dX6_takesBest_15 : decode cX6_takesBest 15 = .ok (.invokevirtual 307, 3) := by decide +kernel
theorem dX6_takesBest_18 : decode cX6_takesBest 18 = .ok (.invokevirtual 87, 3) := by decide +kernel
theorem dX6_takesBest_21 : decode cX6_takesBest 21 = .ok (.ireturn, 1) := by decide +kernel
theorem dX6_comes_0 : decode cX6_comes 0 = .ok (.aload_n 0, 1) := by decide +kernel
theorem dX6_comes_1 : decode cX6_comes 1 = .ok (.getfield 36, 3) := by decide +kernel
theorem dX6_comes_4 : decode cX6_comes 4 = .ok (.aload_n 0, 1) := by decide +kernel
theorem dX6_comes_5 : decode cX6_comes 5 = .ok (.getfield 12, 3) := by decide +kernel
theorem dX6_comes_8 : decode cX6_comes 8 = .ok (.invokevirtual 73, 3) := by decide +kernel
theorem dX6_comes_11 : decode cX6_comes 11 = .ok (.aload_n 0, 1) := by decide +kernel
theorem dX6_comes_12 : decode cX6_comes 12 = .ok (.aload_n 0, 1) := by decide +kernel
theorem dX6_comes_13 : decode cX6_comes 13 = .ok (.getfield 12, 3) := by decide +kernel
theorem dX6_comes_16 : decode cX6_comes 16 = .ok (.iload_n 1, 1) := by decide +kernel
theorem dX6_comes_17 : decode cX6_comes 17 = .ok (.iload_n 2, 1) := by decide +kernel
theorem dX6_comes_18 : decode cX6_comes 18 = .ok (.iload_n 3, 1) := by decide +kernel
theorem dX6_comes_19 : decode cX6_comes 19 = .ok (.invokestatic 280, 3) := by decide +kernel
theorem dX6_comes_22 : decode cX6_comes 22 = .ok (.invokevirtual 87, 3) := by decide +kernel
theorem dX6_comes_25 : decode cX6_comes 25 = .ok (.ireturn, 1) := by decide +kernel
theorem dX6_goes_0 : decode cX6_goes 0 = .ok (.aload_n 0, 1) := by decide +kernel
theorem dX6_goes_1 : decode cX6_goes 1 = .ok (.getfield 36, 3) := by decide +kernel
theorem dX6_goes_4 : decode cX6_goes 4 = .ok (.aload_n 0, 1) := by decide +kernel
theorem dX6_goes_5 : decode cX6_goes 5 = .ok (.getfield 12, 3) := by decide +kernel
theorem dX6_goes_8 : decode cX6_goes 8 = .ok (.invokevirtual 73, 3) := by decide +kernel
theorem dX6_goes_11 : decode cX6_goes 11 = .ok (.aload_n 0, 1) := by decide +kernel
theorem dX6_goes_12 : decode cX6_goes 12 = .ok (.aload_n 0, 1) := by decide +kernel
theorem dX6_goes_13 : decode cX6_goes 13 = .ok (.getfield 12, 3) := by decide +kernel
theorem dX6_goes_16 : decode cX6_goes 16 = .ok (.iload_n 1, 1) := by decide +kernel
theorem dX6_goes_17 : decode cX6_goes 17 = .ok (.iload_n 2, 1) := by decide +kernel
theorem dX6_goes_18 : decode cX6_goes 18 = .ok (.invokestatic 287, 3) := by decide +kernel
theorem dX6_goes_21 : decode cX6_goes 21 = .ok (.invokevirtual 87, 3) := by decide +kernel
theorem dX6_goes_24 : decode cX6_goes 24 = .ok (.ireturn, 1) := by decide +kernel
theorem dX6_day_0 : decode cX6_day 0 = .ok (.aload_n 0, 1) := by decide +kernel
theorem dX6_day_1 : decode cX6_day 1 = .ok (.invokevirtual 310, 3) := by decide +kernel
theorem dX6_day_4 : decode cX6_day 4 = .ok (.istore_n 1, 1) := by decide +kernel
theorem dX6_day_5 : decode cX6_day 5 = .ok (.iload_n 1, 1) := by decide +kernel
theorem dX6_day_6 : decode cX6_day 6 = .ok (.ifCond .ge 12, 3) := by decide +kernel
theorem dX6_day_9 : decode cX6_day 9 = .ok (.aload_n 0, 1) := by decide +kernel
theorem dX6_day_10 : decode cX6_day 10 = .ok (.getfield 51, 3) := by decide +kernel
theorem dX6_day_13 : decode cX6_day 13 = .ok (.invokevirtual 84, 3) := by decide +kernel
theorem dX6_day_16 : decode cX6_day 16 = .ok (.iload_n 1, 1) := by decide +kernel
theorem dX6_day_17 : decode cX6_day 17 = .ok (.ireturn, 1) := by decide +kernel
theorem dX6_day_18 : decode cX6_day 18 = .ok (.aload_n 0, 1) := by decide +kernel
theorem dX6_day_19 : decode cX6_day 19 = .ok (.getfield 36, 3) := by decide +kernel
theorem dX6_day_22 : decode cX6_day 22 = .ok (.aload_n 0, 1) := by decide +kernel
theorem dX6_day_23 : decode cX6_day 23 = .ok (.getfield 12, 3) := by decide +kernel
theorem dX6_day_26 : decode cX6_day 26 = .ok (.invokevirtual 73, 3) := by decide +kernel
theorem dX6_day_29 : decode cX6_day 29 = .ok (.iconst 0, 1) := by decide +kernel
theorem dX6_day_30 : decode cX6_day 30 = .ok (.istore_n 2, 1) := by decide +kernel
theorem dX6_day_31 : decode cX6_day 31 = .ok (.iconst 0, 1) := by decide +kernel
theorem dX6_day_32 : decode cX6_day 32 = .ok (.istore_n 3, 1) := by decide +kernel
theorem dX6_day_33 : decode cX6_day 33 = .ok (.iconst 0, 1) := by decide +kernel
theorem dX6_day_34 : decode cX6_day 34 = .ok (.istore 4, 2) := by decide +kernel
theorem dX6_day_36 : decode cX6_day 36 = .ok (.iload 4, 2) := by decide +kernel
theorem dX6_day_38 : decode cX6_day 38 = .ok (.aload_n 0, 1) := by decide +kernel
theorem dX6_day_39 : decode cX6_day 39 = .ok (.getfield 51, 3) := by decide +kernel
theorem dX6_day_42 : decode cX6_day 42 = .ok (.getfield 66, 3) := by decide +kernel
theorem dX6_day_45 : decode cX6_day 45 = .ok (.if_icmp .ge 50, 3) := by decide +kernel
theorem dX6_day_48 : decode cX6_day 48 = .ok (.iload_n 3, 1) := by decide +kernel
theorem dX6_day_49 : decode cX6_day 49 = .ok (.ifCond .ne 46, 3) := by decide +kernel
theorem dX6_day_52 : decode cX6_day 52 = .ok (.aload_n 0, 1) := by decide +kernel
theorem dX6_day_53 : decode cX6_day 53 = .ok (.iload 4, 2) := by decide +kernel
theorem dX6_day_55 : decode cX6_day 55 = .ok (.invokevirtual 313, 3) := by decide +kernel
theorem dX6_day_58 : decode cX6_day 58 = .ok (.ifCond .ge 8, 3) := by decide +kernel
theorem dX6_day_61 : decode cX6_day 61 = .ok (.iconst 1, 1) := by decide +kernel
theorem dX6_day_62 : decode cX6_day 62 = .ok (.istore_n 3, 1) := by decide +kernel
theorem dX6_day_63 : decode cX6_day 63 = .ok (.goto 6, 3) := by decide +kernel
theorem dX6_day_66 : decode cX6_day 66 = .ok (.iinc 2 1, 3) := by decide +kernel
theorem dX6_day_69 : decode cX6_day 69 = .ok (.iload 4, 2) := by decide +kernel
theorem dX6_day_71 : decode cX6_day 71 = .ok (.iconst 1, 1) := by decide +kernel
theorem dX6_day_72 : decode cX6_day 72 = .ok (.iconst 0, 1) := by decide +kernel
theorem dX6_day_73 : decode cX6_day 73 = .ok (.aload_n 0, 1) := by decide +kernel
theorem dX6_day_74 : decode cX6_day 74 = .ok (.getfield 51, 3) := by decide +kernel
theorem dX6_day_77 : decode cX6_day 77 = .ok (.iload 4, 2) := by decide +kernel
theorem dX6_day_79 : decode cX6_day 79 = .ok (.invokevirtual 316, 3) := by decide +kernel
theorem dX6_day_82 : decode cX6_day 82 = .ok (.invokestatic 319, 3) := by decide +kernel
theorem dX6_day_85 : decode cX6_day 85 = .ok (.invokestatic 322, 3) := by decide +kernel
theorem dX6_day_88 : decode cX6_day 88 = .ok (.iadd, 1) := by decide +kernel
theorem dX6_day_89 : decode cX6_day 89 = .ok (.iadd, 1) := by decide +kernel
theorem dX6_day_90 : decode cX6_day 90 = .ok (.istore 4, 2) := by decide +kernel
theorem dX6_day_92 : decode cX6_day 92 = .ok (.goto (-56), 3) := by decide +kernel
theorem dX6_day_95 : decode cX6_day 95 = .ok (.aload_n 0, 1) := by decide +kernel
theorem dX6_day_96 : decode cX6_day 96 = .ok (.getfield 51, 3) := by decide +kernel
theorem dX6_day_99 : decode cX6_day 99 = .ok (.invokevirtual 84, 3) := by decide +kernel
theorem dX6_day_102 : decode cX6_day 102 = .ok (.iload_n 2, 1) := by decide +kernel
theorem dX6_day_103 : decode cX6_day 103 = .ok (.ifCond .le 10, 3) := by decide +kernel
theorem dX6_day_106 : decode cX6_day 106 = .ok (.aload_n 0, 1) := by decide +kernel
theorem dX6_day_107 : decode cX6_day 107 = .ok (.getfield 36, 3) := by decide +kernel
theorem dX6_day_110 : decode cX6_day 110 = .ok (.invokevirtual 327, 3) := by decide +kernel
theorem dX6_day_113 : decode cX6_day 113 = .ok (.aload_n 0, 1) := by decide +kernel
theorem dX6_day_114 : decode cX6_day 114 = .ok (.getfield 22, 3) := by decide +kernel
theorem dX6_day_117 : decode cX6_day 117 = .ok (.aload_n 0, 1) := by decide +kernel
theorem dX6_day_118 : decode cX6_day 118 = .ok (.getfield 12, 3) := by decide +kernel
theorem dX6_day_121 : decode cX6_day 121 = .ok (.invokevirtual 113, 3) := by decide +kernel
theorem dX6_day_124 : decode cX6_day 124 = .ok (.aload_n 0, 1) := by decide +kernel
theorem dX6_day_125 : decode cX6_day 125 = .ok (.getfield 58, 3) := by decide +kernel
theorem dX6_day_128 : decode cX6_day 128 = .ok (.iload_n 3, 1) := by decide +kernel
theorem dX6_day_129 : decode cX6_day 129 = .ok (.ifCond .eq 7, 3) := by decide +kernel
theorem dX6_day_132 : decode cX6_day 132 = .ok (.lconst 1, 1) := by decide +kernel
theorem dX6_day_133 : decode cX6_day 133 = .ok (.goto 4, 3) := by decide +kernel
theorem dX6_day_136 : decode cX6_day 136 = .ok (.lconst 0, 1) := by decide +kernel
theorem dX6_day_137 : decode cX6_day 137 = .ok (.aload_n 0, 1) := by decide +kernel
theorem dX6_day_138 : decode cX6_day 138 = .ok (.getfield 22, 3) := by decide +kernel
theorem dX6_day_141 : decode cX6_day 141 = .ok (.aload_n 0, 1) := by decide +kernel
theorem dX6_day_142 : decode cX6_day 142 = .ok (.getfield 12, 3) := by decide +kernel
theorem dX6_day_145 : decode cX6_day 145 = .ok (.invokevirtual 199, 3) := by decide +kernel
theorem dX6_day_148 : decode cX6_day 148 = .ok (.i2l, 1) := by decide +kernel
theorem dX6_day_149 : decode cX6_day 149 = .ok (.invokevirtual 105, 3) := by decide +kernel
theorem dX6_day_152 : decode cX6_day 152 = .ok (.iload_n 2, 1) := by decide +kernel
theorem dX6_day_153 : decode cX6_day 153 = .ok (.ireturn, 1) := by decide +kernel
theorem dX6_undo_0 : decode cX6_undo 0 = .ok (.aload_n 0, 1) := by decide +kernel
theorem dX6_undo_1 : decode cX6_undo 1 = .ok (.getfield 36, 3) := by decide +kernel
theorem dX6_undo_4 : decode cX6_undo 4 = .ok (.aload_n 0, 1) := by decide +kernel
theorem dX6_undo_5 : decode cX6_undo 5 = .ok (.getfield 12, 3) := by decide +kernel
theorem dX6_undo_8 : decode cX6_undo 8 = .ok (.invokevirtual 330, 3) := by decide +kernel
theorem dX6_undo_11 : decode cX6_undo 11 = .ok (.ifCond .eq 13, 3) := by decide +kernel
theorem dX6_undo_14 : decode cX6_undo 14 = .ok (.aload_n 0, 1) := by decide +kernel
theorem dX6_undo_15 : decode cX6_undo 15 = .ok (.getfield 36, 3) := by decide +kernel
theorem dX6_undo_18 : decode cX6_undo 18 = .ok (.getfield 334, 3) := by decide +kernel
theorem dX6_undo_21 : decode cX6_undo 21 = .ok (.goto 4, 3) := by decide +kernel
theorem dX6_undo_24 : decode cX6_undo 24 = .ok (.iconst (-1), 1) := by decide +kernel
theorem dX6_undo_25 : decode cX6_undo 25 = .ok (.ireturn, 1) := by decide +kernel
theorem dX6_years_0 : decode cX6_years 0 = .ok (.iload_n 2, 1) := by decide +kernel
theorem dX6_years_1 : decode cX6_years 1 = .ok (.iconst 1, 1) := by decide +kernel
theorem dX6_years_2 : decode cX6_years 2 = .ok (.if_icmp .lt 9, 3) := by decide +kernel
theorem dX6_years_5 : decode cX6_years 5 = .ok (.iload_n 2, 1) := by decide +kernel
theorem dX6_years_6 : decode cX6_years 6 = .ok (.bipush 30, 2) := by decide +kernel
theorem dX6_years_8 : decode cX6_years 8 = .ok (.if_icmp .le 5, 3) := by decide +kernel
theorem dX6_years_11 : decode cX6_years 11 = .ok (.iconst (-1), 1) := by decide +kernel
theorem dX6_years_12 : decode cX6_years 12 = .ok (.ireturn, 1) := by decide +kernel
theorem dX6_years_13 : decode cX6_years 13 = .ok (.aload_n 0, 1) := by decide +kernel
theorem dX6_years_14 : decode cX6_years 14 = .ok (.getfield 16, 3) := by decide +kernel
theorem dX6_years_17 : decode cX6_years 17 = .ok (.aload_n 0, 1) := by decide +kernel
theorem dX6_years_18 : decode cX6_years 18 = .ok (.getfield 12, 3) := by decide +kernel
theorem dX6_years_21 : decode cX6_years 21 = .ok (.invokevirtual 240, 3) := by decide +kernel
theorem dX6_years_24 : decode cX6_years 24 = .ok (.iload_n 1, 1) := by decide +kernel
theorem dX6_years_25 : decode cX6_years 25 = .ok (.istore_n 3, 1) := by decide +kernel
theorem dX6_years_26 : decode cX6_years 26 = .ok (.iconst 0, 1) := by decide +kernel
theorem dX6_years_27 : decode cX6_years 27 = .ok (.istore 4, 2) := by decide +kernel
theorem dX6_years_29 : decode cX6_years 29 = .ok (.iload 4, 2) := by decide +kernel
theorem dX6_years_31 : decode cX6_years 31 = .ok (.iload_n 2, 1) := by decide +kernel
theorem dX6_years_32 : decode cX6_years 32 = .ok (.if_icmp .ge 57, 3) := by decide +kernel
theorem dX6_years_35 : decode cX6_years 35 = .ok (.iload_n 3, 1) := by decide +kernel
theorem dX6_years_36 : decode cX6_years 36 = .ok (.invokestatic 335, 3) := by decide +kernel
theorem dX6_years_39 : decode cX6_years 39 = .ok (.istore_n 3, 1) := by decide +kernel
theorem dX6_years_40 : decode cX6_years 40 = .ok (.iload_n 3, 1) := by decide +kernel
theorem dX6_years_41 : decode cX6_years 41 = .ok (.iconst 3, 1) := by decide +kernel
theorem dX6_years_42 : decode cX6_years 42 = .ok (.invokestatic 338, 3) := by decide +kernel
theorem dX6_years_45 : decode cX6_years 45 = .ok (.istore 5, 2) := by decide +kernel
theorem dX6_years_47 : decode cX6_years 47 = .ok (.iload_n 3, 1) := by decide +kernel
theorem dX6_years_48 : decode cX6_years 48 = .ok (.invokestatic 335, 3) := by decide +kernel
theorem dX6_years_51 : decode cX6_years 51 = .ok (.istore_n 3, 1) := by decide +kernel
theorem dX6_years_52 : decode cX6_years 52 = .ok (.iload_n 3, 1) := by decide +kernel
theorem dX6_years_53 : decode cX6_years 53 = .ok (.bipush 9, 2) := by decide +kernel
theorem dX6_years_55 : decode cX6_years 55 = .ok (.invokestatic 338, 3) := by decide +kernel
theorem dX6_years_58 : decode cX6_years 58 = .ok (.iconst 1, 1) := by decide +kernel
theorem dX6_years_59 : decode cX6_years 59 = .ok (.iadd, 1) := by decide +kernel
theorem dX6_years_60 : decode cX6_years 60 = .ok (.istore 6, 2) := by decide +kernel
theorem dX6_years_62 : decode cX6_years 62 = .ok (.aload_n 0, 1) := by decide +kernel
theorem dX6_years_63 : decode cX6_years 63 = .ok (.getfield 16, 3) := by decide +kernel
theorem dX6_years_66 : decode cX6_years 66 = .ok (.iload 5, 2) := by decide +kernel
theorem dX6_years_68 : decode cX6_years 68 = .ok (.aload_n 0, 1) := by decide +kernel
theorem dX6_years_69 : decode cX6_years 69 = .ok (.getfield 16, 3) := by decide +kernel
theorem dX6_years_72 : decode cX6_years 72 = .ok (.getfield 231, 3) := by decide +kernel
theorem dX6_years_75 : decode cX6_years 75 = .ok (.iload 5, 2) := by decide +kernel
theorem dX6_years_77 : decode cX6_years 77 = .ok (.iaload, 1) := by decide +kernel
theorem dX6_years_78 : decode cX6_years 78 = .ok (.iload 6, 2) := by decide +kernel
theorem dX6_years_80 : decode cX6_years 80 = .ok (.invokevirtual 290, 3) := by decide +kernel
theorem dX6_years_83 : decode cX6_years 83 = .ok (.iinc 4 1, 3) := by decide +kernel
theorem dX6_years_86 : decode cX6_years 86 = .ok (.goto (-57), 3) := by decide +kernel
theorem dX6_years_89 : decode cX6_years 89 = .ok (.aload_n 0, 1) := by decide +kernel
theorem dX6_years_90 : decode cX6_years 90 = .ok (.getfield 22, 3) := by decide +kernel
theorem dX6_years_93 : decode cX6_years 93 = .ok (.aload_n 0, 1) := by decide +kernel
theorem dX6_years_94 : decode cX6_years 94 = .ok (.getfield 16, 3) := by decide +kernel
theorem dX6_years_97 : decode cX6_years 97 = .ok (.invokevirtual 113, 3) := by decide +kernel
theorem dX6_years_100 : decode cX6_years 100 = .ok (.aload_n 0, 1) := by decide +kernel
theorem dX6_years_101 : decode cX6_years 101 = .ok (.getfield 58, 3) := by decide +kernel
theorem dX6_years_104 : decode cX6_years 104 = .ok (.aload_n 0, 1) := by decide +kernel
theorem dX6_years_105 : decode cX6_years 105 = .ok (.getfield 22, 3) := by decide +kernel
theorem dX6_years_108 : decode cX6_years 108 = .ok (.aload_n 0, 1) := by decide +kernel
theorem dX6_years_109 : decode cX6_years 109 = .ok (.getfield 16, 3) := by decide +kernel
theorem dX6_years_112 : decode cX6_years 112 = .ok (.invokevirtual 199, 3) := by decide +kernel
theorem dX6_years_115 : decode cX6_years 115 = .ok (.i2l, 1) := by decide +kernel
theorem dX6_years_116 : decode cX6_years 116 = .ok (.aload_n 0, 1) := by decide +kernel
theorem dX6_years_117 : decode cX6_years 117 = .ok (.getfield 16, 3) := by decide +kernel
theorem dX6_years_120 : decode cX6_years 120 = .ok (.getfield 231, 3) := by decide +kernel
theorem dX6_years_123 : decode cX6_years 123 = .ok (.iconst 0, 1) := by decide +kernel
theorem dX6_years_124 : decode cX6_years 124 = .ok (.iaload, 1) := by decide +kernel
theorem dX6_years_125 : decode cX6_years 125 = .ok (.i2l, 1) := by decide +kernel
theorem dX6_years_126 : decode cX6_years 126 = .ok (.aload_n 0, 1) := by decide +kernel
theorem dX6_years_127 : decode cX6_years 127 = .ok (.getfield 16, 3) := by decide +kernel
theorem dX6_years_130 : decode cX6_years 130 = .ok (.getfield 231, 3) := by decide +kernel
theorem dX6_years_133 : decode cX6_years 133 = .ok (.iconst 1, 1) := by decide +kernel
theorem dX6_years_134 : decode cX6_years 134 = .ok (.iaload, 1) := by decide +kernel
theorem dX6_years_135 : decode cX6_years 135 = .ok (.i2l, 1) := by decide +kernel
theorem dX6_years_136 : decode cX6_years 136 = .ok (.aload_n 0, 1) := by decide +kernel
theorem dX6_years_137 : decode cX6_years 137 = .ok (.getfield 16, 3) := by decide +kernel
theorem dX6_years_140 : decode cX6_years 140 = .ok (.getfield 231, 3) := by decide +kernel
theorem dX6_years_143 : decode cX6_years 143 = .ok (.iconst 2, 1) := by decide +kernel
theorem dX6_years_144 : decode cX6_years 144 = .ok (.iaload, 1) := by decide +kernel
theorem dX6_years_145 : decode cX6_years 145 = .ok (.i2l, 1) := by decide +kernel
theorem dX6_years_146 : decode cX6_years 146 = .ok (.invokevirtual 149, 3) := by decide +kernel
theorem dX6_years_149 : decode cX6_years 149 = .ok (.aload_n 0, 1) := by decide +kernel
theorem dX6_years_150 : decode cX6_years 150 = .ok (.getfield 22, 3) := by decide +kernel
theorem dX6_years_153 : decode cX6_years 153 = .ok (.aload_n 0, 1) := by decide +kernel
theorem dX6_years_154 : decode cX6_years 154 = .ok (.getfield 16, 3) := by decide +kernel
theorem dX6_years_157 : decode cX6_years 157 = .ok (.invokevirtual 116, 3) := by decide +kernel
theorem dX6_years_160 : decode cX6_years 160 = .ok (.ireturn, 1) := by decide +kernel
theorem dX6_keep_0 : decode cX6_keep 0 = .ok (.iload_n 1, 1) := by decide +kernel
theorem dX6_keep_1 : decode cX6_keep 1 = .ok (.ifCond .lt 8, 3) := by decide +kernel
theorem dX6_keep_4 : decode cX6_keep 4 = .ok (.iload_n 1, 1) := by decide +kernel
theorem dX6_keep_5 : decode cX6_keep 5 = .ok (.iconst 2, 1) := by decide +kernel
theorem dX6_keep_6 : decode cX6_keep 6 = .ok (.if_icmp .lt 5, 3) := by decide +kernel
theorem dX6_keep_9 : decode cX6_keep 9 = .ok (.iconst 0, 1) := by decide +kernel
theorem dX6_keep_10 : decode cX6_keep 10 = .ok (.ireturn, 1) := by decide +kernel
theorem dX6_keep_11 : decode cX6_keep 11 = .ok (.aload_n 0, 1) := by decide +kernel
theorem dX6_keep_12 : decode cX6_keep 12 = .ok (.getfield 40, 3) := by decide +kernel
theorem dX6_keep_15 : decode cX6_keep 15 = .ok (.iload_n 1, 1) := by decide +kernel
theorem dX6_keep_16 : decode cX6_keep 16 = .ok (.aaload, 1) := by decide +kernel
theorem dX6_keep_17 : decode cX6_keep 17 = .ok (.aload_n 0, 1) := by decide +kernel
theorem dX6_keep_18 : decode cX6_keep 18 = .ok (.getfield 12, 3) := by decide +kernel
theorem dX6_keep_21 : decode cX6_keep 21 = .ok (.invokevirtual 240, 3) := by decide +kernel
theorem dX6_keep_24 : decode cX6_keep 24 = .ok (.aload_n 0, 1) := by decide +kernel
theorem dX6_keep_25 : decode cX6_keep 25 = .ok (.getfield 44, 3) := by decide +kernel
theorem dX6_keep_28 : decode cX6_keep 28 = .ok (.iload_n 1, 1) := by decide +kernel
theorem dX6_keep_29 : decode cX6_keep 29 = .ok (.iconst 1, 1) := by decide +kernel
theorem dX6_keep_30 : decode cX6_keep 30 = .ok (.bastore, 1) := by decide +kernel
theorem dX6_keep_31 : decode cX6_keep 31 = .ok (.iconst 1, 1) := by decide +kernel
theorem dX6_keep_32 : decode cX6_keep 32 = .ok (.ireturn, 1) := by decide +kernel
theorem dX6_again_0 : decode cX6_again 0 = .ok (.iload_n 1, 1) := by decide +kernel
theorem dX6_again_1 : decode cX6_again 1 = .ok (.ifCond .lt 17, 3) := by decide +kernel
theorem dX6_again_4 : decode cX6_again 4 = .ok (.iload_n 1, 1) := by decide +kernel
theorem dX6_again_5 : decode cX6_again 5 = .ok (.iconst 2, 1) := by decide +kernel
theorem dX6_again_6 : decode cX6_again 6 = .ok (.if_icmp .ge 12, 3) := by decide +kernel
theorem dX6_again_9 : decode cX6_again 9 = .ok (.aload_n 0, 1) := by decide +kernel
theorem dX6_again_10 : decode cX6_again 10 = .ok (.getfield 44, 3) := by decide +kernel
theorem dX6_again_13 : decode cX6_again 13 = .ok (.iload_n 1, 1) := by decide +kernel
theorem dX6_again_14 : decode cX6_again 14 = .ok (.baload, 1) := by decide +kernel
theorem dX6_again_15 : decode cX6_again 15 = .ok (.ifCond .ne 5, 3) := by decide +kernel
theorem dX6_again_18 : decode cX6_again 18 = .ok (.iconst 0, 1) := by decide +kernel
theorem dX6_again_19 : decode cX6_again 19 = .ok (.ireturn, 1) := by decide +kernel
theorem dX6_again_20 : decode cX6_again 20 = .ok (.aload_n 0, 1) := by decide +kernel
theorem dX6_again_21 : decode cX6_again 21 = .ok (.getfield 12, 3) := by decide +kernel
theorem dX6_again_24 : decode cX6_again 24 = .ok (.aload_n 0, 1) := by decide +kernel
theorem dX6_again_25 : decode cX6_again 25 = .ok (.getfield 40, 3) := by decide +kernel
theorem dX6_again_28 : decode cX6_again 28 = .ok (.iload_n 1, 1) := by decide +kernel
theorem dX6_again_29 : decode cX6_again 29 = .ok (.aaload, 1) := by decide +kernel
theorem dX6_again_30 : decode cX6_again 30 = .ok (.invokevirtual 240, 3) := by decide +kernel
theorem dX6_again_33 : decode cX6_again 33 = .ok (.aload_n 0, 1) := by decide +kernel
theorem dX6_again_34 : decode cX6_again 34 = .ok (.getfield 36, 3) := by decide +kernel
theorem dX6_again_37 : decode cX6_again 37 = .ok (.invokevirtual 341, 3) := by decide +kernel
theorem dX6_again_40 : decode cX6_again 40 = .ok (.iconst 1, 1) := by decide +kernel
theorem dX6_again_41 : decode cX6_again 41 = .ok (.ireturn, 1) := by decide +kernel
theorem dX6_count_0 : decode cX6_count 0 = .ok (.iload_n 1, 1) := by decide +kernel
theorem dX6_count_1 : decode cX6_count 1 = .ok (.tableswitch 184 0 15 #[79, 87, 95, 103, 111, 119, 119, 119, 131, 139, 147, 155, 163, 171, 171, 171], 79) := by decide +kernel
theorem dX6_count_80 : decode cX6_count 80 = .ok (.aload_n 0, 1) := by decide +kernel
theorem dX6_count_81 : decode cX6_count 81 = .ok (.getfield 12, 3) := by decide +kernel
theorem dX6_count_84 : decode cX6_count 84 = .ok (.getfield 168, 3) := by decide +kernel
theorem dX6_count_87 : decode cX6_count 87 = .ok (.ireturn, 1) := by decide +kernel
theorem dX6_count_88 : decode cX6_count 88 = .ok (.aload_n 0, 1) := by decide +kernel
theorem dX6_count_89 : decode cX6_count 89 = .ok (.getfield 12, 3) := by decide +kernel
theorem dX6_count_92 : decode cX6_count 92 = .ok (.getfield 123, 3) := by decide +kernel
theorem dX6_count_95 : decode cX6_count 95 = .ok (.ireturn, 1) := by decide +kernel
theorem dX6_count_96 : decode cX6_count 96 = .ok (.aload_n 0, 1) := by decide +kernel
theorem dX6_count_97 : decode cX6_count 97 = .ok (.getfield 12, 3) := by decide +kernel
theorem dX6_count_100 : decode cX6_count 100 = .ok (.getfield 344, 3) := by decide +kernel
theorem dX6_count_103 : decode cX6_count 103 = .ok (.ireturn, 1) := by decide +kernel
theorem dX6_count_104 : decode cX6_count 104 = .ok (.aload_n 0, 1) := by decide +kernel
theorem dX6_count_105 : decode cX6_count 105 = .ok (.getfield 12, 3) := by decide +kernel
theorem dX6_count_108 : decode cX6_count 108 = .ok (.getfield 345, 3) := by decide +kernel
theorem dX6_count_111 : decode cX6_count 111 = .ok (.ireturn, 1) := by decide +kernel
theorem dX6_count_112 : decode cX6_count 112 = .ok (.aload_n 0, 1) := by decide +kernel
theorem dX6_count_113 : decode cX6_count 113 = .ok (.getfield 12, 3) := by decide +kernel
theorem dX6_count_116 : decode cX6_count 116 = .ok (.getfield 346, 3) := by decide +kernel
theorem dX6_count_119 : decode cX6_count 119 = .ok (.ireturn, 1) := by decide +kernel
theorem dX6_count_120 : decode cX6_count 120 = .ok (.aload_n 0, 1) := by decide +kernel
theorem dX6_count_121 : decode cX6_count 121 = .ok (.getfield 12, 3) := by decide +kernel
theorem dX6_count_124 : decode cX6_count 124 = .ok (.getfield 231, 3) := by decide +kernel
theorem dX6_count_127 : decode cX6_count 127 = .ok (.iload_n 1, 1) := by decide +kernel
theorem dX6_count_128 : decode cX6_count 128 = .ok (.iconst 5, 1) := by decide +kernel
theorem dX6_count_129 : decode cX6_count 129 = .ok (.isub, 1) := by decide +kernel
theorem dX6_count_130 : decode cX6_count 130 = .ok (.iaload, 1) := by decide +kernel
theorem dX6_count_131 : decode cX6_count 131 = .ok (.ireturn, 1) := by decide +kernel
theorem dX6_count_132 : decode cX6_count 132 = .ok (.aload_n 0, 1) := by decide +kernel
theorem dX6_count_133 : decode cX6_count 133 = .ok (.getfield 12, 3) := by decide +kernel
theorem dX6_count_136 : decode cX6_count 136 = .ok (.getfield 213, 3) := by decide +kernel
theorem dX6_count_139 : decode cX6_count 139 = .ok (.ireturn, 1) := by decide +kernel
theorem dX6_count_140 : decode cX6_count 140 = .ok (.aload_n 0, 1) := by decide +kernel
theorem dX6_count_141 : decode cX6_count 141 = .ok (.getfield 36, 3) := by decide +kernel
theorem dX6_count_144 : decode cX6_count 144 = .ok (.getfield 334, 3) := by decide +kernel
theorem dX6_count_147 : decode cX6_count 147 = .ok (.ireturn, 1) := by decide +kernel
theorem dX6_count_148 : decode cX6_count 148 = .ok (.aload_n 0, 1) := by decide +kernel
theorem dX6_count_149 : decode cX6_count 149 = .ok (.getfield 58, 3) := by decide +kernel
theorem dX6_count_152 : decode cX6_count 152 = .ok (.getfield 347, 3) := by decide +kernel
theorem dX6_count_155 : decode cX6_count 155 = .ok (.ireturn, 1) := by decide +kernel
theorem dX6_count_156 : decode cX6_count 156 = .ok (.aload_n 0, 1) := by decide +kernel
theorem dX6_count_157 : decode cX6_count 157 = .ok (.getfield 51, 3) := by decide +kernel
theorem dX6_count_160 : decode cX6_count 160 = .ok (.getfield 66, 3) := by decide +kernel
theorem dX6_count_163 : decode cX6_count 163 = .ok (.ireturn, 1) := by decide +kernel
theorem dX6_count_164 : decode cX6_count 164 = .ok (.aload_n 0, 1) := by decide +kernel
theorem dX6_count_165 : decode cX6_count 165 = .ok (.getfield 12, 3) := by decide +kernel
theorem dX6_count_168 : decode cX6_count 168 = .ok (.getfield 348, 3) := by decide +kernel
theorem dX6_count_171 : decode cX6_count 171 = .ok (.ireturn, 1) := by decide +kernel
theorem dX6_count_172 : decode cX6_count 172 = .ok (.aload_n 0, 1) := by decide +kernel
theorem dX6_count_173 : decode cX6_count 173 = .ok (.getfield 12, 3) := by decide +kernel
theorem dX6_count_176 : decode cX6_count 176 = .ok (.getfield 297, 3) := by decide +kernel
theorem dX6_count_179 : decode cX6_count 179 = .ok (.iload_n 1, 1) := by decide +kernel
theorem dX6_count_180 : decode cX6_count 180 = .ok (.bipush 13, 2) := by decide +kernel
theorem dX6_count_182 : decode cX6_count 182 = .ok (.isub, 1) := by decide +kernel
theorem dX6_count_183 : decode cX6_count 183 = .ok (.iaload, 1) := by decide +kernel
theorem dX6_count_184 : decode cX6_count 184 = .ok (.ireturn, 1) := by decide +kernel
theorem dX6_count_185 : decode cX6_count 185 = .ok (.iconst (-1), 1) := by decide +kernel
theorem dX6_count_186 : decode cX6_count 186 = .ok (.ireturn, 1) := by decide +kernel
theorem dX6_row_0 : decode cX6_row 0 = .ok (.iload_n 1, 1) := by decide +kernel
theorem dX6_row_1 : decode cX6_row 1 = .ok (.ifCond .lt 14, 3) := by decide +kernel
theorem dX6_row_4 : decode cX6_row 4 = .ok (.iload_n 1, 1) := by decide +kernel
theorem dX6_row_5 : decode cX6_row 5 = .ok (.aload_n 0, 1) := by decide +kernel
theorem dX6_row_6 : decode cX6_row 6 = .ok (.getfield 58, 3) := by decide +kernel
theorem dX6_row_9 : decode cX6_row 9 = .ok (.getfield 347, 3) := by decide +kernel
theorem dX6_row_12 : decode cX6_row 12 = .ok (.if_icmp .lt 11, 3) := by decide +kernel
theorem dX6_row_15 : decode cX6_row 15 = .ok (.new 152, 3) := by decide +kernel
theorem dX6_row_18 : decode cX6_row 18 = .ok (.dup, 1) := by decide +kernel
theorem dX6_row_19 : decode cX6_row 19 = .ok (.invokespecial 154, 3) := by decide +kernel
theorem dX6_row_22 : decode cX6_row 22 = .ok (.athrow, 1) := by decide +kernel
theorem dX6_row_23 : decode cX6_row 23 = .ok (.aload_n 0, 1) := by decide +kernel
theorem dX6_row_24 : decode cX6_row 24 = .ok (.getfield 58, 3) := by decide +kernel
theorem dX6_row_27 : decode cX6_row 27 = .ok (.getfield 351, 3) := by decide +kernel
theorem dX6_row_30 : decode cX6_row 30 = .ok (.iload_n 1, 1) := by decide +kernel
theorem dX6_row_31 : decode cX6_row 31 = .ok (.laload, 1) := by decide +kernel
theorem dX6_row_32 : decode cX6_row 32 = .ok (.lreturn, 1) := by decide +kernel
theorem dX6_isText_0 : decode cX6_isText 0 = .ok (.iload_n 0, 1) := by decide +kernel
theorem dX6_isText_1 : decode cX6_isText 1 = .ok (.ifCond .lt 12, 3) := by decide +kernel
theorem dX6_isText_4 : decode cX6_isText 4 = .ok (.iload_n 0, 1) := by decide +kernel
theorem dX6_isText_5 : decode cX6_isText 5 = .ok (.iconst 3, 1) := by decide +kernel
theorem dX6_isText_6 : decode cX6_isText 6 = .ok (.if_icmp .ge 7, 3) := by decide +kernel
theorem dX6_isText_9 : decode cX6_isText 9 = .ok (.iconst 1, 1) := by decide +kernel
theorem dX6_isText_10 : decode cX6_isText 10 = .ok (.goto 4, 3) := by decide +kernel
theorem dX6_isText_13 : decode cX6_isText 13 = .ok (.iconst 0, 1) := by decide +kernel
theorem dX6_isText_14 : decode cX6_isText 14 = .ok (.ireturn, 1) := by decide +kernel
theorem dX6_isSize_0 : decode cX6_isSize 0 = .ok (.iload_n 0, 1) := by decide +kernel
theorem dX6_isSize_1 : decode cX6_isSize 1 = .ok (.iconst 1, 1) := by decide +kernel
theorem dX6_isSize_2 : decode cX6_isSize 2 = .ok (.if_icmp .lt 13, 3) := by decide +kernel
theorem dX6_isSize_5 : decode cX6_isSize 5 = .ok (.iload_n 0, 1) := by decide +kernel
theorem dX6_isSize_6 : decode cX6_isSize 6 = .ok (.bipush 9, 2) := by decide +kernel
theorem dX6_isSize_8 : decode cX6_isSize 8 = .ok (.if_icmp .gt 7, 3) := by decide +kernel
theorem dX6_isSize_11 : decode cX6_isSize 11 = .ok (.iconst 1, 1) := by decide +kernel
theorem dX6_isSize_12 : decode cX6_isSize 12 = .ok (.goto 4, 3) := by decide +kernel
theorem dX6_isSize_15 : decode cX6_isSize 15 = .ok (.iconst 0, 1) := by decide +kernel
theorem dX6_isSize_16 : decode cX6_isSize 16 = .ok (.ireturn, 1) := by decide +kernel
theorem dX6_isGrid_0 : decode cX6_isGrid 0 = .ok (.iload_n 0, 1) := by decide +kernel
theorem dX6_isGrid_1 : decode cX6_isGrid 1 = .ok (.ifCond .lt 24, 3) := by decide +kernel
theorem dX6_isGrid_4 : decode cX6_isGrid 4 = .ok (.iload_n 0, 1) := by decide +kernel
theorem dX6_isGrid_5 : decode cX6_isGrid 5 = .ok (.bipush 9, 2) := by decide +kernel
theorem dX6_isGrid_7 : decode cX6_isGrid 7 = .ok (.if_icmp .gt 18, 3) := by decide +kernel
theorem dX6_isGrid_10 : decode cX6_isGrid 10 = .ok (.iload_n 1, 1) := by decide +kernel
theorem dX6_isGrid_11 : decode cX6_isGrid 11 = .ok (.iconst 1, 1) := by decide +kernel
theorem dX6_isGrid_12 : decode cX6_isGrid 12 = .ok (.if_icmp .lt 13, 3) := by decide +kernel
theorem dX6_isGrid_15 : decode cX6_isGrid 15 = .ok (.iload_n 1, 1) := by decide +kernel
theorem dX6_isGrid_16 : decode cX6_isGrid 16 = .ok (.bipush 9, 2) := by decide +kernel
theorem dX6_isGrid_18 : decode cX6_isGrid 18 = .ok (.if_icmp .gt 7, 3) := by decide +kernel
theorem dX6_isGrid_21 : decode cX6_isGrid 21 = .ok (.iconst 1, 1) := by decide +kernel
theorem dX6_isGrid_22 : decode cX6_isGrid 22 = .ok (.goto 4, 3) := by decide +kernel
theorem dX6_isGrid_25 : decode cX6_isGrid 25 = .ok (.iconst 0, 1) := by decide +kernel
theorem dX6_isGrid_26 : decode cX6_isGrid 26 = .ok (.ireturn, 1) := by decide +kernel
theorem dX6_isBroken_0 : decode cX6_isBroken 0 = .ok (.iload_n 0, 1) := by decide +kernel
theorem dX6_isBroken_1 : decode cX6_isBroken 1 = .ok (.ifCond .lt 9, 3) := by decide +kernel
theorem dX6_isBroken_4 : decode cX6_isBroken 4 = .ok (.iload_n 0, 1) := by decide +kernel
theorem dX6_isBroken_5 : decode cX6_isBroken 5 = .ok (.bipush 6, 2) := by decide +kernel
theorem dX6_isBroken_7 : decode cX6_isBroken 7 = .ok (.if_icmp .le 7, 3) := by decide +kernel
theorem dX6_isBroken_10 : decode cX6_isBroken 10 = .ok (.iconst 1, 1) := by decide +kernel
theorem dX6_isBroken_11 : decode cX6_isBroken 11 = .ok (.goto 4, 3) := by decide +kernel
theorem dX6_isBroken_14 : decode cX6_isBroken 14 = .ok (.iconst 0, 1) := by decide +kernel
theorem dX6_isBroken_15 : decode cX6_isBroken 15 = .ok (.ireturn, 1) := by decide +kernel
theorem dX6_readWords_0 : decode cX6_readWords 0 = .ok (.iconst 0, 1) := by decide +kernel
theorem dX6_readWords_1 : decode cX6_readWords 1 = .ok (.istore_n 2, 1) := by decide +kernel
theorem dX6_readWords_2 : decode cX6_readWords 2 = .ok (.iload_n 2, 1) := by decide +kernel
theorem dX6_readWords_3 : decode cX6_readWords 3 = .ok (.aload_n 0, 1) := by decide +kernel
theorem dX6_readWords_4 : decode cX6_readWords 4 = .ok (.getfield 51, 3) := by decide +kernel
theorem dX6_readWords_7 : decode cX6_readWords 7 = .ok (.getfield 66, 3) := by decide +kernel
theorem dX6_readWords_10 : decode cX6_readWords 10 = .ok (.if_icmp .ge 31, 3) := by decide +kernel
theorem dX6_readWords_13 : decode cX6_readWords 13 = .ok (.iload_n 2, 1) := by decide +kernel
theorem dX6_readWords_14 : decode cX6_readWords 14 = .ok (.bipush 70, 2) := by decide +kernel
theorem dX6_readWords_16 : decode cX6_readWords 16 = .ok (.if_icmp .ge 15, 3) := by decide +kernel
theorem dX6_readWords_19 : decode cX6_readWords 19 = .ok (.aload_n 0, 1) := by decide +kernel
theorem dX6_readWords_20 : decode cX6_readWords 20 = .ok (.getfield 51, 3) := by decide +kernel
theorem dX6_readWords_23 : decode cX6_readWords 23 = .ok (.iload_n 2, 1) := by decide +kernel
theorem dX6_readWords_24 : decode cX6_readWords 24 = .ok (.invokevirtual 355, 3) := by decide +kernel
theorem dX6_readWords_27 : decode cX6_readWords 27 = .ok (.iconst 1, 1) := by decide +kernel
theorem dX6_readWords_28 : decode cX6_readWords 28 = .ok (.if_icmp .ge 7, 3) := by decide +kernel
theorem dX6_readWords_31 : decode cX6_readWords 31 = .ok (.iconst (-1), 1) := by decide +kernel
theorem dX6_readWords_32 : decode cX6_readWords 32 = .ok (.iload_n 2, 1) := by decide +kernel
theorem dX6_readWords_33 : decode cX6_readWords 33 = .ok (.isub, 1) := by decide +kernel
theorem dX6_readWords_34 : decode cX6_readWords 34 = .ok (.ireturn, 1) := by decide +kernel
theorem dX6_readWords_35 : decode cX6_readWords 35 = .ok (.iinc 2 1, 3) := by decide +kernel
theorem dX6_readWords_38 : decode cX6_readWords 38 = .ok (.goto (-36), 3) := by decide +kernel
theorem dX6_readWords_41 : decode cX6_readWords 41 = .ok (.aload_n 0, 1) := by decide +kernel
theorem dX6_readWords_42 : decode cX6_readWords 42 = .ok (.getfield 12, 3) := by decide +kernel
theorem dX6_readWords_45 : decode cX6_readWords 45 = .ok (.iload_n 1, 1) := by decide +kernel
theorem dX6_readWords_46 : decode cX6_readWords 46 = .ok (.invokevirtual 358, 3) := by decide +kernel
theorem dX6_readWords_49 : decode cX6_readWords 49 = .ok (.aload_n 0, 1) := by decide +kernel
theorem dX6_readWords_50 : decode cX6_readWords 50 = .ok (.getfield 12, 3) := by decide +kernel
theorem dX6_readWords_53 : decode cX6_readWords 53 = .ok (.getfield 231, 3) := by decide +kernel
theorem dX6_readWords_56 : decode cX6_readWords 56 = .ok (.iload_n 1, 1) := by decide +kernel
theorem dX6_readWords_57 : decode cX6_readWords 57 = .ok (.aload_n 0, 1) := by decide +kernel
theorem dX6_readWords_58 : decode cX6_readWords 58 = .ok (.getfield 51, 3) := by decide +kernel
theorem dX6_readWords_61 : decode cX6_readWords 61 = .ok (.getfield 66, 3) := by decide +kernel
theorem dX6_readWords_64 : decode cX6_readWords 64 = .ok (.iastore, 1) := by decide +kernel
theorem dX6_readWords_65 : decode cX6_readWords 65 = .ok (.iconst 0, 1) := by decide +kernel
theorem dX6_readWords_66 : decode cX6_readWords 66 = .ok (.istore_n 2, 1) := by decide +kernel
theorem dX6_readWords_67 : decode cX6_readWords 67 = .ok (.iload_n 2, 1) := by decide +kernel
theorem dX6_readWords_68 : decode cX6_readWords 68 = .ok (.aload_n 0, 1) := by decide +kernel
theorem dX6_readWords_69 : decode cX6_readWords 69 = .ok (.getfield 51, 3) := by decide +kernel
theorem dX6_readWords_72 : decode cX6_readWords 72 = .ok (.getfield 66, 3) := by decide +kernel
theorem dX6_readWords_75 : decode cX6_readWords 75 = .ok (.if_icmp .ge 27, 3) := by decide +kernel
theorem dX6_readWords_78 : decode cX6_readWords 78 = .ok (.aload_n 0, 1) := by decide +kernel
theorem dX6_readWords_79 : decode cX6_readWords 79 = .ok (.getfield 12, 3) := by decide +kernel
theorem dX6_readWords_82 : decode cX6_readWords 82 = .ok (.iload_n 1, 1) := by decide +kernel
theorem dX6_readWords_83 : decode cX6_readWords 83 = .ok (.iload_n 2, 1) := by decide +kernel
theorem dX6_readWords_84 : decode cX6_readWords 84 = .ok (.aload_n 0, 1) := by decide +kernel
theorem dX6_readWords_85 : decode cX6_readWords 85 = .ok (.getfield 51, 3) := by decide +kernel
theorem dX6_readWords_88 : decode cX6_readWords 88 = .ok (.iload_n 2, 1) := by decide +kernel
theorem dX6_readWords_89 : decode cX6_readWords 89 = .ok (.invokevirtual 355, 3) := by decide +kernel
theorem dX6_readWords_92 : decode cX6_readWords 92 = .ok (.invokevirtual 109, 3) := by decide +kernel
theorem dX6_readWords_95 : decode cX6_readWords 95 = .ok (.pop, 1) := by decide +kernel
theorem dX6_readWords_96 : decode cX6_readWords 96 = .ok (.iinc 2 1, 3) := by decide +kernel
theorem dX6_readWords_99 : decode cX6_readWords 99 = .ok (.goto (-32), 3) := by decide +kernel
theorem dX6_readWords_102 : decode cX6_readWords 102 = .ok (.aload_n 0, 1) := by decide +kernel
theorem dX6_readWords_103 : decode cX6_readWords 103 = .ok (.getfield 51, 3) := by decide +kernel
theorem dX6_readWords_106 : decode cX6_readWords 106 = .ok (.getfield 66, 3) := by decide +kernel
theorem dX6_readWords_109 : decode cX6_readWords 109 = .ok (.ireturn, 1) := by decide +kernel
theorem dX6_readTies_0 : decode cX6_readTies 0 = .ok (.aload_n 0, 1) := by decide +kernel
theorem dX6_readTies_1 : decode cX6_readTies 1 = .ok (.getfield 16, 3) := by decide +kernel
theorem dX6_readTies_4 : decode cX6_readTies 4 = .ok (.aload_n 0, 1) := by decide +kernel
theorem dX6_readTies_5 : decode cX6_readTies 5 = .ok (.getfield 12, 3) := by decide +kernel
theorem dX6_readTies_8 : decode cX6_readTies 8 = .ok (.invokevirtual 240, 3) := by decide +kernel
theorem dX6_readTies_11 : decode cX6_readTies 11 = .ok (.aload_n 0, 1) := by decide +kernel
theorem dX6_readTies_12 : decode cX6_readTies 12 = .ok (.getfield 16, 3) := by decide +kernel
theorem dX6_readTies_15 : decode cX6_readTies 15 = .ok (.iconst 0, 1) := by decide +kernel
theorem dX6_readTies_16 : decode cX6_readTies 16 = .ok (.putfield 213, 3) := by decide +kernel
theorem dX6_readTies_19 : decode cX6_readTies 19 = .ok (.iconst 0, 1) := by decide +kernel
theorem dX6_readTies_20 : decode cX6_readTies 20 = .ok (.istore_n 1, 1) := by decide +kernel
theorem dX6_readTies_21 : decode cX6_readTies 21 = .ok (.iload_n 1, 1) := by decide +kernel
theorem dX6_readTies_22 : decode cX6_readTies 22 = .ok (.aload_n 0, 1) := by decide +kernel
theorem dX6_readTies_23 : decode cX6_readTies 23 = .ok (.getfield 51, 3) := by decide +kernel
theorem dX6_readTies_26 : decode cX6_readTies 26 = .ok (.getfield 66, 3) := by decide +kernel
theorem dX6_readTies_29 : decode cX6_readTies 29 = .ok (.if_icmp .ge 21, 3) := by decide +kernel
theorem dX6_readTies_32 : decode cX6_readTies 32 = .ok (.aload_n 0, 1) := by decide +kernel
theorem dX6_readTies_33 : decode cX6_readTies 33 = .ok (.iload_n 1, 1) := by decide +kernel
theorem dX6_readTies_34 : decode cX6_readTies 34 = .ok (.invokevirtual 361, 3) := by decide +kernel
theorem dX6_readTies_37 : decode cX6_readTies 37 = .ok (.istore_n 2, 1) := by decide +kernel
theorem dX6_readTies_38 : decode cX6_readTies 38 = .ok (.iload_n 2, 1) := by decide +kernel
theorem dX6_readTies_39 : decode cX6_readTies 39 = .ok (.ifCond .ge 5, 3) := by decide +kernel
theorem dX6_readTies_42 : decode cX6_readTies 42 = .ok (.iload_n 2, 1) := by decide +kernel
theorem dX6_readTies_43 : decode cX6_readTies 43 = .ok (.ireturn, 1) := by decide +kernel
theorem dX6_readTies_44 : decode cX6_readTies 44 = .ok (.iinc 1 5, 3) := by decide +kernel
theorem dX6_readTies_47 : decode cX6_readTies 47 = .ok (.goto (-26), 3) := by decide +kernel
theorem dX6_readTies_50 : decode cX6_readTies 50 = .ok (.aload_n 0, 1) := by decide +kernel
theorem dX6_readTies_51 : decode cX6_readTies 51 = .ok (.getfield 12, 3) := by decide +kernel
theorem dX6_readTies_54 : decode cX6_readTies 54 = .ok (.aload_n 0, 1) := by decide +kernel
theorem dX6_readTies_55 : decode cX6_readTies 55 = .ok (.getfield 16, 3) := by decide +kernel
theorem dX6_readTies_58 : decode cX6_readTies 58 = .ok (.invokevirtual 240, 3) := by decide +kernel
theorem dX6_readTies_61 : decode cX6_readTies 61 = .ok (.aload_n 0, 1) := by decide +kernel
theorem dX6_readTies_62 : decode cX6_readTies 62 = .ok (.getfield 12, 3) := by decide +kernel
theorem dX6_readTies_65 : decode cX6_readTies 65 = .ok (.getfield 213, 3) := by decide +kernel
theorem dX6_readTies_68 : decode cX6_readTies 68 = .ok (.ireturn, 1) := by decide +kernel
theorem dX6_readTie_0 : decode cX6_readTie 0 = .ok (.aload_n 0, 1) := by decide +kernel
theorem dX6_readTie_1 : decode cX6_readTie 1 = .ok (.getfield 51, 3) := by decide +kernel
theorem dX6_readTie_4 : decode cX6_readTie 4 = .ok (.iload_n 1, 1) := by decide +kernel
theorem dX6_readTie_5 : decode cX6_readTie 5 = .ok (.invokevirtual 316, 3) := by decide +kernel
theorem dX6_readTie_8 : decode cX6_readTie 8 = .ok (.istore_n 2, 1) := by decide +kernel
theorem dX6_readTie_9 : decode cX6_readTie 9 = .ok (.iload_n 2, 1) := by decide +kernel
theorem dX6_readTie_10 : decode cX6_readTie 10 = .ok (.bipush 105, 2) := by decide +kernel
theorem dX6_readTie_12 : decode cX6_readTie 12 = .ok (.if_icmp .ne 7, 3) := by decide +kernel
theorem dX6_readTie_15 : decode cX6_readTie 15 = .ok (.iconst 1, 1) := by decide +kernel
theorem dX6_readTie_16 : decode cX6_readTie 16 = .ok (.goto 14, 3) := by decide +kernel
theorem dX6_readTie_19 : decode cX6_readTie 19 = .ok (.iload_n 2, 1) := by decide +kernel
theorem dX6_readTie_20 : decode cX6_readTie 20 = .ok (.bipush 111, 2) := by decide +kernel
theorem dX6_readTie_22 : decode cX6_readTie 22 = .ok (.if_icmp .ne 7, 3) := by decide +kernel
theorem dX6_readTie_25 : decode cX6_readTie 25 = .ok (.iconst 2, 1) := by decide +kernel
theorem dX6_readTie_26 : decode cX6_readTie 26 = .ok (.goto 4, 3) := by decide +kernel
theorem dX6_readTie_29 : decode cX6_readTie 29 = .ok (.iconst (-1), 1) := by decide +kernel
theorem dX6_readTie_30 : decode cX6_readTie 30 = .ok (.istore_n 3, 1) := by decide +kernel
theorem dX6_readTie_31 : decode cX6_readTie 31 = .ok (.iload_n 3, 1) := by decide +kernel
theorem dX6_readTie_32 : decode cX6_readTie 32 = .ok (.ifCond .lt 15, 3) := by decide +kernel
theorem dX6_readTie_35 : decode cX6_readTie 35 = .ok (.aload_n 0, 1) := by decide +kernel
theorem dX6_readTie_36 : decode cX6_readTie 36 = .ok (.getfield 16, 3) := by decide +kernel
theorem dX6_readTie_39 : decode cX6_readTie 39 = .ok (.getfield 213, 3) := by decide +kernel
theorem dX6_readTie_42 : decode cX6_readTie 42 = .ok (.bipush 12, 2) := by decide +kernel
theorem dX6_readTie_44 : decode cX6_readTie 44 = .ok (.if_icmp .lt 7, 3) := by decide +kernel
theorem dX6_readTie_47 : decode cX6_readTie 47 = .ok (.iconst (-1), 1) := by decide +kernel
theorem dX6_readTie_48 : decode cX6_readTie 48 = .ok (.iload_n 1, 1) := by decide +kernel
theorem dX6_readTie_49 : decode cX6_readTie 49 = .ok (.isub, 1) := by decide +kernel
theorem dX6_readTie_50 : decode cX6_readTie 50 = .ok (.ireturn, 1) := by decide +kernel
theorem dX6_readTie_51 : decode cX6_readTie 51 = .ok (.aload_n 0, 1) := by decide +kernel
theorem dX6_readTie_52 : decode cX6_readTie 52 = .ok (.getfield 51, 3) := by decide +kernel
theorem dX6_readTie_55 : decode cX6_readTie 55 = .ok (.iload_n 1, 1) := by decide +kernel
theorem dX6_readTie_56 : decode cX6_readTie 56 = .ok (.iconst 1, 1) := by decide +kernel
theorem dX6_readTie_57 : decode cX6_readTie 57 = .ok (.iadd, 1) := by decide +kernel
theorem dX6_readTie_58 : decode cX6_readTie 58 = .ok (.iconst 2, 1) := by decide +kernel
theorem dX6_readTie_59 : decode cX6_readTie 59 = .ok (.invokevirtual 364, 3) := by decide +kernel
theorem dX6_readTie_62 : decode cX6_readTie 62 = .ok (.istore 4, 2) := by decide +kernel
theorem dX6_readTie_64 : decode cX6_readTie 64 = .ok (.iload 4, 2) := by decide +kernel
theorem dX6_readTie_66 : decode cX6_readTie 66 = .ok (.ifCond .ge 6, 3) := by decide +kernel
theorem dX6_readTie_69 : decode cX6_readTie 69 = .ok (.iload 4, 2) := by decide +kernel
theorem dX6_readTie_71 : decode cX6_readTie 71 = .ok (.ireturn, 1) := by decide +kernel
theorem dX6_readTie_72 : decode cX6_readTie 72 = .ok (.aload_n 0, 1) := by decide +kernel
theorem dX6_readTie_73 : decode cX6_readTie 73 = .ok (.getfield 16, 3) := by decide +kernel
theorem dX6_readTie_76 : decode cX6_readTie 76 = .ok (.iload_n 3, 1) := by decide +kernel
theorem dX6_readTie_77 : decode cX6_readTie 77 = .ok (.iload 4, 2) := by decide +kernel
theorem dX6_readTie_79 : decode cX6_readTie 79 = .ok (.invokevirtual 94, 3) := by decide +kernel
theorem dX6_readTie_82 : decode cX6_readTie 82 = .ok (.ifCond .eq 16, 3) := by decide +kernel
theorem dX6_readTie_85 : decode cX6_readTie 85 = .ok (.aload_n 0, 1) := by decide +kernel
theorem dX6_readTie_86 : decode cX6_readTie 86 = .ok (.getfield 16, 3) := by decide +kernel
theorem dX6_readTie_89 : decode cX6_readTie 89 = .ok (.iload_n 3, 1) := by decide +kernel
theorem dX6_readTie_90 : decode cX6_readTie 90 = .ok (.iload 4, 2) := by decide +kernel
theorem dX6_readTie_92 : decode cX6_readTie 92 = .ok (.invokevirtual 234, 3) := by decide +kernel
theorem dX6_readTie_95 : decode cX6_readTie 95 = .ok (.ifCond .eq 9, 3) := by decide +kernel
theorem dX6_readTie_98 : decode cX6_readTie 98 = .ok (.iconst (-1), 1) := by decide +kernel
theorem dX6_readTie_99 : decode cX6_readTie 99 = .ok (.iload_n 1, 1) := by decide +kernel
theorem dX6_readTie_100 : decode cX6_readTie 100 = .ok (.iconst 2, 1) := by decide +kernel
theorem dX6_readTie_101 : decode cX6_readTie 101 = .ok (.iadd, 1) := by decide +kernel
theorem dX6_readTie_102 : decode cX6_readTie 102 = .ok (.isub, 1) := by decide +kernel
theorem dX6_readTie_103 : decode cX6_readTie 103 = .ok (.ireturn, 1) := by decide +kernel
theorem dX6_readTie_104 : decode cX6_readTie 104 = .ok (.aload_n 0, 1) := by decide +kernel
theorem dX6_readTie_105 : decode cX6_readTie 105 = .ok (.getfield 51, 3) := by decide +kernel
theorem dX6_readTie_108 : decode cX6_readTie 108 = .ok (.iload_n 1, 1) := by decide +kernel
theorem dX6_readTie_109 : decode cX6_readTie 109 = .ok (.iconst 3, 1) := by decide +kernel
theorem dX6_readTie_110 : decode cX6_readTie 110 = .ok (.iadd, 1) := by decide +kernel
theorem dX6_readTie_111 : decode cX6_readTie 111 = .ok (.iconst 2, 1) := by decide +kernel
theorem dX6_readTie_112 : decode cX6_readTie 112 = .ok (.invokevirtual 364, 3) := by decide +kernel
theorem dX6_readTie_115 : decode cX6_readTie 115 = .ok (.istore 5, 2) := by decide +kernel
theorem dX6_readTie_117 : decode cX6_readTie 117 = .ok (.iload 5, 2) := by decide +kernel
theorem dX6_readTie_119 : decode cX6_readTie 119 = .ok (.ifCond .ge 6, 3) := by decide +kernel
theorem dX6_readTie_122 : decode cX6_readTie 122 = .ok (.iload 5, 2) := by decide +kernel
theorem dX6_readTie_124 : decode cX6_readTie 124 = .ok (.ireturn, 1) := by decide +kernel
theorem dX6_readTie_125 : decode cX6_readTie 125 = .ok (.aload_n 0, 1) := by decide +kernel
theorem dX6_readTie_126 : decode cX6_readTie 126 = .ok (.getfield 16, 3) := by decide +kernel
theorem dX6_readTie_129 : decode cX6_readTie 129 = .ok (.iconst 0, 1) := by decide +kernel
theorem dX6_readTie_130 : decode cX6_readTie 130 = .ok (.iload 5, 2) := by decide +kernel
theorem dX6_readTie_132 : decode cX6_readTie 132 = .ok (.invokevirtual 94, 3) := by decide +kernel
theorem dX6_readTie_135 : decode cX6_readTie 135 = .ok (.ifCond .ne 9, 3) := by decide +kernel
theorem dX6_readTie_138 : decode cX6_readTie 138 = .ok (.iconst (-1), 1) := by decide +kernel
theorem dX6_readTie_139 : decode cX6_readTie 139 = .ok (.iload_n 1, 1) := by decide +kernel
theorem dX6_readTie_140 : decode cX6_readTie 140 = .ok (.iconst 4, 1) := by decide +kernel
theorem dX6_readTie_141 : decode cX6_readTie 141 = .ok (.iadd, 1) := by decide +kernel
theorem dX6_readTie_142 : decode cX6_readTie 142 = .ok (.isub, 1) := by decide +kernel
theorem dX6_readTie_143 : decode cX6_readTie 143 = .ok (.ireturn, 1) := by decide +kernel
theorem dX6_readTie_144 : decode cX6_readTie 144 = .ok (.aload_n 0, 1) := by decide +kernel
theorem dX6_readTie_145 : decode cX6_readTie 145 = .ok (.getfield 16, 3) := by decide +kernel
theorem dX6_readTie_148 : decode cX6_readTie 148 = .ok (.iload_n 3, 1) := by decide +kernel
theorem dX6_readTie_149 : decode cX6_readTie 149 = .ok (.iload 4, 2) := by decide +kernel
theorem dX6_readTie_151 : decode cX6_readTie 151 = .ok (.iload 5, 2) := by decide +kernel
theorem dX6_readTie_153 : decode cX6_readTie 153 = .ok (.invokevirtual 367, 3) := by decide +kernel
theorem dX6_readTie_156 : decode cX6_readTie 156 = .ok (.iconst 0, 1) := by decide +kernel
theorem dX6_readTie_157 : decode cX6_readTie 157 = .ok (.ireturn, 1) := by decide +kernel
theorem dX6_entry_0 : decode cX6_entry 0 = .ok (.iload_n 1, 1) := by decide +kernel
theorem dX6_entry_1 : decode cX6_entry 1 = .ok (.iload_n 3, 1) := by decide +kernel
theorem dX6_entry_2 : decode cX6_entry 2 = .ok (.iload_n 2, 1) := by decide +kernel
theorem dX6_entry_3 : decode cX6_entry 3 = .ok (.imul, 1) := by decide +kernel
theorem dX6_entry_4 : decode cX6_entry 4 = .ok (.iadd, 1) := by decide +kernel
theorem dX6_entry_5 : decode cX6_entry 5 = .ok (.istore 4, 2) := by decide +kernel
theorem dX6_entry_7 : decode cX6_entry 7 = .ok (.iload_n 0, 1) := by decide +kernel
theorem dX6_entry_8 : decode cX6_entry 8 = .ok (.ifCond .ne 9, 3) := by decide +kernel
theorem dX6_entry_11 : decode cX6_entry 11 = .ok (.iload 4, 2) := by decide +kernel
theorem dX6_entry_13 : decode cX6_entry 13 = .ok (.i2b, 1) := by decide +kernel
theorem dX6_entry_14 : decode cX6_entry 14 = .ok (.goto 16, 3) := by decide +kernel
theorem dX6_entry_17 : decode cX6_entry 17 = .ok (.iload_n 0, 1) := by decide +kernel
theorem dX6_entry_18 : decode cX6_entry 18 = .ok (.iconst 1, 1) := by decide +kernel
theorem dX6_entry_19 : decode cX6_entry 19 = .ok (.if_icmp .ne 9, 3) := by decide +kernel
theorem dX6_entry_22 : decode cX6_entry 22 = .ok (.iload 4, 2) := by decide +kernel
theorem dX6_entry_24 : decode cX6_entry 24 = .ok (.i2s, 1) := by decide +kernel
theorem dX6_entry_25 : decode cX6_entry 25 = .ok (.goto 5, 3) := by decide +kernel
theorem dX6_entry_28 : decode cX6_entry 28 = .ok (.iload 4, 2) := by decide +kernel
theorem dX6_entry_30 : decode cX6_entry 30 = .ok (.ireturn, 1) := by decide +kernel
theorem dX6_digitsOf_0 : decode cX6_digitsOf 0 = .ok (.iload_n 0, 1) := by decide +kernel
theorem dX6_digitsOf_1 : decode cX6_digitsOf 1 = .ok (.tableswitch 119 98 120 #[111, 115, 119, 119, 119, 113, 111, 119, 119, 119, 119, 119, 119, 119, 117, 119, 119, 119, 119, 109, 119, 111, 107], 107) := by decide +kernel
theorem dX6_digitsOf_108 : decode cX6_digitsOf 108 = .ok (.iconst 0, 1) := by decide +kernel
theorem dX6_digitsOf_109 : decode cX6_digitsOf 109 = .ok (.ireturn, 1) := by decide +kernel
theorem dX6_digitsOf_110 : decode cX6_digitsOf 110 = .ok (.iconst 1, 1) := by decide +kernel
theorem dX6_digitsOf_111 : decode cX6_digitsOf 111 = .ok (.ireturn, 1) := by decide +kernel
theorem dX6_digitsOf_112 : decode cX6_digitsOf 112 = .ok (.iconst 2, 1) := by decide +kernel
theorem dX6_digitsOf_113 : decode cX6_digitsOf 113 = .ok (.ireturn, 1) := by decide +kernel
theorem dX6_digitsOf_114 : decode cX6_digitsOf 114 = .ok (.iconst 3, 1) := by decide +kernel
theorem dX6_digitsOf_115 : decode cX6_digitsOf 115 = .ok (.ireturn, 1) := by decide +kernel
theorem dX6_digitsOf_116 : decode cX6_digitsOf 116 = .ok (.iconst 4, 1) := by decide +kernel
theorem dX6_digitsOf_117 : decode cX6_digitsOf 117 = .ok (.ireturn, 1) := by decide +kernel
theorem dX6_digitsOf_118 : decode cX6_digitsOf 118 = .ok (.iconst 5, 1) := by decide +kernel
theorem dX6_digitsOf_119 : decode cX6_digitsOf 119 = .ok (.ireturn, 1) := by decide +kernel
theorem dX6_digitsOf_120 : decode cX6_digitsOf 120 = .ok (.iconst (-1), 1) := by decide +kernel
theorem dX6_digitsOf_121 : decode cX6_digitsOf 121 = .ok (.ireturn, 1) := by decide +kernel
theorem dX6_faultOfDay_0 : decode cX6_faultOfDay 0 = .ok (.iconst 0, 1) := by decide +kernel
theorem dX6_faultOfDay_1 : decode cX6_faultOfDay 1 = .ok (.istore_n 1, 1) := by decide +kernel
theorem dX6_faultOfDay_2 : decode cX6_faultOfDay 2 = .ok (.iload_n 1, 1) := by decide +kernel
theorem dX6_faultOfDay_3 : decode cX6_faultOfDay 3 = .ok (.aload_n 0, 1) := by decide +kernel
theorem dX6_faultOfDay_4 : decode cX6_faultOfDay 4 = .ok (.getfield 51, 3) := by decide +kernel
theorem dX6_faultOfDay_7 : decode cX6_faultOfDay 7 = .ok (.getfield 66, 3) := by decide +kernel
theorem dX6_faultOfDay_10 : decode cX6_faultOfDay 10 = .ok (.if_icmp .ge 50, 3) := by decide +kernel
theorem dX6_faultOfDay_13 : decode cX6_faultOfDay 13 = .ok (.aload_n 0, 1) := by decide +kernel
theorem dX6_faultOfDay_14 : decode cX6_faultOfDay 14 = .ok (.getfield 51, 3) := by decide +kernel
theorem dX6_faultOfDay_17 : decode cX6_faultOfDay 17 = .ok (.iload_n 1, 1) := by decide +kernel
theorem dX6_faultOfDay_18 : decode cX6_faultOfDay 18 = .ok (.invokevirtual 316, 3) := by decide +kernel
theorem dX6_faultOfDay_21 : decode cX6_faultOfDay 21 = .ok (.invokestatic 319, 3) := by decide +kernel
theorem dX6_faultOfDay_24 : decode cX6_faultOfDay 24 = .ok (.istore_n 2, 1) := by decide +kernel
theorem dX6_faultOfDay_25 : decode cX6_faultOfDay 25 = .ok (.iload_n 2, 1) := by decide +kernel
theorem dX6_faultOfDay_26 : decode cX6_faultOfDay 26 = .ok (.ifCond .ge 7, 3) := by decide +kernel
theorem dX6_faultOfDay_29 : decode cX6_faultOfDay 29 = .ok (.iconst (-1), 1) := by decide +kernel
theorem dX6_faultOfDay_30 : decode cX6_faultOfDay 30 = .ok (.iload_n 1, 1) := by decide +kernel
theorem dX6_faultOfDay_31 : decode cX6_faultOfDay 31 = .ok (.isub, 1) := by decide +kernel
theorem dX6_faultOfDay_32 : decode cX6_faultOfDay 32 = .ok (.ireturn, 1) := by decide +kernel
theorem dX6_faultOfDay_33 : decode cX6_faultOfDay 33 = .ok (.aload_n 0, 1) := by decide +kernel
theorem dX6_faultOfDay_34 : decode cX6_faultOfDay 34 = .ok (.getfield 51, 3) := by decide +kernel
theorem dX6_faultOfDay_37 : decode cX6_faultOfDay 37 = .ok (.iload_n 1, 1) := by decide +kernel
theorem dX6_faultOfDay_38 : decode cX6_faultOfDay 38 = .ok (.iconst 1, 1) := by decide +kernel
theorem dX6_faultOfDay_39 : decode cX6_faultOfDay 39 = .ok (.iadd, 1) := by decide +kernel
theorem dX6_faultOfDay_40 : decode cX6_faultOfDay 40 = .ok (.iload_n 2, 1) := by decide +kernel
theorem dX6_faultOfDay_41 : decode cX6_faultOfDay 41 = .ok (.invokevirtual 364, 3) := by decide +kernel
theorem dX6_faultOfDay_44 : decode cX6_faultOfDay 44 = .ok (.istore_n 3, 1) := by decide +kernel
theorem dX6_faultOfDay_45 : decode cX6_faultOfDay 45 = .ok (.iload_n 3, 1) := by decide +kernel
theorem dX6_faultOfDay_46 : decode cX6_faultOfDay 46 = .ok (.ifCond .ge 5, 3) := by decide +kernel
theorem dX6_faultOfDay_49 : decode cX6_faultOfDay 49 = .ok (.iload_n 3, 1) := by decide +kernel
theorem dX6_faultOfDay_50 : decode cX6_faultOfDay 50 = .ok (.ireturn, 1) := by decide +kernel
theorem dX6_faultOfDay_51 : decode cX6_faultOfDay 51 = .ok (.iload_n 1, 1) := by decide +kernel
theorem dX6_faultOfDay_52 : decode cX6_faultOfDay 52 = .ok (.iconst 1, 1) := by decide +kernel
theorem dX6_faultOfDay_53 : decode cX6_faultOfDay 53 = .ok (.iload_n 2, 1) := by decide +kernel
theorem dX6_faultOfDay_54 : decode cX6_faultOfDay 54 = .ok (.iadd, 1) := by decide +kernel
theorem dX6_faultOfDay_55 : decode cX6_faultOfDay 55 = .ok (.iadd, 1) := by decide +kernel
theorem dX6_faultOfDay_56 : decode cX6_faultOfDay 56 = .ok (.istore_n 1, 1) := by decide +kernel
theorem dX6_faultOfDay_57 : decode cX6_faultOfDay 57 = .ok (.goto (-55), 3) := by decide +kernel
theorem dX6_faultOfDay_60 : decode cX6_faultOfDay 60 = .ok (.iconst 0, 1) := by decide +kernel
theorem dX6_faultOfDay_61 : decode cX6_faultOfDay 61 = .ok (.ireturn, 1) := by decide +kernel
theorem dX6_doAct_0 : decode cX6_doAct 0 = .ok (.aload_n 0, 1) := by decide +kernel
theorem dX6_doAct_1 : decode cX6_doAct 1 = .ok (.getfield 51, 3) := by decide +kernel
theorem dX6_doAct_4 : decode cX6_doAct 4 = .ok (.iload_n 1, 1) := by decide +kernel
theorem dX6_doAct_5 : decode cX6_doAct 5 = .ok (.invokevirtual 316, 3) := by decide +kernel
theorem dX6_doAct_8 : decode cX6_doAct 8 = .ok (.tableswitch 300 98 120 #[273, 202, 300, 300, 300, 243, 125, 300, 300, 300, 300, 300, 300, 300, 164, 300, 300, 300, 300, 142, 300, 108, 159], 108) := by decide +kernel
theorem dX6_doAct_116 : decode cX6_doAct 116 = .ok (.aload_n 0, 1) := by decide +kernel
theorem dX6_doAct_117 : decode cX6_doAct 117 = .ok (.iconst 0, 1) := by decide +kernel
theorem dX6_doAct_118 : decode cX6_doAct 118 = .ok (.aload_n 0, 1) := by decide +kernel
theorem dX6_doAct_119 : decode cX6_doAct 119 = .ok (.getfield 51, 3) := by decide +kernel
theorem dX6_doAct_122 : decode cX6_doAct 122 = .ok (.iload_n 1, 1) := by decide +kernel
theorem dX6_doAct_123 : decode cX6_doAct 123 = .ok (.iconst 1, 1) := by decide +kernel
theorem dX6_doAct_124 : decode cX6_doAct 124 = .ok (.iadd, 1) := by decide +kernel
theorem dX6_doAct_125 : decode cX6_doAct 125 = .ok (.iconst 2, 1) := by decide +kernel
theorem dX6_doAct_126 : decode cX6_doAct 126 = .ok (.invokevirtual 364, 3) := by decide +kernel
theorem dX6_doAct_129 : decode cX6_doAct 129 = .ok (.invokevirtual 291, 3) := by decide +kernel
theorem dX6_doAct_132 : decode cX6_doAct 132 = .ok (.ireturn, 1) := by decide +kernel
theorem dX6_doAct_133 : decode cX6_doAct 133 = .ok (.aload_n 0, 1) := by decide +kernel
theorem dX6_doAct_134 : decode cX6_doAct 134 = .ok (.iconst 1, 1) := by decide +kernel
theorem dX6_doAct_135 : decode cX6_doAct 135 = .ok (.aload_n 0, 1) := by decide +kernel
theorem dX6_doAct_136 : decode cX6_doAct 136 = .ok (.getfield 51, 3) := by decide +kernel
theorem dX6_doAct_139 : decode cX6_doAct 139 = .ok (.iload_n 1, 1) := by decide +kernel
theorem dX6_doAct_140 : decode cX6_doAct 140 = .ok (.iconst 1, 1) := by decide +kernel
theorem dX6_doAct_141 : decode cX6_doAct 141 = .ok (.iadd, 1) := by decide +kernel
theorem dX6_doAct_142 : decode cX6_doAct 142 = .ok (.iconst 2, 1) := by decide +kernel
theorem dX6_doAct_143 : decode cX6_doAct 143 = .ok (.invokevirtual 364, 3) := by decide +kernel
theorem dX6_doAct_146 : decode cX6_doAct 146 = .ok (.invokevirtual 291, 3) := by decide +kernel
theorem dX6_doAct_149 : decode cX6_doAct 149 = .ok (.ireturn, 1) := by decide +kernel
theorem dX6_doAct_150 : decode cX6_doAct 150 = .ok (.aload_n 0, 1) := by decide +kernel
theorem dX6_doAct_151 : decode cX6_doAct 151 = .ok (.iconst 2, 1) := by decide +kernel
theorem dX6_doAct_152 : decode cX6_doAct 152 = .ok (.aload_n 0, 1) := by decide +kernel
theorem dX6_doAct_153 : decode cX6_doAct 153 = .ok (.getfield 51, 3) := by decide +kernel
theorem dX6_doAct_156 : decode cX6_doAct 156 = .ok (.iload_n 1, 1) := by decide +kernel
theorem dX6_doAct_157 : decode cX6_doAct 157 = .ok (.iconst 1, 1) := by decide +kernel
theorem dX6_doAct_158 : decode cX6_doAct 158 = .ok (.iadd, 1) := by decide +kernel
theorem dX6_doAct_159 : decode cX6_doAct 159 = .ok (.iconst 1, 1) := by decide +kernel
theorem dX6_doAct_160 : decode cX6_doAct 160 = .ok (.invokevirtual 364, 3) := by decide +kernel
theorem dX6_doAct_163 : decode cX6_doAct 163 = .ok (.invokevirtual 291, 3) := by decide +kernel
theorem dX6_doAct_166 : decode cX6_doAct 166 = .ok (.ireturn, 1) := by decide +kernel
theorem dX6_doAct_167 : decode cX6_doAct 167 = .ok (.aload_n 0, 1) := by decide +kernel
theorem dX6_doAct_168 : decode cX6_doAct 168 = .ok (.invokevirtual 300, 3) := by decide +kernel
theorem dX6_doAct_171 : decode cX6_doAct 171 = .ok (.ireturn, 1) := by decide +kernel
theorem dX6_doAct_172 : decode cX6_doAct 172 = .ok (.aload_n 0, 1) := by decide +kernel
theorem dX6_doAct_173 : decode cX6_doAct 173 = .ok (.aload_n 0, 1) := by decide +kernel
theorem dX6_doAct_174 : decode cX6_doAct 174 = .ok (.getfield 51, 3) := by decide +kernel
theorem dX6_doAct_177 : decode cX6_doAct 177 = .ok (.iload_n 1, 1) := by decide +kernel
theorem dX6_doAct_178 : decode cX6_doAct 178 = .ok (.iconst 1, 1) := by decide +kernel
theorem dX6_doAct_179 : decode cX6_doAct 179 = .ok (.iadd, 1) := by decide +kernel
theorem dX6_doAct_180 : decode cX6_doAct 180 = .ok (.iconst 1, 1) := by decide +kernel
theorem dX6_doAct_181 : decode cX6_doAct 181 = .ok (.invokevirtual 364, 3) := by decide +kernel
theorem dX6_doAct_184 : decode cX6_doAct 184 = .ok (.aload_n 0, 1) := by decide +kernel
theorem dX6_doAct_185 : decode cX6_doAct 185 = .ok (.getfield 51, 3) := by decide +kernel
theorem dX6_doAct_188 : decode cX6_doAct 188 = .ok (.iload_n 1, 1) := by decide +kernel
theorem dX6_doAct_189 : decode cX6_doAct 189 = .ok (.iconst 2, 1) := by decide +kernel
theorem dX6_doAct_190 : decode cX6_doAct 190 = .ok (.iadd, 1) := by decide +kernel
theorem dX6_doAct_191 : decode cX6_doAct 191 = .ok (.iconst 2, 1) := by decide +kernel
theorem dX6_doAct_192 : decode cX6_doAct 192 = .ok (.invokevirtual 364, 3) := by decide +kernel
theorem dX6_doAct_195 : decode cX6_doAct 195 = .ok (.aload_n 0, 1) := by decide +kernel
theorem dX6_doAct_196 : decode cX6_doAct 196 = .ok (.getfield 51, 3) := by decide +kernel
theorem dX6_doAct_199 : decode cX6_doAct 199 = .ok (.iload_n 1, 1) := by decide +kernel
theorem dX6_doAct_200 : decode cX6_doAct 200 = .ok (.iconst 4, 1) := by decide +kernel
theorem dX6_doAct_201 : decode cX6_doAct 201 = .ok (.iadd, 1) := by decide +kernel
theorem dX6_doAct_202 : decode cX6_doAct 202 = .ok (.iconst 2, 1) := by decide +kernel
theorem dX6_doAct_203 : decode cX6_doAct 203 = .ok (.invokevirtual 364, 3) := by decide +kernel
theorem dX6_doAct_206 : decode cX6_doAct 206 = .ok (.invokevirtual 303, 3) := by decide +kernel
theorem dX6_doAct_209 : decode cX6_doAct 209 = .ok (.ireturn, 1) := by decide +kernel
theorem dX6_doAct_210 : decode cX6_doAct 210 = .ok (.aload_n 0, 1) := by decide +kernel
theorem dX6_doAct_211 : decode cX6_doAct 211 = .ok (.getfield 12, 3) := by decide +kernel
theorem dX6_doAct_214 : decode cX6_doAct 214 = .ok (.aload_n 0, 1) := by decide +kernel
theorem dX6_doAct_215 : decode cX6_doAct 215 = .ok (.getfield 51, 3) := by decide +kernel
theorem dX6_doAct_218 : decode cX6_doAct 218 = .ok (.iload_n 1, 1) := by decide +kernel
theorem dX6_doAct_219 : decode cX6_doAct 219 = .ok (.iconst 1, 1) := by decide +kernel
theorem dX6_doAct_220 : decode cX6_doAct 220 = .ok (.iadd, 1) := by decide +kernel
theorem dX6_doAct_221 : decode cX6_doAct 221 = .ok (.iconst 1, 1) := by decide +kernel
theorem dX6_doAct_222 : decode cX6_doAct 222 = .ok (.invokevirtual 364, 3) := by decide +kernel
theorem dX6_doAct_225 : decode cX6_doAct 225 = .ok (.aload_n 0, 1) := by decide +kernel
theorem dX6_doAct_226 : decode cX6_doAct 226 = .ok (.getfield 51, 3) := by decide +kernel
theorem dX6_doAct_229 : decode cX6_doAct 229 = .ok (.iload_n 1, 1) := by decide +kernel
theorem dX6_doAct_230 : decode cX6_doAct 230 = .ok (.iconst 2, 1) := by decide +kernel
theorem dX6_doAct_231 : decode cX6_doAct 231 = .ok (.iadd, 1) := by decide +kernel
theorem dX6_doAct_232 : decode cX6_doAct 232 = .ok (.iconst 2, 1) := by decide +kernel
theorem dX6_doAct_233 : decode cX6_doAct 233 = .ok (.invokevirtual 364, 3) := by decide +kernel
theorem dX6_doAct_236 : decode cX6_doAct 236 = .ok (.aload_n 0, 1) := by decide +kernel
theorem dX6_doAct_237 : decode cX6_doAct 237 = .ok (.getfield 51, 3) := by decide +kernel
theorem dX6_doAct_240 : decode cX6_doAct 240 = .ok (.iload_n 1, 1) := by decide +kernel
theorem dX6_doAct_241 : decode cX6_doAct 241 = .ok (.iconst 4, 1) := by decide +kernel
theorem dX6_doAct_242 : decode cX6_doAct 242 = .ok (.iadd, 1) := by decide +kernel
theorem dX6_doAct_243 : decode cX6_doAct 243 = .ok (.iconst 1, 1) := by decide +kernel
theorem dX6_doAct_244 : decode cX6_doAct 244 = .ok (.invokevirtual 364, 3) := by decide +kernel
theorem dX6_doAct_247 : decode cX6_doAct 247 = .ok (.invokestatic 280, 3) := by decide +kernel
theorem dX6_doAct_250 : decode cX6_doAct 250 = .ok (.ireturn, 1) := by decide +kernel
theorem dX6_doAct_251 : decode cX6_doAct 251 = .ok (.aload_n 0, 1) := by decide +kernel
theorem dX6_doAct_252 : decode cX6_doAct 252 = .ok (.getfield 12, 3) := by decide +kernel
theorem dX6_doAct_255 : decode cX6_doAct 255 = .ok (.aload_n 0, 1) := by decide +kernel
theorem dX6_doAct_256 : decode cX6_doAct 256 = .ok (.getfield 51, 3) := by decide +kernel
theorem dX6_doAct_259 : decode cX6_doAct 259 = .ok (.iload_n 1, 1) := by decide +kernel
theorem dX6_doAct_260 : decode cX6_doAct 260 = .ok (.iconst 1, 1) := by decide +kernel
theorem dX6_doAct_261 : decode cX6_doAct 261 = .ok (.iadd, 1) := by decide +kernel
theorem dX6_doAct_262 : decode cX6_doAct 262 = .ok (.iconst 1, 1) := by decide +kernel
theorem dX6_doAct_263 : decode cX6_doAct 263 = .ok (.invokevirtual 364, 3) := by decide +kernel
theorem dX6_doAct_266 : decode cX6_doAct 266 = .ok (.aload_n 0, 1) := by decide +kernel
theorem dX6_doAct_267 : decode cX6_doAct 267 = .ok (.getfield 51, 3) := by decide +kernel
theorem dX6_doAct_270 : decode cX6_doAct 270 = .ok (.iload_n 1, 1) := by decide +kernel
theorem dX6_doAct_271 : decode cX6_doAct 271 = .ok (.iconst 2, 1) := by decide +kernel
theorem dX6_doAct_272 : decode cX6_doAct 272 = .ok (.iadd, 1) := by decide +kernel
theorem dX6_doAct_273 : decode cX6_doAct 273 = .ok (.iconst 2, 1) := by decide +kernel
theorem dX6_doAct_274 : decode cX6_doAct 274 = .ok (.invokevirtual 364, 3) := by decide +kernel
theorem dX6_doAct_277 : decode cX6_doAct 277 = .ok (.invokestatic 287, 3) := by decide +kernel
theorem dX6_doAct_280 : decode cX6_doAct 280 = .ok (.ireturn, 1) := by decide +kernel
theorem dX6_doAct_281 : decode cX6_doAct 281 = .ok (.aload_n 0, 1) := by decide +kernel
theorem dX6_doAct_282 : decode cX6_doAct 282 = .ok (.aload_n 0, 1) := by decide +kernel
theorem dX6_doAct_283 : decode cX6_doAct 283 = .ok (.getfield 51, 3) := by decide +kernel
theorem dX6_doAct_286 : decode cX6_doAct 286 = .ok (.iload_n 1, 1) := by decide +kernel
theorem dX6_doAct_287 : decode cX6_doAct 287 = .ok (.iconst 1, 1) := by decide +kernel
theorem dX6_doAct_288 : decode cX6_doAct 288 = .ok (.iadd, 1) := by decide +kernel
theorem dX6_doAct_289 : decode cX6_doAct 289 = .ok (.iconst 1, 1) := by decide +kernel
theorem dX6_doAct_290 : decode cX6_doAct 290 = .ok (.invokevirtual 364, 3) := by decide +kernel
theorem dX6_doAct_293 : decode cX6_doAct 293 = .ok (.aload_n 0, 1) := by decide +kernel
theorem dX6_doAct_294 : decode cX6_doAct 294 = .ok (.getfield 51, 3) := by decide +kernel
theorem dX6_doAct_297 : decode cX6_doAct 297 = .ok (.iload_n 1, 1) := by decide +kernel
theorem dX6_doAct_298 : decode cX6_doAct 298 = .ok (.iconst 2, 1) := by decide +kernel
theorem dX6_doAct_299 : decode cX6_doAct 299 = .ok (.iadd, 1) := by decide +kernel
theorem dX6_doAct_300 : decode cX6_doAct 300 = .ok (.iconst 1, 1) := by decide +kernel
theorem dX6_doAct_301 : decode cX6_doAct 301 = .ok (.invokevirtual 364, 3) := by decide +kernel
theorem dX6_doAct_304 : decode cX6_doAct 304 = .ok (.invokevirtual 307, 3) := by decide +kernel
theorem dX6_doAct_307 : decode cX6_doAct 307 = .ok (.ireturn, 1) := by decide +kernel
theorem dX6_doAct_308 : decode cX6_doAct 308 = .ok (.iconst (-1), 1) := by decide +kernel
theorem dX6_doAct_309 : decode cX6_doAct 309 = .ok (.ireturn, 1) := by decide +kernel
theorem dX6_remembered_0 : decode cX6_remembered 0 = .ok (.iload_n 1, 1) := by decide +kernel
theorem dX6_remembered_1 : decode cX6_remembered 1 = .ok (.ifCond .lt 10, 3) := by decide +kernel
theorem dX6_remembered_4 : decode cX6_remembered 4 = .ok (.aload_n 0, 1) := by decide +kernel
theorem dX6_remembered_5 : decode cX6_remembered 5 = .ok (.getfield 36, 3) := by decide +kernel
theorem dX6_remembered_8 : decode cX6_remembered 8 = .ok (.invokevirtual 327, 3) := by decide +kernel
theorem dX6_remembered_11 : decode cX6_remembered 11 = .ok (.iload_n 1, 1) := by decide +kernel
theorem dX6_remembered_12 : decode cX6_remembered 12 = .ok (.ireturn, 1) := by decide +kernel
theorem dX6_setMeasure_0 : decode cX6_setMeasure 0 = .ok (.iload_n 1, 1) := by decide +kernel
theorem dX6_setMeasure_1 : decode cX6_setMeasure 1 = .ok (.ifCond .lt 26, 3) := by decide +kernel
theorem dX6_setMeasure_4 : decode cX6_setMeasure 4 = .ok (.iload_n 1, 1) := by decide +kernel
theorem dX6_setMeasure_5 : decode cX6_setMeasure 5 = .ok (.iconst 3, 1) := by decide +kernel
theorem dX6_setMeasure_6 : decode cX6_setMeasure 6 = .ok (.if_icmp .ge 21, 3) := by decide +kernel
theorem dX6_setMeasure_9 : decode cX6_setMeasure 9 = .ok (.iload_n 2, 1) := by decide +kernel
theorem dX6_setMeasure_10 : decode cX6_setMeasure 10 = .ok (.getstatic 370, 3) := by decide +kernel
theorem dX6_setMeasure_13 : decode cX6_setMeasure 13 = .ok (.iload_n 1, 1) := by decide +kernel
theorem dX6_setMeasure_14 : decode cX6_setMeasure 14 = .ok (.iaload, 1) := by decide +kernel
theorem dX6_setMeasure_15 : decode cX6_setMeasure 15 = .ok (.if_icmp .lt 12, 3) := by decide +kernel
theorem dX6_setMeasure_18 : decode cX6_setMeasure 18 = .ok (.iload_n 2, 1) := by decide +kernel
theorem dX6_setMeasure_19 : decode cX6_setMeasure 19 = .ok (.getstatic 373, 3) := by decide +kernel
theorem dX6_setMeasure_22 : decode cX6_setMeasure 22 = .ok (.iload_n 1, 1) := by decide +kernel
theorem dX6_setMeasure_23 : decode cX6_setMeasure 23 = .ok (.iaload, 1) := by decide +kernel
theorem dX6_setMeasure_24 : decode cX6_setMeasure 24 = .ok (.if_icmp .le 5, 3) := by decide +kernel
theorem dX6_setMeasure_27 : decode cX6_setMeasure 27 = .ok (.iconst (-1), 1) := by decide +kernel
theorem dX6_setMeasure_28 : decode cX6_setMeasure 28 = .ok (.ireturn, 1) := by decide +kernel
theorem dX6_setMeasure_29 : decode cX6_setMeasure 29 = .ok (.aload_n 0, 1) := by decide +kernel
theorem dX6_setMeasure_30 : decode cX6_setMeasure 30 = .ok (.getfield 12, 3) := by decide +kernel
theorem dX6_setMeasure_33 : decode cX6_setMeasure 33 = .ok (.iload_n 1, 1) := by decide +kernel
theorem dX6_setMeasure_34 : decode cX6_setMeasure 34 = .ok (.invokevirtual 376, 3) := by decide +kernel
theorem dX6_setMeasure_37 : decode cX6_setMeasure 37 = .ok (.istore_n 3, 1) := by decide +kernel
theorem dX6_setMeasure_38 : decode cX6_setMeasure 38 = .ok (.iload_n 3, 1) := by decide +kernel
theorem dX6_setMeasure_39 : decode cX6_setMeasure 39 = .ok (.iload_n 2, 1) := by decide +kernel
theorem dX6_setMeasure_40 : decode cX6_setMeasure 40 = .ok (.if_icmp .ne 6, 3) := by decide +kernel
theorem dX6_setMeasure_43 : decode cX6_setMeasure 43 = .ok (.bipush (-2), 2) := by decide +kernel
theorem dX6_setMeasure_45 : decode cX6_setMeasure 45 = .ok (.ireturn, 1) := by decide +kernel
theorem dX6_setMeasure_46 : decode cX6_setMeasure 46 = .ok (.aload_n 0, 1) := by decide +kernel
theorem dX6_setMeasure_47 : decode cX6_setMeasure 47 = .ok (.getfield 12, 3) := by decide +kernel
theorem dX6_setMeasure_50 : decode cX6_setMeasure 50 = .ok (.iload_n 1, 1) := by decide +kernel
theorem dX6_setMeasure_51 : decode cX6_setMeasure 51 = .ok (.iload_n 2, 1) := by decide +kernel
theorem dX6_setMeasure_52 : decode cX6_setMeasure 52 = .ok (.invokevirtual 379, 3) := by decide +kernel
theorem dX6_setMeasure_55 : decode cX6_setMeasure 55 = .ok (.aload_n 0, 1) := by decide +kernel
theorem dX6_setMeasure_56 : decode cX6_setMeasure 56 = .ok (.getfield 12, 3) := by decide +kernel
theorem dX6_setMeasure_59 : decode cX6_setMeasure 59 = .ok (.invokevirtual 382, 3) := by decide +kernel
theorem dX6_setMeasure_62 : decode cX6_setMeasure 62 = .ok (.ifCond .ne 15, 3) := by decide +kernel
theorem dX6_setMeasure_65 : decode cX6_setMeasure 65 = .ok (.aload_n 0, 1) := by decide +kernel
theorem dX6_setMeasure_66 : decode cX6_setMeasure 66 = .ok (.getfield 12, 3) := by decide +kernel
theorem dX6_setMeasure_69 : decode cX6_setMeasure 69 = .ok (.iload_n 1, 1) := by decide +kernel
theorem dX6_setMeasure_70 : decode cX6_setMeasure 70 = .ok (.iload_n 3, 1) := by decide +kernel
theorem dX6_setMeasure_71 : decode cX6_setMeasure 71 = .ok (.invokevirtual 379, 3) := by decide +kernel
theorem dX6_setMeasure_74 : decode cX6_setMeasure 74 = .ok (.bipush (-3), 2) := by decide +kernel
theorem dX6_setMeasure_76 : decode cX6_setMeasure 76 = .ok (.ireturn, 1) := by decide +kernel
theorem dX6_setMeasure_77 : decode cX6_setMeasure 77 = .ok (.iload_n 3, 1) := by decide +kernel
theorem dX6_setMeasure_78 : decode cX6_setMeasure 78 = .ok (.ireturn, 1) := by decide +kernel
theorem dX6_swapComments_0 : decode cX6_swapComments 0 = .ok (.aload_n 0, 1) := by decide +kernel
theorem dX6_swapComments_1 : decode cX6_swapComments 1 = .ok (.getfield 12, 3) := by decide +kernel
theorem dX6_swapComments_4 : decode cX6_swapComments 4 = .ok (.getfield 231, 3) := by decide +kernel
theorem dX6_swapComments_7 : decode cX6_swapComments 7 = .ok (.iconst 1, 1) := by decide +kernel
theorem dX6_swapComments_8 : decode cX6_swapComments 8 = .ok (.iaload, 1) := by decide +kernel
theorem dX6_swapComments_9 : decode cX6_swapComments 9 = .ok (.ifCond .ne 18, 3) := by decide +kernel
theorem dX6_swapComments_12 : decode cX6_swapComments 12 = .ok (.aload_n 0, 1) := by decide +kernel
theorem dX6_swapComments_13 : decode cX6_swapComments 13 = .ok (.getfield 12, 3) := by decide +kernel
theorem dX6_swapComments_16 : decode cX6_swapComments 16 = .ok (.getfield 231, 3) := by decide +kernel
theorem dX6_swapComments_19 : decode cX6_swapComments 19 = .ok (.iconst 2, 1) := by decide +kernel
theorem dX6_swapComments_20 : decode cX6_swapComments 20 = .ok (.iaload, 1) := by decide +kernel
theorem dX6_swapComments_21 : decode cX6_swapComments 21 = .ok (.ifCond .ne 6, 3) := by decide +kernel
theorem dX6_swapComments_24 : decode cX6_swapComments 24 = .ok (.bipush (-2), 2) := by decide +kernel
theorem dX6_swapComments_26 : decode cX6_swapComments 26 = .ok (.ireturn, 1) := by decide +kernel
theorem dX6_swapComments_27 : decode cX6_swapComments 27 = .ok (.aload_n 0, 1) := by decide +kernel
theorem dX6_swapComments_28 : decode cX6_swapComments 28 = .ok (.getfield 12, 3) := by decide +kernel
theorem dX6_swapComments_31 : decode cX6_swapComments 31 = .ok (.invokevirtual 386, 3) := by decide +kernel
theorem dX6_swapComments_34 : decode cX6_swapComments 34 = .ok (.aload_n 0, 1) := by decide +kernel
theorem dX6_swapComments_35 : decode cX6_swapComments 35 = .ok (.getfield 12, 3) := by decide +kernel
theorem dX6_swapComments_38 : decode cX6_swapComments 38 = .ok (.getfield 231, 3) := by decide +kernel
theorem dX6_swapComments_41 : decode cX6_swapComments 41 = .ok (.iconst 1, 1) := by decide +kernel
theorem dX6_swapComments_42 : decode cX6_swapComments 42 = .ok (.iaload, 1) := by decide +kernel
theorem dX6_swapComments_43 : decode cX6_swapComments 43 = .ok (.ireturn, 1) := by decide +kernel
theorem dX6_setPlan_0 : decode cX6_setPlan 0 = .ok (.aload_n 0, 1) := by decide +kernel
theorem dX6_setPlan_1 : decode cX6_setPlan 1 = .ok (.getfield 12, 3) := by decide +kernel
theorem dX6_setPlan_4 : decode cX6_setPlan 4 = .ok (.iload_n 1, 1) := by decide +kernel
theorem dX6_setPlan_5 : decode cX6_setPlan 5 = .ok (.iload_n 2, 1) := by decide +kernel
theorem dX6_setPlan_6 : decode cX6_setPlan 6 = .ok (.iload_n 3, 1) := by decide +kernel
theorem dX6_setPlan_7 : decode cX6_setPlan 7 = .ok (.invokevirtual 237, 3) := by decide +kernel
theorem dX6_setPlan_10 : decode cX6_setPlan 10 = .ok (.ifCond .ne 5, 3) := by decide +kernel
theorem dX6_setPlan_13 : decode cX6_setPlan 13 = .ok (.iconst (-1), 1) := by decide +kernel
theorem dX6_setPlan_14 : decode cX6_setPlan 14 = .ok (.ireturn, 1) := by decide +kernel
theorem dX6_setPlan_15 : decode cX6_setPlan 15 = .ok (.aload_n 0, 1) := by decide +kernel
theorem dX6_setPlan_16 : decode cX6_setPlan 16 = .ok (.getfield 12, 3) := by decide +kernel
theorem dX6_setPlan_19 : decode cX6_setPlan 19 = .ok (.iload_n 1, 1) := by decide +kernel
theorem dX6_setPlan_20 : decode cX6_setPlan 20 = .ok (.iload_n 2, 1) := by decide +kernel
theorem dX6_setPlan_21 : decode cX6_setPlan 21 = .ok (.iload_n 3, 1) := by decide +kernel
theorem dX6_setPlan_22 : decode cX6_setPlan 22 = .ok (.invokevirtual 389, 3) := by decide +kernel
theorem dX6_setPlan_25 : decode cX6_setPlan 25 = .ok (.ifCond .eq 6, 3) := by decide +kernel
theorem dX6_setPlan_28 : decode cX6_setPlan 28 = .ok (.bipush (-2), 2) := by decide +kernel
theorem dX6_setPlan_30 : decode cX6_setPlan 30 = .ok (.ireturn, 1) := by decide +kernel
theorem dX6_setPlan_31 : decode cX6_setPlan 31 = .ok (.sipush 10000, 3) := by decide +kernel
theorem dX6_setPlan_34 : decode cX6_setPlan 34 = .ok (.aload_n 0, 1) := by decide +kernel
theorem dX6_setPlan_35 : decode cX6_setPlan 35 = .ok (.getfield 12, 3) := by decide +kernel
theorem dX6_setPlan_38 : decode cX6_setPlan 38 = .ok (.getfield 344, 3) := by decide +kernel
theorem dX6_setPlan_41 : decode cX6_setPlan 41 = .ok (.imul, 1) := by decide +kernel
theorem dX6_setPlan_42 : decode cX6_setPlan 42 = .ok (.bipush 100, 2) := by decide +kernel
theorem dX6_setPlan_44 : decode cX6_setPlan 44 = .ok (.aload_n 0, 1) := by decide +kernel
theorem dX6_setPlan_45 : decode cX6_setPlan 45 = .ok (.getfield 12, 3) := by decide +kernel
theorem dX6_setPlan_48 : decode cX6_setPlan 48 = .ok (.getfield 345, 3) := by decide +kernel
theorem dX6_setPlan_51 : decode cX6_setPlan 51 = .ok (.imul, 1) := by decide +kernel
theorem dX6_setPlan_52 : decode cX6_setPlan 52 = .ok (.iadd, 1) := by decide +kernel
theorem dX6_setPlan_53 : decode cX6_setPlan 53 = .ok (.aload_n 0, 1) := by decide +kernel
theorem dX6_setPlan_54 : decode cX6_setPlan 54 = .ok (.getfield 12, 3) := by decide +kernel
theorem dX6_setPlan_57 : decode cX6_setPlan 57 = .ok (.getfield 346, 3) := by decide +kernel
theorem dX6_setPlan_60 : decode cX6_setPlan 60 = .ok (.iadd, 1) := by decide +kernel
theorem dX6_setPlan_61 : decode cX6_setPlan 61 = .ok (.istore 4, 2) := by decide +kernel
theorem dX6_setPlan_63 : decode cX6_setPlan 63 = .ok (.aload_n 0, 1) := by decide +kernel
theorem dX6_setPlan_64 : decode cX6_setPlan 64 = .ok (.getfield 12, 3) := by decide +kernel
theorem dX6_setPlan_67 : decode cX6_setPlan 67 = .ok (.iload_n 1, 1) := by decide +kernel
theorem dX6_setPlan_68 : decode cX6_setPlan 68 = .ok (.iload_n 2, 1) := by decide +kernel
theorem dX6_setPlan_69 : decode cX6_setPlan 69 = .ok (.iload_n 3, 1) := by decide +kernel
theorem dX6_setPlan_70 : decode cX6_setPlan 70 = .ok (.invokevirtual 243, 3) := by decide +kernel
theorem dX6_setPlan_73 : decode cX6_setPlan 73 = .ok (.iload 4, 2) := by decide +kernel
theorem dX6_setPlan_75 : decode cX6_setPlan 75 = .ok (.ireturn, 1) := by decide +kernel
theorem dX6_setBest_0 : decode cX6_setBest 0 = .ok (.iload_n 1, 1) := by decide +kernel
theorem dX6_setBest_1 : decode cX6_setBest 1 = .ok (.iload_n 2, 1) := by decide +kernel
theorem dX6_setBest_2 : decode cX6_setBest 2 = .ok (.invokestatic 246, 3) := by decide +kernel
theorem dX6_setBest_5 : decode cX6_setBest 5 = .ok (.ifCond .ne 5, 3) := by decide +kernel
theorem dX6_setBest_8 : decode cX6_setBest 8 = .ok (.iconst (-1), 1) := by decide +kernel
theorem dX6_setBest_9 : decode cX6_setBest 9 = .ok (.ireturn, 1) := by decide +kernel
theorem dX6_setBest_10 : decode cX6_setBest 10 = .ok (.aload_n 0, 1) := by decide +kernel
theorem dX6_setBest_11 : decode cX6_setBest 11 = .ok (.getfield 16, 3) := by decide +kernel
theorem dX6_setBest_14 : decode cX6_setBest 14 = .ok (.aload_n 0, 1) := by decide +kernel
theorem dX6_setBest_15 : decode cX6_setBest 15 = .ok (.getfield 12, 3) := by decide +kernel
theorem dX6_setBest_18 : decode cX6_setBest 18 = .ok (.invokevirtual 240, 3) := by decide +kernel
theorem dX6_setBest_21 : decode cX6_setBest 21 = .ok (.aload_n 0, 1) := by decide +kernel
theorem dX6_setBest_22 : decode cX6_setBest 22 = .ok (.getfield 29, 3) := by decide +kernel
theorem dX6_setBest_25 : decode cX6_setBest 25 = .ok (.aload_n 0, 1) := by decide +kernel
theorem dX6_setBest_26 : decode cX6_setBest 26 = .ok (.getfield 16, 3) := by decide +kernel
theorem dX6_setBest_29 : decode cX6_setBest 29 = .ok (.aload_n 0, 1) := by decide +kernel
theorem dX6_setBest_30 : decode cX6_setBest 30 = .ok (.getfield 22, 3) := by decide +kernel
theorem dX6_setBest_33 : decode cX6_setBest 33 = .ok (.iload_n 1, 1) := by decide +kernel
theorem dX6_setBest_34 : decode cX6_setBest 34 = .ok (.iload_n 2, 1) := by decide +kernel
theorem dX6_setBest_35 : decode cX6_setBest 35 = .ok (.invokevirtual 249, 3) := by decide +kernel
theorem dX6_setBest_38 : decode cX6_setBest 38 = .ok (.aload_n 0, 1) := by decide +kernel
theorem dX6_setBest_39 : decode cX6_setBest 39 = .ok (.getfield 12, 3) := by decide +kernel
theorem dX6_setBest_42 : decode cX6_setBest 42 = .ok (.aload_n 0, 1) := by decide +kernel
theorem dX6_setBest_43 : decode cX6_setBest 43 = .ok (.getfield 29, 3) := by decide +kernel
theorem dX6_setBest_46 : decode cX6_setBest 46 = .ok (.getfield 253, 3) := by decide +kernel
theorem dX6_setBest_49 : decode cX6_setBest 49 = .ok (.aload_n 0, 1) := by decide +kernel
theorem dX6_setBest_50 : decode cX6_setBest 50 = .ok (.getfield 29, 3) := by decide +kernel
theorem dX6_setBest_53 : decode cX6_setBest 53 = .ok (.getfield 256, 3) := by decide +kernel
theorem dX6_setBest_56 : decode cX6_setBest 56 = .ok (.aload_n 0, 1) := by decide +kernel
theorem dX6_setBest_57 : decode cX6_setBest 57 = .ok (.getfield 29, 3) := by decide +kernel
theorem dX6_setBest_60 : decode cX6_setBest 60 = .ok (.getfield 259, 3) := by decide +kernel
theorem dX6_setBest_63 : decode cX6_setBest 63 = .ok (.invokevirtual 389, 3) := by decide +kernel
theorem dX6_setBest_66 : decode cX6_setBest 66 = .ok (.ifCond .eq 6, 3) := by decide +kernel
theorem dX6_setBest_69 : decode cX6_setBest 69 = .ok (.bipush (-2), 2) := by decide +kernel
theorem dX6_setBest_71 : decode cX6_setBest 71 = .ok (.ireturn, 1) := by decide +kernel
theorem dX6_setBest_72 : decode cX6_setBest 72 = .ok (.aload_n 0, 1) := by decide +kernel
theorem dX6_setBest_73 : decode cX6_setBest 73 = .ok (.getfield 12, 3) := by decide +kernel
theorem dX6_setBest_76 : decode cX6_setBest 76 = .ok (.aload_n 0, 1) := by decide +kernel
theorem dX6_setBest_77 : decode cX6_setBest 77 = .ok (.getfield 29, 3) := by decide +kernel
theorem dX6_setBest_80 : decode cX6_setBest 80 = .ok (.getfield 253, 3) := by decide +kernel
theorem dX6_setBest_83 : decode cX6_setBest 83 = .ok (.aload_n 0, 1) := by decide +kernel
theorem dX6_setBest_84 : decode cX6_setBest 84 = .ok (.getfield 29, 3) := by decide +kernel
theorem dX6_setBest_87 : decode cX6_setBest 87 = .ok (.getfield 256, 3) := by decide +kernel
theorem dX6_setBest_90 : decode cX6_setBest 90 = .ok (.aload_n 0, 1) := by decide +kernel
theorem dX6_setBest_91 : decode cX6_setBest 91 = .ok (.getfield 29, 3) := by decide +kernel
theorem dX6_setBest_94 : decode cX6_setBest 94 = .ok (.getfield 259, 3) := by decide +kernel
theorem dX6_setBest_97 : decode cX6_setBest 97 = .ok (.invokevirtual 243, 3) := by decide +kernel
theorem dX6_setBest_100 : decode cX6_setBest 100 = .ok (.aload_n 0, 1) := by decide +kernel
theorem dX6_setBest_101 : decode cX6_setBest 101 = .ok (.getfield 29, 3) := by decide +kernel
theorem dX6_setBest_104 : decode cX6_setBest 104 = .ok (.getfield 265, 3) := by decide +kernel
theorem dX6_setBest_107 : decode cX6_setBest 107 = .ok (.ireturn, 1) := by decide +kernel
theorem dX6_putWord_0 : decode cX6_putWord 0 = .ok (.iload_n 1, 1) := by decide +kernel
theorem dX6_putWord_1 : decode cX6_putWord 1 = .ok (.invokestatic 77, 3) := by decide +kernel
theorem dX6_putWord_4 : decode cX6_putWord 4 = .ok (.ifCond .eq 24, 3) := by decide +kernel
theorem dX6_putWord_7 : decode cX6_putWord 7 = .ok (.iload_n 2, 1) := by decide +kernel
theorem dX6_putWord_8 : decode cX6_putWord 8 = .ok (.ifCond .lt 20, 3) := by decide +kernel
theorem dX6_putWord_11 : decode cX6_putWord 11 = .ok (.iload_n 2, 1) := by decide +kernel
theorem dX6_putWord_12 : decode cX6_putWord 12 = .ok (.aload_n 0, 1) := by decide +kernel
theorem dX6_putWord_13 : decode cX6_putWord 13 = .ok (.getfield 231, 3) := by decide +kernel
theorem dX6_putWord_16 : decode cX6_putWord 16 = .ok (.iload_n 1, 1) := by decide +kernel
theorem dX6_putWord_17 : decode cX6_putWord 17 = .ok (.iaload, 1) := by decide +kernel
theorem dX6_putWord_18 : decode cX6_putWord 18 = .ok (.if_icmp .gt 10, 3) := by decide +kernel
theorem dX6_putWord_21 : decode cX6_putWord 21 = .ok (.iload_n 3, 1) := by decide +kernel
theorem dX6_putWord_22 : decode cX6_putWord 22 = .ok (.invokestatic 102, 3) := by decide +kernel
theorem dX6_putWord_25 : decode cX6_putWord 25 = .ok (.ifCond .ne 5, 3) := by decide +kernel
theorem dX6_putWord_28 : decode cX6_putWord 28 = .ok (.iconst (-1), 1) := by decide +kernel
theorem dX6_putWord_29 : decode cX6_putWord 29 = .ok (.ireturn, 1) := by decide +kernel
theorem dX6_putWord_30 : decode cX6_putWord 30 = .ok (.aload_n 0, 1) := by decide +kernel
theorem dX6_putWord_31 : decode cX6_putWord 31 = .ok (.getfield 231, 3) := by decide +kernel
theorem dX6_putWord_34 : decode cX6_putWord 34 = .ok (.iload_n 1, 1) := by decide +kernel
theorem dX6_putWord_35 : decode cX6_putWord 35 = .ok (.iaload, 1) := by decide +kernel
theorem dX6_putWord_36 : decode cX6_putWord 36 = .ok (.bipush 70, 2) := by decide +kernel
theorem dX6_putWord_38 : decode cX6_putWord 38 = .ok (.if_icmp .lt 6, 3) := by decide +kernel
theorem dX6_putWord_41 : decode cX6_putWord 41 = .ok (.bipush (-3), 2) := by decide +kernel
theorem dX6_putWord_43 : decode cX6_putWord 43 = .ok (.ireturn, 1) := by decide +kernel
theorem dX6_putWord_44 : decode cX6_putWord 44 = .ok (.aload_n 0, 1) := by decide +kernel
theorem dX6_putWord_45 : decode cX6_putWord 45 = .ok (.iload_n 1, 1) := by decide +kernel
theorem dX6_putWord_46 : decode cX6_putWord 46 = .ok (.iload_n 2, 1) := by decide +kernel
theorem dX6_putWord_47 : decode cX6_putWord 47 = .ok (.iload_n 3, 1) := by decide +kernel
theorem dX6_putWord_48 : decode cX6_putWord 48 = .ok (.invokevirtual 290, 3) := by decide +kernel
theorem dX6_putWord_51 : decode cX6_putWord 51 = .ok (.aload_n 0, 1) := by decide +kernel
theorem dX6_putWord_52 : decode cX6_putWord 52 = .ok (.getfield 231, 3) := by decide +kernel
theorem dX6_putWord_55 : decode cX6_putWord 55 = .ok (.iload_n 1, 1) := by decide +kernel
theorem dX6_putWord_56 : decode cX6_putWord 56 = .ok (.iaload, 1) := by decide +kernel
theorem dX6_putWord_57 : decode cX6_putWord 57 = .ok (.ireturn, 1) := by decide +kernel
theorem dX6_dropWord_0 : decode cX6_dropWord 0 = .ok (.aload_n 0, 1) := by decide +kernel
theorem dX6_dropWord_1 : decode cX6_dropWord 1 = .ok (.iload_n 1, 1) := by decide +kernel
theorem dX6_dropWord_2 : decode cX6_dropWord 2 = .ok (.iload_n 2, 1) := by decide +kernel
theorem dX6_dropWord_3 : decode cX6_dropWord 3 = .ok (.invokevirtual 94, 3) := by decide +kernel
theorem dX6_dropWord_6 : decode cX6_dropWord 6 = .ok (.ifCond .ne 5, 3) := by decide +kernel
theorem dX6_dropWord_9 : decode cX6_dropWord 9 = .ok (.iconst (-1), 1) := by decide +kernel
theorem dX6_dropWord_10 : decode cX6_dropWord 10 = .ok (.ireturn, 1) := by decide +kernel
theorem dX6_dropWord_11 : decode cX6_dropWord 11 = .ok (.aload_n 0, 1) := by decide +kernel
theorem dX6_dropWord_12 : decode cX6_dropWord 12 = .ok (.iload_n 1, 1) := by decide +kernel
theorem dX6_dropWord_13 : decode cX6_dropWord 13 = .ok (.iload_n 2, 1) := by decide +kernel
theorem dX6_dropWord_14 : decode cX6_dropWord 14 = .ok (.invokevirtual 392, 3) := by decide +kernel
theorem dX6_dropWord_17 : decode cX6_dropWord 17 = .ok (.aload_n 0, 1) := by decide +kernel
theorem dX6_dropWord_18 : decode cX6_dropWord 18 = .ok (.getfield 231, 3) := by decide +kernel
theorem dX6_dropWord_21 : decode cX6_dropWord 21 = .ok (.iload_n 1, 1) := by decide +kernel
theorem dX6_dropWord_22 : decode cX6_dropWord 22 = .ok (.iaload, 1) := by decide +kernel
theorem dX6_dropWord_23 : decode cX6_dropWord 23 = .ok (.ireturn, 1) := by decide +kernel
theorem dX6_placeOf_0 : decode cX6_placeOf 0 = .ok (.aload_n 0, 1) := by decide +kernel
theorem dX6_placeOf_1 : decode cX6_placeOf 1 = .ok (.getfield 22, 3) := by decide +kernel
theorem dX6_placeOf_4 : decode cX6_placeOf 4 = .ok (.aload_n 0, 1) := by decide +kernel
theorem dX6_placeOf_5 : decode cX6_placeOf 5 = .ok (.getfield 12, 3) := by decide +kernel
theorem dX6_placeOf_8 : decode cX6_placeOf 8 = .ok (.invokevirtual 113, 3) := by decide +kernel
theorem dX6_placeOf_11 : decode cX6_placeOf 11 = .ok (.iload_n 1, 1) := by decide +kernel
theorem dX6_placeOf_12 : decode cX6_placeOf 12 = .ok (.ifCond .lt 33, 3) := by decide +kernel
theorem dX6_placeOf_15 : decode cX6_placeOf 15 = .ok (.iload_n 1, 1) := by decide +kernel
theorem dX6_placeOf_16 : decode cX6_placeOf 16 = .ok (.aload_n 0, 1) := by decide +kernel
theorem dX6_placeOf_17 : decode cX6_placeOf 17 = .ok (.getfield 22, 3) := by decide +kernel
theorem dX6_placeOf_20 : decode cX6_placeOf 20 = .ok (.aload_n 0, 1) := by decide +kernel
theorem dX6_placeOf_21 : decode cX6_placeOf 21 = .ok (.getfield 12, 3) := by decide +kernel
theorem dX6_placeOf_24 : decode cX6_placeOf 24 = .ok (.invokevirtual 116, 3) := by decide +kernel
theorem dX6_placeOf_27 : decode cX6_placeOf 27 = .ok (.if_icmp .ge 18, 3) := by decide +kernel
theorem dX6_placeOf_30 : decode cX6_placeOf 30 = .ok (.iload_n 2, 1) := by decide +kernel
theorem dX6_placeOf_31 : decode cX6_placeOf 31 = .ok (.ifCond .lt 14, 3) := by decide +kernel
theorem dX6_placeOf_34 : decode cX6_placeOf 34 = .ok (.iload_n 2, 1) := by decide +kernel
theorem dX6_placeOf_35 : decode cX6_placeOf 35 = .ok (.aload_n 0, 1) := by decide +kernel
theorem dX6_placeOf_36 : decode cX6_placeOf 36 = .ok (.getfield 12, 3) := by decide +kernel
theorem dX6_placeOf_39 : decode cX6_placeOf 39 = .ok (.getfield 123, 3) := by decide +kernel
theorem dX6_placeOf_42 : decode cX6_placeOf 42 = .ok (.if_icmp .lt 5, 3) := by decide +kernel
theorem dX6_placeOf_45 : decode cX6_placeOf 45 = .ok (.iconst (-1), 1) := by decide +kernel
theorem dX6_placeOf_46 : decode cX6_placeOf 46 = .ok (.ireturn, 1) := by decide +kernel
theorem dX6_placeOf_47 : decode cX6_placeOf 47 = .ok (.iload_n 1, 1) := by decide +kernel
theorem dX6_placeOf_48 : decode cX6_placeOf 48 = .ok (.aload_n 0, 1) := by decide +kernel
theorem dX6_placeOf_49 : decode cX6_placeOf 49 = .ok (.getfield 12, 3) := by decide +kernel
theorem dX6_placeOf_52 : decode cX6_placeOf 52 = .ok (.getfield 123, 3) := by decide +kernel
theorem dX6_placeOf_55 : decode cX6_placeOf 55 = .ok (.imul, 1) := by decide +kernel
theorem dX6_placeOf_56 : decode cX6_placeOf 56 = .ok (.iload_n 2, 1) := by decide +kernel
theorem dX6_placeOf_57 : decode cX6_placeOf 57 = .ok (.iadd, 1) := by decide +kernel
theorem dX6_placeOf_58 : decode cX6_placeOf 58 = .ok (.ireturn, 1) := by decide +kernel
theorem dX6_trialCost_0 : decode cX6_trialCost 0 = .ok (.aload_n 0, 1) := by decide +kernel
theorem dX6_trialCost_1 : decode cX6_trialCost 1 = .ok (.getfield 22, 3) := by decide +kernel
theorem dX6_trialCost_4 : decode cX6_trialCost 4 = .ok (.aload_n 0, 1) := by decide +kernel
theorem dX6_trialCost_5 : decode cX6_trialCost 5 = .ok (.getfield 16, 3) := by decide +kernel
theorem dX6_trialCost_8 : decode cX6_trialCost 8 = .ok (.invokevirtual 113, 3) := by decide +kernel
theorem dX6_trialCost_11 : decode cX6_trialCost 11 = .ok (.aload_n 0, 1) := by decide +kernel
theorem dX6_trialCost_12 : decode cX6_trialCost 12 = .ok (.getfield 22, 3) := by decide +kernel
theorem dX6_trialCost_15 : decode cX6_trialCost 15 = .ok (.aload_n 0, 1) := by decide +kernel
theorem dX6_trialCost_16 : decode cX6_trialCost 16 = .ok (.getfield 16, 3) := by decide +kernel
theorem dX6_trialCost_19 : decode cX6_trialCost 19 = .ok (.invokevirtual 199, 3) := by decide +kernel
theorem dX6_trialCost_22 : decode cX6_trialCost 22 = .ok (.ireturn, 1) := by decide +kernel
theorem dX6_leastMeasure_0 : decode cX6_leastMeasure 0 = .ok (.iload_n 2, 1) := by decide +kernel
theorem dX6_leastMeasure_1 : decode cX6_leastMeasure 1 = .ok (.iconst 1, 1) := by decide +kernel
theorem dX6_leastMeasure_2 : decode cX6_leastMeasure 2 = .ok (.if_icmp .lt 9, 3) := by decide +kernel
theorem dX6_leastMeasure_5 : decode cX6_leastMeasure 5 = .ok (.iload_n 2, 1) := by decide +kernel
theorem dX6_leastMeasure_6 : decode cX6_leastMeasure 6 = .ok (.bipush 9, 2) := by decide +kernel
theorem dX6_leastMeasure_8 : decode cX6_leastMeasure 8 = .ok (.if_icmp .le 5, 3) := by decide +kernel
theorem dX6_leastMeasure_11 : decode cX6_leastMeasure 11 = .ok (.iconst (-1), 1) := by decide +kernel
theorem dX6_leastMeasure_12 : decode cX6_leastMeasure 12 = .ok (.ireturn, 1) := by decide +kernel
theorem dX6_leastMeasure_13 : decode cX6_leastMeasure 13 = .ok (.aload_n 0, 1) := by decide +kernel
theorem dX6_leastMeasure_14 : decode cX6_leastMeasure 14 = .ok (.getfield 16, 3) := by decide +kernel
theorem dX6_leastMeasure_17 : decode cX6_leastMeasure 17 = .ok (.aload_n 0, 1) := by decide +kernel
theorem dX6_leastMeasure_18 : decode cX6_leastMeasure 18 = .ok (.getfield 12, 3) := by decide +kernel
theorem dX6_leastMeasure_21 : decode cX6_leastMeasure 21 = .ok (.invokevirtual 240, 3) := by decide +kernel
theorem dX6_leastMeasure_24 : decode cX6_leastMeasure 24 = .ok (.getstatic 370, 3) := by decide +kernel
theorem dX6_leastMeasure_27 : decode cX6_leastMeasure 27 = .ok (.iload_n 1, 1) := by decide +kernel
theorem dX6_leastMeasure_28 : decode cX6_leastMeasure 28 = .ok (.iaload, 1) := by decide +kernel
theorem dX6_leastMeasure_29 : decode cX6_leastMeasure 29 = .ok (.istore_n 3, 1) := by decide +kernel
theorem dX6_leastMeasure_30 : decode cX6_leastMeasure 30 = .ok (.iload_n 3, 1) := by decide +kernel
theorem dX6_leastMeasure_31 : decode cX6_leastMeasure 31 = .ok (.getstatic 373, 3) := by decide +kernel
theorem dX6_leastMeasure_34 : decode cX6_leastMeasure 34 = .ok (.iload_n 1, 1) := by decide +kernel
theorem dX6_leastMeasure_35 : decode cX6_leastMeasure 35 = .ok (.iaload, 1) := by decide +kernel
theorem dX6_leastMeasure_36 : decode cX6_leastMeasure 36 = .ok (.if_icmp .gt 73, 3) := by decide +kernel
theorem dX6_leastMeasure_39 : decode cX6_leastMeasure 39 = .ok (.aload_n 0, 1) := by decide +kernel
theorem dX6_leastMeasure_40 : decode cX6_leastMeasure 40 = .ok (.getfield 16, 3) := by decide +kernel
theorem dX6_leastMeasure_43 : decode cX6_leastMeasure 43 = .ok (.iload_n 1, 1) := by decide +kernel
theorem dX6_leastMeasure_44 : decode cX6_leastMeasure 44 = .ok (.iload_n 3, 1) := by decide +kernel
theorem dX6_leastMeasure_45 : decode cX6_leastMeasure 45 = .ok (.invokevirtual 379, 3) := by decide +kernel
theorem dX6_leastMeasure_48 : decode cX6_leastMeasure 48 = .ok (.aload_n 0, 1) := by decide +kernel
theorem dX6_leastMeasure_49 : decode cX6_leastMeasure 49 = .ok (.getfield 16, 3) := by decide +kernel
theorem dX6_leastMeasure_52 : decode cX6_leastMeasure 52 = .ok (.invokevirtual 382, 3) := by decide +kernel
theorem dX6_leastMeasure_55 : decode cX6_leastMeasure 55 = .ok (.ifCond .ne 6, 3) := by decide +kernel
theorem dX6_leastMeasure_58 : decode cX6_leastMeasure 58 = .ok (.goto 45, 3) := by decide +kernel
theorem dX6_leastMeasure_61 : decode cX6_leastMeasure 61 = .ok (.aload_n 0, 1) := by decide +kernel
theorem dX6_leastMeasure_62 : decode cX6_leastMeasure 62 = .ok (.getfield 22, 3) := by decide +kernel
theorem dX6_leastMeasure_65 : decode cX6_leastMeasure 65 = .ok (.aload_n 0, 1) := by decide +kernel
theorem dX6_leastMeasure_66 : decode cX6_leastMeasure 66 = .ok (.getfield 16, 3) := by decide +kernel
theorem dX6_leastMeasure_69 : decode cX6_leastMeasure 69 = .ok (.invokevirtual 113, 3) := by decide +kernel
theorem dX6_leastMeasure_72 : decode cX6_leastMeasure 72 = .ok (.aload_n 0, 1) := by decide +kernel
theorem dX6_leastMeasure_73 : decode cX6_leastMeasure 73 = .ok (.getfield 22, 3) := by decide +kernel
theorem dX6_leastMeasure_76 : decode cX6_leastMeasure 76 = .ok (.aload_n 0, 1) := by decide +kernel
theorem dX6_leastMeasure_77 : decode cX6_leastMeasure 77 = .ok (.getfield 16, 3) := by decide +kernel
theorem dX6_leastMeasure_80 : decode cX6_leastMeasure 80 = .ok (.invokevirtual 116, 3) := by decide +kernel
theorem dX6_leastMeasure_83 : decode cX6_leastMeasure 83 = .ok (.istore 4, 2) := by decide +kernel
theorem dX6_leastMeasure_85 : decode cX6_leastMeasure 85 = .ok (.iload 4, 2) := by decide +kernel
theorem dX6_leastMeasure_87 : decode cX6_leastMeasure 87 = .ok (.iload_n 2, 1) := by decide +kernel
theorem dX6_leastMeasure_88 : decode cX6_leastMeasure 88 = .ok (.if_icmp .gt 15, 3) := by decide +kernel
theorem dX6_leastMeasure_91 : decode cX6_leastMeasure 91 = .ok (.aload_n 0, 1) := by decide +kernel
theorem dX6_leastMeasure_92 : decode cX6_leastMeasure 92 = .ok (.getfield 58, 3) := by decide +kernel
theorem dX6_leastMeasure_95 : decode cX6_leastMeasure 95 = .ok (.iload 4, 2) := by decide +kernel
theorem dX6_leastMeasure_97 : decode cX6_leastMeasure 97 = .ok (.i2l, 1) := by decide +kernel
theorem dX6_leastMeasure_98 : decode cX6_leastMeasure 98 = .ok (.invokevirtual 126, 3) := by decide +kernel
theorem dX6_leastMeasure_101 : decode cX6_leastMeasure 101 = .ok (.iload_n 3, 1) := by decide +kernel
theorem dX6_leastMeasure_102 : decode cX6_leastMeasure 102 = .ok (.ireturn, 1) := by decide +kernel
theorem dX6_leastMeasure_103 : decode cX6_leastMeasure 103 = .ok (.iinc 3 1, 3) := by decide +kernel
theorem dX6_leastMeasure_106 : decode cX6_leastMeasure 106 = .ok (.goto (-76), 3) := by decide +kernel
theorem dX6_leastMeasure_109 : decode cX6_leastMeasure 109 = .ok (.bipush (-2), 2) := by decide +kernel
theorem dX6_leastMeasure_111 : decode cX6_leastMeasure 111 = .ok (.ireturn, 1) := by decide +kernel
theorem dX6_nextDraw_0 : decode cX6_nextDraw 0 = .ok (.iload_n 0, 1) := by decide +kernel
theorem dX6_nextDraw_1 : decode cX6_nextDraw 1 = .ok (.ldc_w 395, 3) := by decide +kernel
theorem dX6_nextDraw_4 : decode cX6_nextDraw 4 = .ok (.imul, 1) := by decide +kernel
theorem dX6_nextDraw_5 : decode cX6_nextDraw 5 = .ok (.sipush 12345, 3) := by decide +kernel
theorem dX6_nextDraw_8 : decode cX6_nextDraw 8 = .ok (.iadd, 1) := by decide +kernel
theorem dX6_nextDraw_9 : decode cX6_nextDraw 9 = .ok (.ireturn, 1) := by decide +kernel
theorem dX6_drawn_0 : decode cX6_drawn 0 = .ok (.iload_n 1, 1) := by decide +kernel
theorem dX6_drawn_1 : decode cX6_drawn 1 = .ok (.ifCond .le 12, 3) := by decide +kernel
theorem dX6_drawn_4 : decode cX6_drawn 4 = .ok (.iload_n 0, 1) := by decide +kernel
theorem dX6_drawn_5 : decode cX6_drawn 5 = .ok (.bipush 16, 2) := by decide +kernel
theorem dX6_drawn_7 : decode cX6_drawn 7 = .ok (.iushr, 1) := by decide +kernel
theorem dX6_drawn_8 : decode cX6_drawn 8 = .ok (.iload_n 1, 1) := by decide +kernel
theorem dX6_drawn_9 : decode cX6_drawn 9 = .ok (.irem, 1) := by decide +kernel
theorem dX6_drawn_10 : decode cX6_drawn 10 = .ok (.goto 4, 3) := by decide +kernel
theorem dX6_drawn_13 : decode cX6_drawn 13 = .ok (.iconst 0, 1) := by decide +kernel
theorem dX6_drawn_14 : decode cX6_drawn 14 = .ok (.ireturn, 1) := by decide +kernel
theorem dX7_init_0 : decode cX7_init 0 = .ok (.aload_n 0, 1) := by decide +kernel
theorem dX7_init_1 : decode cX7_init 1 = .ok (.invokespecial 3, 3) := by decide +kernel
theorem dX7_init_4 : decode cX7_init 4 = .ok (.aload_n 0, 1) := by decide +kernel
theorem dX7_init_5 : decode cX7_init 5 = .ok (.sipush 259, 3) := by decide +kernel
theorem dX7_init_8 : decode cX7_init 8 = .ok (.newarray .int, 2) := by decide +kernel
theorem dX7_init_10 : decode cX7_init 10 = .ok (.putfield 9, 3) := by decide +kernel
theorem dX7_init_13 : decode cX7_init 13 = .ok (.aload_n 0, 1) := by decide +kernel
theorem dX7_init_14 : decode cX7_init 14 = .ok (.bipush 80, 2) := by decide +kernel
theorem dX7_init_16 : decode cX7_init 16 = .ok (.newarray .byte, 2) := by decide +kernel
theorem dX7_init_18 : decode cX7_init 18 = .ok (.putfield 13, 3) := by decide +kernel
theorem dX7_init_21 : decode cX7_init 21 = .ok (.aload_n 0, 1) := by decide +kernel
theorem dX7_init_22 : decode cX7_init 22 = .ok (.bipush 80, 2) := by decide +kernel
theorem dX7_init_24 : decode cX7_init 24 = .ok (.newarray .long, 2) := by decide +kernel
theorem dX7_init_26 : decode cX7_init 26 = .ok (.putfield 17, 3) := by decide +kernel
theorem dX7_init_29 : decode cX7_init 29 = .ok (.aload_n 0, 1) := by decide +kernel
theorem dX7_init_30 : decode cX7_init 30 = .ok (.sipush 320, 3) := by decide +kernel
theorem dX7_init_33 : decode cX7_init 33 = .ok (.newarray .int, 2) := by decide +kernel
theorem dX7_init_35 : decode cX7_init 35 = .ok (.putfield 21, 3) := by decide +kernel
theorem dX7_init_38 : decode cX7_init 38 = .ok (.aload_n 0, 1) := by decide +kernel
theorem dX7_init_39 : decode cX7_init 39 = .ok (.sipush 1680, 3) := by decide +kernel
theorem dX7_init_42 : decode cX7_init 42 = .ok (.newarray .int, 2) := by decide +kernel
theorem dX7_init_44 : decode cX7_init 44 = .ok (.putfield 24, 3) := by decide +kernel
theorem dX7_init_47 : decode cX7_init 47 = .ok (.aload_n 0, 1) := by decide +kernel
theorem dX7_init_48 : decode cX7_init 48 = .ok (.sipush 210, 3) := by decide +kernel
theorem dX7_init_51 : decode cX7_init 51 = .ok (.newarray .int, 2) := by decide +kernel
theorem dX7_init_53 : decode cX7_init 53 = .ok (.putfield 27, 3) := by decide +kernel
theorem dX7_init_56 : decode cX7_init 56 = .ok (.aload_n 0, 1) := by decide +kernel
theorem dX7_init_57 : decode cX7_init 57 = .ok (.iconst 3, 1) := by decide +kernel
theorem dX7_init_58 : decode cX7_init 58 = .ok (.newarray .int, 2) := by decide +kernel
theorem dX7_init_60 : decode cX7_init 60 = .ok (.putfield 30, 3) := by decide +kernel
theorem dX7_init_63 : decode cX7_init 63 = .ok (.aload_n 0, 1) := by decide +kernel
theorem dX7_init_64 : decode cX7_init 64 = .ok (.sipush 259, 3) := by decide +kernel
theorem dX7_init_67 : decode cX7_init 67 = .ok (.newarray .int, 2) := by decide +kernel
theorem dX7_init_69 : decode cX7_init 69 = .ok (.putfield 33, 3) := by decide +kernel
theorem dX7_init_72 : decode cX7_init 72 = .ok (.aload_n 0, 1) := by decide +kernel
theorem dX7_init_73 : decode cX7_init 73 = .ok (.iconst 3, 1) := by decide +kernel
theorem dX7_init_74 : decode cX7_init 74 = .ok (.newarray .int, 2) := by decide +kernel
theorem dX7_init_76 : decode cX7_init 76 = .ok (.putfield 36, 3) := by decide +kernel
theorem dX7_init_79 : decode cX7_init 79 = .ok (.aload_n 0, 1) := by decide +kernel
theorem dX7_init_80 : decode cX7_init 80 = .ok (.iconst 3, 1) := by decide +kernel
theorem dX7_init_81 : decode cX7_init 81 = .ok (.newarray .int, 2) := by decide +kernel
theorem dX7_init_83 : decode cX7_init 83 = .ok (.putfield 39, 3) := by decide +kernel
theorem dX7_init_86 : decode cX7_init 86 = .ok (.aload_n 0, 1) := by decide +kernel
theorem dX7_init_87 : decode cX7_init 87 = .ok (.iconst 3, 1) := by decide +kernel
theorem dX7_init_88 : decode cX7_init 88 = .ok (.newarray .int, 2) := by decide +kernel
theorem dX7_init_90 : decode cX7_init 90 = .ok (.putfield 42, 3) := by decide +kernel
theorem dX7_init_93 : decode cX7_init 93 = .ok (.aload_n 0, 1) := by decide +kernel
theorem dX7_init_94 : decode cX7_init 94 = .ok (.sipush 1813, 3) := by decide +kernel
theorem dX7_init_97 : decode cX7_init 97 = .ok (.newarray .int, 2) := by decide +kernel
theorem dX7_init_99 : decode cX7_init 99 = .ok (.putfield 45, 3) := by decide +kernel
theorem dX7_init_102 : decode cX7_init 102 = .ok (.aload_n 0, 1) := by decide +kernel
theorem dX7_init_103 : decode cX7_init 103 = .ok (.sipush 259, 3) := by decide +kernel
theorem dX7_init_106 : decode cX7_init 106 = .ok (.newarray .int, 2) := by decide +kernel
theorem dX7_init_108 : decode cX7_init 108 = .ok (.putfield 48, 3) := by decide +kernel
theorem dX7_init_111 : decode cX7_init 111 = .ok (.aload_n 0, 1) := by decide +kernel
theorem dX7_init_112 : decode cX7_init 112 = .ok (.sipush 518, 3) := by decide +kernel
theorem dX7_init_115 : decode cX7_init 115 = .ok (.newarray .int, 2) := by decide +kernel
theorem dX7_init_117 : decode cX7_init 117 = .ok (.putfield 51, 3) := by decide +kernel
theorem dX7_init_120 : decode cX7_init 120 = .ok (.aload_n 0, 1) := by decide +kernel
theorem dX7_init_121 : decode cX7_init 121 = .ok (.iconst 2, 1) := by decide +kernel
theorem dX7_init_122 : decode cX7_init 122 = .ok (.newarray .boolean, 2) := by decide +kernel
theorem dX7_init_124 : decode cX7_init 124 = .ok (.putfield 54, 3) := by decide +kernel
theorem dX7_init_127 : decode cX7_init 127 = .ok (.aload_n 0, 1) := by decide +kernel
theorem dX7_init_128 : decode cX7_init 128 = .ok (.getfield 9, 3) := by decide +kernel
theorem dX7_init_131 : decode cX7_init 131 = .ok (.iconst 0, 1) := by decide +kernel
theorem dX7_init_132 : decode cX7_init 132 = .ok (.bipush 40, 2) := by decide +kernel
theorem dX7_init_134 : decode cX7_init 134 = .ok (.iastore, 1) := by decide +kernel
theorem dX7_init_135 : decode cX7_init 135 = .ok (.aload_n 0, 1) := by decide +kernel
theorem dX7_init_136 : decode cX7_init 136 = .ok (.getfield 9, 3) := by decide +kernel
theorem dX7_init_139 : decode cX7_init 139 = .ok (.iconst 1, 1) := by decide +kernel
theorem dX7_init_140 : decode cX7_init 140 = .ok (.bipush 20, 2) := by decide +kernel
theorem dX7_init_142 : decode cX7_init 142 = .ok (.iastore, 1) := by decide +kernel
theorem dX7_init_143 : decode cX7_init 143 = .ok (.aload_n 0, 1) := by decide +kernel
theorem dX7_init_144 : decode cX7_init 144 = .ok (.getfield 9, 3) := by decide +kernel
theorem dX7_init_147 : decode cX7_init 147 = .ok (.iconst 2, 1) := by decide +kernel
theorem dX7_init_148 : decode cX7_init 148 = .ok (.iconst 2, 1) := by decide +kernel
theorem dX7_init_149 : decode cX7_init 149 = .ok (.iastore, 1) := by decide +kernel
theorem dX7_init_150 : decode cX7_init 150 = .ok (.aload_n 0, 1) := by decide +kernel
theorem dX7_init_151 : decode cX7_init 151 = .ok (.getfield 9, 3) := by decide +kernel
theorem dX7_init_154 : decode cX7_init 154 = .ok (.iconst 3, 1) := by decide +kernel
theorem dX7_init_155 : decode cX7_init 155 = .ok (.bipush 10, 2) := by decide +kernel
theorem dX7_init_157 : decode cX7_init 157 = .ok (.iastore, 1) := by decide +kernel
theorem dX7_init_158 : decode cX7_init 158 = .ok (.aload_n 0, 1) := by decide +kernel
theorem dX7_init_159 : decode cX7_init 159 = .ok (.getfield 9, 3) := by decide +kernel
theorem dX7_init_162 : decode cX7_init 162 = .ok (.iconst 4, 1) := by decide +kernel
theorem dX7_init_163 : decode cX7_init 163 = .ok (.bipush 10, 2) := by decide +kernel
theorem dX7_init_165 : decode cX7_init 165 = .ok (.iastore, 1) := by decide +kernel
theorem dX7_init_166 : decode cX7_init 166 = .ok (.aload_n 0, 1) := by decide +kernel
theorem dX7_init_167 : decode cX7_init 167 = .ok (.getfield 9, 3) := by decide +kernel
theorem dX7_init_170 : decode cX7_init 170 = .ok (.sipush 255, 3) := by decide +kernel
theorem dX7_init_173 : decode cX7_init 173 = .ok (.iconst 1, 1) := by decide +kernel
theorem dX7_init_174 : decode cX7_init 174 = .ok (.iastore, 1) := by decide +kernel
theorem dX7_init_175 : decode cX7_init 175 = .ok (.aload_n 0, 1) := by decide +kernel
theorem dX7_init_176 : decode cX7_init 176 = .ok (.getfield 9, 3) := by decide +kernel
theorem dX7_init_179 : decode cX7_init 179 = .ok (.sipush 256, 3) := by decide +kernel
theorem dX7_init_182 : decode cX7_init 182 = .ok (.sipush 10000, 3) := by decide +kernel
theorem dX7_init_185 : decode cX7_init 185 = .ok (.iastore, 1) := by decide +kernel
theorem dX7_init_186 : decode cX7_init 186 = .ok (.aload_n 0, 1) := by decide +kernel
theorem dX7_init_187 : decode cX7_init 187 = .ok (.getfield 9, 3) := by decide +kernel
theorem dX7_init_190 : decode cX7_init 190 = .ok (.sipush 257, 3) := by decide +kernel
theorem dX7_init_193 : decode cX7_init 193 = .ok (.bipush 100, 2) := by decide +kernel
theorem dX7_init_195 : decode cX7_init 195 = .ok (.iastore, 1) := by decide +kernel
theorem dX7_init_196 : decode cX7_init 196 = .ok (.aload_n 0, 1) := by decide +kernel
theorem dX7_init_197 : decode cX7_init 197 = .ok (.getfield 9, 3) := by decide +kernel
theorem dX7_init_200 : decode cX7_init 200 = .ok (.sipush 258, 3) := by decide +kernel
theorem dX7_init_203 : decode cX7_init 203 = .ok (.iconst 1, 1) := by decide +kernel
theorem dX7_init_204 : decode cX7_init 204 = .ok (.iastore, 1) := by decide +kernel
theorem dX7_init_205 : decode cX7_init 205 = .ok (.return_, 1) := by decide +kernel
theorem dX7_thrown_0 : decode cX7_thrown 0 = .ok (.aload_n 0, 1) := by decide +kernel
theorem dX7_thrown_1 : decode cX7_thrown 1 = .ok (.getfield 58, 3) := by decide +kernel
theorem dX7_thrown_4 : decode cX7_thrown 4 = .ok (.ireturn, 1) := by decide +kernel
theorem dX7_in_0 : decode cX7_in 0 = .ok (.iload_n 0, 1) := by decide +kernel
theorem dX7_in_1 : decode cX7_in 1 = .ok (.iload_n 1, 1) := by decide +kernel
theorem dX7_in_2 : decode cX7_in 2 = .ok (.if_icmp .lt 12, 3) := by decide +kernel
theorem dX7_in_5 : decode cX7_in 5 = .ok (.iload_n 0, 1) := by decide +kernel
theorem dX7_in_6 : decode cX7_in 6 = .ok (.iload_n 2, 1) := by decide +kernel
theorem dX7_in_7 : decode cX7_in 7 = .ok (.if_icmp .gt 7, 3) := by decide +kernel
theorem dX7_in_10 : decode cX7_in 10 = .ok (.iconst 1, 1) := by decide +kernel
theorem dX7_in_11 : decode cX7_in 11 = .ok (.goto 4, 3) := by decide +kernel
theorem dX7_in_14 : decode cX7_in 14 = .ok (.iconst 0, 1) := by decide +kernel
theorem dX7_in_15 : decode cX7_in 15 = .ok (.ireturn, 1) := by decide +kernel
theorem dX7_lost_0 : decode cX7_lost 0 = .ok (.aload_n 0, 1) := by decide +kernel
theorem dX7_lost_1 : decode cX7_lost 1 = .ok (.iconst 1, 1) := by decide +kernel
theorem dX7_lost_2 : decode cX7_lost 2 = .ok (.putfield 58, 3) := by decide +kernel
theorem dX7_lost_5 : decode cX7_lost 5 = .ok (.iconst 0, 1) := by decide +kernel
theorem dX7_lost_6 : decode cX7_lost 6 = .ok (.ireturn, 1) := by decide +kernel
theorem dX7_tell_0 : decode cX7_tell 0 = .ok (.aload_n 0, 1) := by decide +kernel
theorem dX7_tell_1 : decode cX7_tell 1 = .ok (.getfield 17, 3) := by decide +kernel
theorem dX7_tell_4 : decode cX7_tell 4 = .ok (.aload_n 0, 1) := by decide +kernel
theorem dX7_tell_5 : decode cX7_tell 5 = .ok (.getfield 62, 3) := by decide +kernel
theorem dX7_tell_8 : decode cX7_tell 8 = .ok (.lload_n 1, 1) := by decide +kernel
theorem dX7_tell_9 : decode cX7_tell 9 = .ok (.lastore, 1) := by decide +kernel
theorem dX7_tell_10 : decode cX7_tell 10 = .ok (.aload_n 0, 1) := by decide +kernel
theorem dX7_tell_11 : decode cX7_tell 11 = .ok (.dup, 1) := by decide +kernel
theorem dX7_tell_12 : decode cX7_tell 12 = .ok (.getfield 62, 3) := by decide +kernel
theorem dX7_tell_15 : decode cX7_tell 15 = .ok (.iconst 1, 1) := by decide +kernel
theorem dX7_tell_16 : decode cX7_tell 16 = .ok (.iadd, 1) := by decide +kernel
theorem dX7_tell_17 : decode cX7_tell 17 = .ok (.putfield 62, 3) := by decide +kernel
theorem dX7_tell_20 : decode cX7_tell 20 = .ok (.return_, 1) := by decide +kernel
theorem dX7_isText_0 : decode cX7_isText 0 = .ok (.iload_n 0, 1) := by decide +kernel
theorem dX7_isText_1 : decode cX7_isText 1 = .ok (.iconst 0, 1) := by decide +kernel
theorem dX7_isText_2 : decode cX7_isText 2 = .ok (.iconst 2, 1) := by decide +kernel
theorem dX7_isText_3 : decode cX7_isText 3 = .ok (.invokestatic 65, 3) := by decide +kernel
theorem dX7_isText_6 : decode cX7_isText 6 = .ok (.ireturn, 1) := by decide +kernel
theorem dX7_isWord_0 : decode cX7_isWord 0 = .ok (.iload_n 1, 1) := by decide +kernel
theorem dX7_isWord_1 : decode cX7_isWord 1 = .ok (.invokestatic 69, 3) := by decide +kernel
theorem dX7_isWord_4 : decode cX7_isWord 4 = .ok (.ifCond .eq 25, 3) := by decide +kernel
theorem dX7_isWord_7 : decode cX7_isWord 7 = .ok (.iload_n 2, 1) := by decide +kernel
theorem dX7_isWord_8 : decode cX7_isWord 8 = .ok (.iconst 0, 1) := by decide +kernel
theorem dX7_isWord_9 : decode cX7_isWord 9 = .ok (.aload_n 0, 1) := by decide +kernel
theorem dX7_isWord_10 : decode cX7_isWord 10 = .ok (.getfield 9, 3) := by decide +kernel
theorem dX7_isWord_13 : decode cX7_isWord 13 = .ok (.iconst 5, 1) := by decide +kernel
theorem dX7_isWord_14 : decode cX7_isWord 14 = .ok (.iload_n 1, 1) := by decide +kernel
theorem dX7_isWord_15 : decode cX7_isWord 15 = .ok (.iadd, 1) := by decide +kernel
theorem dX7_isWord_16 : decode cX7_isWord 16 = .ok (.iaload, 1) := by decide +kernel
theorem dX7_isWord_17 : decode cX7_isWord 17 = .ok (.iconst 1, 1) := by decide +kernel
theorem dX7_isWord_18 : decode cX7_isWord 18 = .ok (.isub, 1) := by decide +kernel
theorem dX7_isWord_19 : decode cX7_isWord 19 = .ok (.invokestatic 65, 3) := by decide +kernel
theorem dX7_isWord_22 : decode cX7_isWord 22 = .ok (.ifCond .eq 7, 3) := by decide +kernel
theorem dX7_isWord_25 : decode cX7_isWord 25 = .ok (.iconst 1, 1) := by decide +kernel
theorem dX7_isWord_26 : decode cX7_isWord 26 = .ok (.goto 4, 3) := by decide +kernel
theorem dX7_isWord_29 : decode cX7_isWord 29 = .ok (.iconst 0, 1) := by decide +kernel
theorem dX7_isWord_30 : decode cX7_isWord 30 = .ok (.ireturn, 1) := by decide +kernel
theorem dX7_size_0 : decode cX7_size 0 = .ok (.aload_n 0, 1) := by decide +kernel
theorem dX7_size_1 : decode cX7_size 1 = .ok (.getfield 9, 3) := by decide +kernel
theorem dX7_size_4 : decode cX7_size 4 = .ok (.bipush 8, 2) := by decide +kernel
theorem dX7_size_6 : decode cX7_size 6 = .ok (.bipush 70, 2) := by decide +kernel
theorem dX7_size_8 : decode cX7_size 8 = .ok (.iload_n 1, 1) := by decide +kernel
theorem dX7_size_9 : decode cX7_size 9 = .ok (.imul, 1) := by decide +kernel
theorem dX7_size_10 : decode cX7_size 10 = .ok (.iadd, 1) := by decide +kernel
theorem dX7_size_11 : decode cX7_size 11 = .ok (.iload_n 2, 1) := by decide +kernel
theorem dX7_size_12 : decode cX7_size 12 = .ok (.iadd, 1) := by decide +kernel
theorem dX7_size_13 : decode cX7_size 13 = .ok (.iaload, 1) := by decide +kernel
theorem dX7_size_14 : decode cX7_size 14 = .ok (.ireturn, 1) := by decide +kernel
theorem dX7_tied_0 : decode cX7_tied 0 = .ok (.aload_n 0, 1) := by decide +kernel
theorem dX7_tied_1 : decode cX7_tied 1 = .ok (.getfield 9, 3) := by decide +kernel
theorem dX7_tied_4 : decode cX7_tied 4 = .ok (.sipush 219, 3) := by decide +kernel
theorem dX7_tied_7 : decode cX7_tied 7 = .ok (.iconst 3, 1) := by decide +kernel
theorem dX7_tied_8 : decode cX7_tied 8 = .ok (.iload_n 1, 1) := by decide +kernel
theorem dX7_tied_9 : decode cX7_tied 9 = .ok (.imul, 1) := by decide +kernel
theorem dX7_tied_10 : decode cX7_tied 10 = .ok (.iadd, 1) := by decide +kernel
theorem dX7_tied_11 : decode cX7_tied 11 = .ok (.iload_n 2, 1) := by decide +kernel
theorem dX7_tied_12 : decode cX7_tied 12 = .ok (.iadd, 1) := by decide +kernel
theorem dX7_tied_13 : decode cX7_tied 13 = .ok (.iaload, 1) := by decide +kernel
theorem dX7_tied_14 : decode cX7_tied 14 = .ok (.ireturn, 1) := by decide +kernel
theorem dX7_sign_0 : decode cX7_sign 0 = .ok (.aload_n 0, 1) := by decide +kernel
theorem dX7_sign_1 : decode cX7_sign 1 = .ok (.iconst 0, 1) := by decide +kernel
theorem dX7_sign_2 : decode cX7_sign 2 = .ok (.putfield 58, 3) := by decide +kernel
theorem dX7_sign_5 : decode cX7_sign 5 = .ok (.aload_n 0, 1) := by decide +kernel
theorem dX7_sign_6 : decode cX7_sign 6 = .ok (.getfield 73, 3) := by decide +kernel
theorem dX7_sign_9 : decode cX7_sign 9 = .ok (.iconst 4, 1) := by decide +kernel
theorem dX7_sign_10 : decode cX7_sign 10 = .ok (.iadd, 1) := by decide +kernel
theorem dX7_sign_11 : decode cX7_sign 11 = .ok (.bipush 80, 2) := by decide +kernel
theorem dX7_sign_13 : decode cX7_sign 13 = .ok (.if_icmp .le 5, 3) := by decide +kernel
theorem dX7_sign_16 : decode cX7_sign 16 = .ok (.iconst (-1), 1) := by decide +kernel
theorem dX7_sign_17 : decode cX7_sign 17 = .ok (.ireturn, 1) := by decide +kernel
theorem dX7_sign_18 : decode cX7_sign 18 = .ok (.iconst 3, 1) := by decide +kernel
theorem dX7_sign_19 : decode cX7_sign 19 = .ok (.istore_n 2, 1) := by decide +kernel
theorem dX7_sign_20 : decode cX7_sign 20 = .ok (.iload_n 2, 1) := by decide +kernel
theorem dX7_sign_21 : decode cX7_sign 21 = .ok (.ifCond .lt 32, 3) := by decide +kernel
theorem dX7_sign_24 : decode cX7_sign 24 = .ok (.aload_n 0, 1) := by decide +kernel
theorem dX7_sign_25 : decode cX7_sign 25 = .ok (.getfield 13, 3) := by decide +kernel
theorem dX7_sign_28 : decode cX7_sign 28 = .ok (.aload_n 0, 1) := by decide +kernel
theorem dX7_sign_29 : decode cX7_sign 29 = .ok (.dup, 1) := by decide +kernel
theorem dX7_sign_30 : decode cX7_sign 30 = .ok (.getfield 73, 3) := by decide +kernel
theorem dX7_sign_33 : decode cX7_sign 33 = .ok (.dup_x1, 1) := by decide +kernel
theorem dX7_sign_34 : decode cX7_sign 34 = .ok (.iconst 1, 1) := by decide +kernel
theorem dX7_sign_35 : decode cX7_sign 35 = .ok (.iadd, 1) := by decide +kernel
theorem dX7_sign_36 : decode cX7_sign 36 = .ok (.putfield 73, 3) := by decide +kernel
theorem dX7_sign_39 : decode cX7_sign 39 = .ok (.iload_n 1, 1) := by decide +kernel
theorem dX7_sign_40 : decode cX7_sign 40 = .ok (.bipush 8, 2) := by decide +kernel
theorem dX7_sign_42 : decode cX7_sign 42 = .ok (.iload_n 2, 1) := by decide +kernel
theorem dX7_sign_43 : decode cX7_sign 43 = .ok (.imul, 1) := by decide +kernel
theorem dX7_sign_44 : decode cX7_sign 44 = .ok (.ishr, 1) := by decide +kernel
theorem dX7_sign_45 : decode cX7_sign 45 = .ok (.i2b, 1) := by decide +kernel
theorem dX7_sign_46 : decode cX7_sign 46 = .ok (.bastore, 1) := by decide +kernel
theorem dX7_sign_47 : decode cX7_sign 47 = .ok (.iinc 2 (-1), 3) := by decide +kernel
theorem dX7_sign_50 : decode cX7_sign 50 = .ok (.goto (-30), 3) := by decide +kernel
theorem dX7_sign_53 : decode cX7_sign 53 = .ok (.aload_n 0, 1) := by decide +kernel
theorem dX7_sign_54 : decode cX7_sign 54 = .ok (.getfield 73, 3) := by decide +kernel
theorem dX7_sign_57 : decode cX7_sign 57 = .ok (.ireturn, 1) := by decide +kernel
theorem dX7_end_0 : decode cX7_end 0 = .ok (.aload_n 0, 1) := by decide +kernel
theorem dX7_end_1 : decode cX7_end 1 = .ok (.iconst 0, 1) := by decide +kernel
theorem dX7_end_2 : decode cX7_end 2 = .ok (.putfield 58, 3) := by decide +kernel
theorem dX7_end_5 : decode cX7_end 5 = .ok (.iload_n 1, 1) := by decide +kernel
theorem dX7_end_6 : decode cX7_end 6 = .ok (.iconst 0, 1) := by decide +kernel
theorem dX7_end_7 : decode cX7_end 7 = .ok (.aload_n 0, 1) := by decide +kernel
theorem dX7_end_8 : decode cX7_end 8 = .ok (.getfield 73, 3) := by decide +kernel
theorem dX7_end_11 : decode cX7_end 11 = .ok (.invokestatic 65, 3) := by decide +kernel
theorem dX7_end_14 : decode cX7_end 14 = .ok (.ifCond .ne 5, 3) := by decide +kernel
theorem dX7_end_17 : decode cX7_end 17 = .ok (.iconst 0, 1) := by decide +kernel
theorem dX7_end_18 : decode cX7_end 18 = .ok (.ireturn, 1) := by decide +kernel
theorem dX7_end_19 : decode cX7_end 19 = .ok (.aload_n 0, 1) := by decide +kernel
theorem dX7_end_20 : decode cX7_end 20 = .ok (.iload_n 1, 1) := by decide +kernel
theorem dX7_end_21 : decode cX7_end 21 = .ok (.putfield 73, 3) := by decide +kernel
theorem dX7_end_24 : decode cX7_end 24 = .ok (.iconst 1, 1) := by decide +kernel
theorem dX7_end_25 : decode cX7_end 25 = .ok (.ireturn, 1) := by decide +kernel
theorem dX7_begin_0 : decode cX7_begin 0 = .ok (.aload_n 0, 1) := by decide +kernel
theorem dX7_begin_1 : decode cX7_begin 1 = .ok (.aload_n 0, 1) := by decide +kernel
theorem dX7_begin_2 : decode cX7_begin 2 = .ok (.getfield 73, 3) := by decide +kernel
theorem dX7_begin_5 : decode cX7_begin 5 = .ok (.putfield 76, 3) := by decide +kernel
theorem dX7_begin_8 : decode cX7_begin 8 = .ok (.aload_n 0, 1) := by decide +kernel
theorem dX7_begin_9 : decode cX7_begin 9 = .ok (.iconst 0, 1) := by decide +kernel
theorem dX7_begin_10 : decode cX7_begin 10 = .ok (.putfield 79, 3) := by decide +kernel
theorem dX7_begin_13 : decode cX7_begin 13 = .ok (.aload_n 0, 1) := by decide +kernel
theorem dX7_begin_14 : decode cX7_begin 14 = .ok (.iconst (-1), 1) := by decide +kernel
theorem dX7_begin_15 : decode cX7_begin 15 = .ok (.putfield 82, 3) := by decide +kernel
theorem dX7_begin_18 : decode cX7_begin 18 = .ok (.aload_n 0, 1) := by decide +kernel
theorem dX7_begin_19 : decode cX7_begin 19 = .ok (.iconst 0, 1) := by decide +kernel
theorem dX7_begin_20 : decode cX7_begin 20 = .ok (.putfield 73, 3) := by decide +kernel
theorem dX7_begin_23 : decode cX7_begin 23 = .ok (.return_, 1) := by decide +kernel
theorem dX7_here_0 : decode cX7_here 0 = .ok (.aload_n 0, 1) := by decide +kernel
theorem dX7_here_1 : decode cX7_here 1 = .ok (.getfield 79, 3) := by decide +kernel
theorem dX7_here_4 : decode cX7_here 4 = .ok (.aload_n 0, 1) := by decide +kernel
theorem dX7_here_5 : decode cX7_here 5 = .ok (.getfield 76, 3) := by decide +kernel
theorem dX7_here_8 : decode cX7_here 8 = .ok (.if_icmp .ge 19, 3) := by decide +kernel
theorem dX7_here_11 : decode cX7_here 11 = .ok (.aload_n 0, 1) := by decide +kernel
theorem dX7_here_12 : decode cX7_here 12 = .ok (.getfield 13, 3) := by decide +kernel
theorem dX7_here_15 : decode cX7_here 15 = .ok (.aload_n 0, 1) := by decide +kernel
theorem dX7_here_16 : decode cX7_here 16 = .ok (.getfield 79, 3) := by decide +kernel
theorem dX7_here_19 : decode cX7_here 19 = .ok (.baload, 1) := by decide +kernel
theorem dX7_here_20 : decode cX7_here 20 = .ok (.sipush 255, 3) := by decide +kernel
theorem dX7_here_23 : decode cX7_here 23 = .ok (.iand, 1) := by decide +kernel
theorem dX7_here_24 : decode cX7_here 24 = .ok (.goto 4, 3) := by decide +kernel
theorem dX7_here_27 : decode cX7_here 27 = .ok (.iconst (-1), 1) := by decide +kernel
theorem dX7_here_28 : decode cX7_here 28 = .ok (.ireturn, 1) := by decide +kernel
theorem dX7_fine_0 : decode cX7_fine 0 = .ok (.aload_n 0, 1) := by decide +kernel
theorem dX7_fine_1 : decode cX7_fine 1 = .ok (.getfield 82, 3) := by decide +kernel
theorem dX7_fine_4 : decode cX7_fine 4 = .ok (.iconst (-1), 1) := by decide +kernel
theorem dX7_fine_5 : decode cX7_fine 5 = .ok (.if_icmp .ne 7, 3) := by decide +kernel
theorem dX7_fine_8 : decode cX7_fine 8 = .ok (.iconst 1, 1) := by decide +kernel
theorem dX7_fine_9 : decode cX7_fine 9 = .ok (.goto 4, 3) := by decide +kernel
theorem dX7_fine_12 : decode cX7_fine 12 = .ok (.iconst 0, 1) := by decide +kernel
theorem dX7_fine_13 : decode cX7_fine 13 = .ok (.ireturn, 1) := by decide +kernel
theorem dX7_fault_0 : decode cX7_fault 0 = .ok (.aload_n 0, 1) := by decide +kernel
theorem dX7_fault_1 : decode cX7_fault 1 = .ok (.invokevirtual 85, 3) := by decide +kernel
theorem dX7_fault_4 : decode cX7_fault 4 = .ok (.ifCond .eq 8, 3) := by decide +kernel
theorem dX7_fault_7 : decode cX7_fault 7 = .ok (.aload_n 0, 1) := by decide +kernel
theorem dX7_fault_8 : decode cX7_fault 8 = .ok (.iload_n 1, 1) := by decide +kernel
theorem dX7_fault_9 : decode cX7_fault 9 = .ok (.putfield 82, 3) := by decide +kernel
theorem dX7_fault_12 : decode cX7_fault 12 = .ok (.return_, 1) := by decide +kernel
theorem dX7_oneOf_0 : decode cX7_oneOf 0 = .ok (.aload_n 0, 1) := by decide +kernel
theorem dX7_oneOf_1 : decode cX7_oneOf 1 = .ok (.invokevirtual 85, 3) := by decide +kernel
theorem dX7_oneOf_4 : decode cX7_oneOf 4 = .ok (.ifCond .ne 5, 3) := by decide +kernel
theorem dX7_oneOf_7 : decode cX7_oneOf 7 = .ok (.iconst 0, 1) := by decide +kernel
theorem dX7_oneOf_8 : decode cX7_oneOf 8 = .ok (.ireturn, 1) := by decide +kernel
theorem dX7_oneOf_9 : decode cX7_oneOf 9 = .ok (.aload_n 0, 1) := by decide +kernel
theorem dX7_oneOf_10 : decode cX7_oneOf 10 = .ok (.invokevirtual 89, 3) := by decide +kernel
theorem dX7_oneOf_13 : decode cX7_oneOf 13 = .ok (.iload_n 1, 1) := by decide +kernel
theorem dX7_oneOf_14 : decode cX7_oneOf 14 = .ok (.iload_n 1, 1) := by decide +kernel
theorem dX7_oneOf_15 : decode cX7_oneOf 15 = .ok (.iload_n 2, 1) := by decide +kernel
theorem dX7_oneOf_16 : decode cX7_oneOf 16 = .ok (.iadd, 1) := by decide +kernel
theorem dX7_oneOf_17 : decode cX7_oneOf 17 = .ok (.iconst 1, 1) := by decide +kernel
theorem dX7_oneOf_18 : decode cX7_oneOf 18 = .ok (.isub, 1) := by decide +kernel
theorem dX7_oneOf_19 : decode cX7_oneOf 19 = .ok (.invokestatic 65, 3) := by decide +kernel
theorem dX7_oneOf_22 : decode cX7_oneOf 22 = .ok (.ifCond .ne 13, 3) := by decide +kernel
theorem dX7_oneOf_25 : decode cX7_oneOf 25 = .ok (.aload_n 0, 1) := by decide +kernel
theorem dX7_oneOf_26 : decode cX7_oneOf 26 = .ok (.aload_n 0, 1) := by decide +kernel
theorem dX7_oneOf_27 : decode cX7_oneOf 27 = .ok (.getfield 79, 3) := by decide +kernel
theorem dX7_oneOf_30 : decode cX7_oneOf 30 = .ok (.invokevirtual 93, 3) := by decide +kernel
theorem dX7_oneOf_33 : decode cX7_oneOf 33 = .ok (.iconst 0, 1) := by decide +kernel
theorem dX7_oneOf_34 : decode cX7_oneOf 34 = .ok (.ireturn, 1) := by decide +kernel
theorem dX7_oneOf_35 : decode cX7_oneOf 35 = .ok (.aload_n 0, 1) := by decide +kernel
theorem dX7_oneOf_36 : decode cX7_oneOf 36 = .ok (.dup, 1) := by decide +kernel
theorem dX7_oneOf_37 : decode cX7_oneOf 37 = .ok (.getfield 79, 3) := by decide +kernel
theorem dX7_oneOf_40 : decode cX7_oneOf 40 = .ok (.iconst 1, 1) := by decide +kernel
theorem dX7_oneOf_41 : decode cX7_oneOf 41 = .ok (.iadd, 1) := by decide +kernel
theorem dX7_oneOf_42 : decode cX7_oneOf 42 = .ok (.putfield 79, 3) := by decide +kernel
theorem dX7_oneOf_45 : decode cX7_oneOf 45 = .ok (.aload_n 0, 1) := by decide +kernel
theorem dX7_oneOf_46 : decode cX7_oneOf 46 = .ok (.getfield 13, 3) := by decide +kernel
theorem dX7_oneOf_49 : decode cX7_oneOf 49 = .ok (.aload_n 0, 1) := by decide +kernel
theorem dX7_oneOf_50 : decode cX7_oneOf 50 = .ok (.getfield 79, 3) := by decide +kernel
theorem dX7_oneOf_53 : decode cX7_oneOf 53 = .ok (.iconst 1, 1) := by decide +kernel
theorem dX7_oneOf_54 : decode cX7_oneOf 54 = .ok (.isub, 1) := by decide +kernel
theorem dX7_oneOf_55 : decode cX7_oneOf 55 = .ok (.baload, 1) := by decide +kernel
theorem dX7_oneOf_56 : decode cX7_oneOf 56 = .ok (.iload_n 1, 1) := by decide +kernel
theorem dX7_oneOf_57 : decode cX7_oneOf 57 = .ok (.isub, 1) := by decide +kernel
theorem dX7_oneOf_58 : decode cX7_oneOf 58 = .ok (.ireturn, 1) := by decide +kernel
theorem dX7_digits_0 : decode cX7_digits 0 = .ok (.iconst 0, 1) := by decide +kernel
theorem dX7_digits_1 : decode cX7_digits 1 = .ok (.istore_n 2, 1) := by decide +kernel
theorem dX7_digits_2 : decode cX7_digits 2 = .ok (.iconst 0, 1) := by decide +kernel
theorem dX7_digits_3 : decode cX7_digits 3 = .ok (.istore_n 3, 1) := by decide +kernel
theorem dX7_digits_4 : decode cX7_digits 4 = .ok (.iload_n 3, 1) := by decide +kernel
theorem dX7_digits_5 : decode cX7_digits 5 = .ok (.iload_n 1, 1) := by decide +kernel
theorem dX7_digits_6 : decode cX7_digits 6 = .ok (.if_icmp .ge 23, 3) := by decide +kernel
theorem dX7_digits_9 : decode cX7_digits 9 = .ok (.bipush 10, 2) := by decide +kernel
theorem dX7_digits_11 : decode cX7_digits 11 = .ok (.iload_n 2, 1) := by decide +kernel
theorem dX7_digits_12 : decode cX7_digits 12 = .ok (.imul, 1) := by decide +kernel
theorem dX7_digits_13 : decode cX7_digits 13 = .ok (.aload_n 0, 1) := by decide +kernel
theorem dX7_digits_14 : decode cX7_digits 14 = .ok (.bipush 48, 2) := by decide +kernel
theorem dX7_digits_16 : decode cX7_digits 16 = .ok (.bipush 10, 2) := by decide +kernel
theorem dX7_digits_18 : decode cX7_digits 18 = .ok (.invokevirtual 97, 3) := by decide +kernel
theorem dX7_digits_21 : decode cX7_digits 21 = .ok (.iadd, 1) := by decide +kernel
theorem dX7_digits_22 : decode cX7_digits 22 = .ok (.istore_n 2, 1) := by decide +kernel
theorem dX7_digits_23 : decode cX7_digits 23 = .ok (.iinc 3 1, 3) := by decide +kernel
theorem dX7_digits_26 : decode cX7_digits 26 = .ok (.goto (-22), 3) := by decide +kernel
theorem dX7_digits_29 : decode cX7_digits 29 = .ok (.iload_n 2, 1) := by decide +kernel
theorem dX7_digits_30 : decode cX7_digits 30 = .ok (.ireturn, 1) := by decide +kernel
theorem dX7_wasRight_0 : decode cX7_wasRight 0 = .ok (.aload_n 0, 1) := by decide +kernel
theorem dX7_wasRight_1 : decode cX7_wasRight 1 = .ok (.getfield 79, 3) := by decide +kernel
theorem dX7_wasRight_4 : decode cX7_wasRight 4 = .ok (.aload_n 0, 1) := by decide +kernel
theorem dX7_wasRight_5 : decode cX7_wasRight 5 = .ok (.getfield 76, 3) := by decide +kernel
theorem dX7_wasRight_8 : decode cX7_wasRight 8 = .ok (.if_icmp .ge 11, 3) := by decide +kernel
theorem dX7_wasRight_11 : decode cX7_wasRight 11 = .ok (.aload_n 0, 1) := by decide +kernel
theorem dX7_wasRight_12 : decode cX7_wasRight 12 = .ok (.aload_n 0, 1) := by decide +kernel
theorem dX7_wasRight_13 : decode cX7_wasRight 13 = .ok (.getfield 79, 3) := by decide +kernel
theorem dX7_wasRight_16 : decode cX7_wasRight 16 = .ok (.invokevirtual 93, 3) := by decide +kernel
theorem dX7_wasRight_19 : decode cX7_wasRight 19 = .ok (.aload_n 0, 1) := by decide +kernel
theorem dX7_wasRight_20 : decode cX7_wasRight 20 = .ok (.invokevirtual 85, 3) := by decide +kernel
theorem dX7_wasRight_23 : decode cX7_wasRight 23 = .ok (.ireturn, 1) := by decide +kernel
theorem dX7_words_0 : decode cX7_words 0 = .ok (.aload_n 0, 1) := by decide +kernel
theorem dX7_words_1 : decode cX7_words 1 = .ok (.iconst 0, 1) := by decide +kernel
theorem dX7_words_2 : decode cX7_words 2 = .ok (.putfield 58, 3) := by decide +kernel
theorem dX7_words_5 : decode cX7_words 5 = .ok (.aload_n 0, 1) := by decide +kernel
theorem dX7_words_6 : decode cX7_words 6 = .ok (.invokevirtual 101, 3) := by decide +kernel
theorem dX7_words_9 : decode cX7_words 9 = .ok (.iload_n 1, 1) := by decide +kernel
theorem dX7_words_10 : decode cX7_words 10 = .ok (.invokestatic 69, 3) := by decide +kernel
theorem dX7_words_13 : decode cX7_words 13 = .ok (.ifCond .ne 5, 3) := by decide +kernel
theorem dX7_words_16 : decode cX7_words 16 = .ok (.iconst (-1), 1) := by decide +kernel
theorem dX7_words_17 : decode cX7_words 17 = .ok (.ireturn, 1) := by decide +kernel
theorem dX7_words_18 : decode cX7_words 18 = .ok (.iconst 0, 1) := by decide +kernel
theorem dX7_words_19 : decode cX7_words 19 = .ok (.istore_n 2, 1) := by decide +kernel
theorem dX7_words_20 : decode cX7_words 20 = .ok (.aload_n 0, 1) := by decide +kernel
theorem dX7_words_21 : decode cX7_words 21 = .ok (.invokevirtual 85, 3) := by decide +kernel
theorem dX7_words_24 : decode cX7_words 24 = .ok (.ifCond .eq 53, 3) := by decide +kernel
theorem dX7_words_27 : decode cX7_words 27 = .ok (.aload_n 0, 1) := by decide +kernel
theorem dX7_words_28 : decode cX7_words 28 = .ok (.getfield 79, 3) := by decide +kernel
theorem dX7_words_31 : decode cX7_words 31 = .ok (.aload_n 0, 1) := by decide +kernel
theorem dX7_words_32 : decode cX7_words 32 = .ok (.getfield 76, 3) := by decide +kernel
theorem dX7_words_35 : decode cX7_words 35 = .ok (.if_icmp .ge 42, 3) := by decide +kernel
theorem dX7_words_38 : decode cX7_words 38 = .ok (.iload_n 2, 1) := by decide +kernel
theorem dX7_words_39 : decode cX7_words 39 = .ok (.bipush 70, 2) := by decide +kernel
theorem dX7_words_41 : decode cX7_words 41 = .ok (.if_icmp .ne 14, 3) := by decide +kernel
theorem dX7_words_44 : decode cX7_words 44 = .ok (.aload_n 0, 1) := by decide +kernel
theorem dX7_words_45 : decode cX7_words 45 = .ok (.aload_n 0, 1) := by decide +kernel
theorem dX7_words_46 : decode cX7_words 46 = .ok (.getfield 79, 3) := by decide +kernel
theorem dX7_words_49 : decode cX7_words 49 = .ok (.invokevirtual 93, 3) := by decide +kernel
theorem dX7_words_52 : decode cX7_words 52 = .ok (.goto (-32), 3) := by decide +kernel
theorem dX7_words_55 : decode cX7_words 55 = .ok (.aload_n 0, 1) := by decide +kernel
theorem dX7_words_56 : decode cX7_words 56 = .ok (.getfield 21, 3) := by decide +kernel
theorem dX7_words_59 : decode cX7_words 59 = .ok (.iload_n 2, 1) := by decide +kernel
theorem dX7_words_60 : decode cX7_words 60 = .ok (.aload_n 0, 1) := by decide +kernel
theorem dX7_words_61 : decode cX7_words 61 = .ok (.bipush 49, 2) := by decide +kernel
theorem dX7_words_63 : decode cX7_words 63 = .ok (.bipush 9, 2) := by decide +kernel
theorem dX7_words_65 : decode cX7_words 65 = .ok (.invokevirtual 97, 3) := by decide +kernel
theorem dX7_words_68 : decode cX7_words 68 = .ok (.iconst 1, 1) := by decide +kernel
theorem dX7_words_69 : decode cX7_words 69 = .ok (.iadd, 1) := by decide +kernel
theorem dX7_words_70 : decode cX7_words 70 = .ok (.iastore, 1) := by decide +kernel
theorem dX7_words_71 : decode cX7_words 71 = .ok (.iinc 2 1, 3) := by decide +kernel
theorem dX7_words_74 : decode cX7_words 74 = .ok (.goto (-54), 3) := by decide +kernel
theorem dX7_words_77 : decode cX7_words 77 = .ok (.aload_n 0, 1) := by decide +kernel
theorem dX7_words_78 : decode cX7_words 78 = .ok (.invokevirtual 104, 3) := by decide +kernel
theorem dX7_words_81 : decode cX7_words 81 = .ok (.ifCond .ne 10, 3) := by decide +kernel
theorem dX7_words_84 : decode cX7_words 84 = .ok (.iconst (-1), 1) := by decide +kernel
theorem dX7_words_85 : decode cX7_words 85 = .ok (.aload_n 0, 1) := by decide +kernel
theorem dX7_words_86 : decode cX7_words 86 = .ok (.getfield 82, 3) := by decide +kernel
theorem dX7_words_89 : decode cX7_words 89 = .ok (.isub, 1) := by decide +kernel
theorem dX7_words_90 : decode cX7_words 90 = .ok (.ireturn, 1) := by decide +kernel
theorem dX7_words_91 : decode cX7_words 91 = .ok (.aload_n 0, 1) := by decide +kernel
theorem dX7_words_92 : decode cX7_words 92 = .ok (.invokevirtual 107, 3) := by decide +kernel
theorem dX7_words_95 : decode cX7_words 95 = .ok (.aload_n 0, 1) := by decide +kernel
theorem dX7_words_96 : decode cX7_words 96 = .ok (.getfield 9, 3) := by decide +kernel
theorem dX7_words_99 : decode cX7_words 99 = .ok (.iconst 5, 1) := by decide +kernel
theorem dX7_words_100 : decode cX7_words 100 = .ok (.iload_n 1, 1) := by decide +kernel
theorem dX7_words_101 : decode cX7_words 101 = .ok (.iadd, 1) := by decide +kernel
theorem dX7_words_102 : decode cX7_words 102 = .ok (.iload_n 2, 1) := by decide +kernel
theorem dX7_words_103 : decode cX7_words 103 = .ok (.iastore, 1) := by decide +kernel
theorem dX7_words_104 : decode cX7_words 104 = .ok (.iconst 0, 1) := by decide +kernel
theorem dX7_words_105 : decode cX7_words 105 = .ok (.istore_n 3, 1) := by decide +kernel
theorem dX7_words_106 : decode cX7_words 106 = .ok (.iload_n 3, 1) := by decide +kernel
theorem dX7_words_107 : decode cX7_words 107 = .ok (.bipush 70, 2) := by decide +kernel
theorem dX7_words_109 : decode cX7_words 109 = .ok (.if_icmp .ge 38, 3) := by decide +kernel
theorem dX7_words_112 : decode cX7_words 112 = .ok (.aload_n 0, 1) := by decide +kernel
theorem dX7_words_113 : decode cX7_words 113 = .ok (.getfield 9, 3) := by decide +kernel
theorem dX7_words_116 : decode cX7_words 116 = .ok (.bipush 8, 2) := by decide +kernel
theorem dX7_words_118 : decode cX7_words 118 = .ok (.bipush 70, 2) := by decide +kernel
theorem dX7_words_120 : decode cX7_words 120 = .ok (.iload_n 1, 1) := by decide +kernel
theorem dX7_words_121 : decode cX7_words 121 = .ok (.imul, 1) := by decide +kernel
theorem dX7_words_122 : decode cX7_words 122 = .ok (.iadd, 1) := by decide +kernel
theorem dX7_words_123 : decode cX7_words 123 = .ok (.iload_n 3, 1) := by decide +kernel
theorem dX7_words_124 : decode cX7_words 124 = .ok (.iadd, 1) := by decide +kernel
theorem dX7_words_125 : decode cX7_words 125 = .ok (.iload_n 3, 1) := by decide +kernel
theorem dX7_words_126 : decode cX7_words 126 = .ok (.iload_n 2, 1) := by decide +kernel
theorem dX7_words_127 : decode cX7_words 127 = .ok (.if_icmp .ge 12, 3) := by decide +kernel
theorem dX7_words_130 : decode cX7_words 130 = .ok (.aload_n 0, 1) := by decide +kernel
theorem dX7_words_131 : decode cX7_words 131 = .ok (.getfield 21, 3) := by decide +kernel
theorem dX7_words_134 : decode cX7_words 134 = .ok (.iload_n 3, 1) := by decide +kernel
theorem dX7_words_135 : decode cX7_words 135 = .ok (.iaload, 1) := by decide +kernel
theorem dX7_words_136 : decode cX7_words 136 = .ok (.goto 4, 3) := by decide +kernel
theorem dX7_words_139 : decode cX7_words 139 = .ok (.iconst 0, 1) := by decide +kernel
theorem dX7_words_140 : decode cX7_words 140 = .ok (.iastore, 1) := by decide +kernel
theorem dX7_words_141 : decode cX7_words 141 = .ok (.iinc 3 1, 3) := by decide +kernel
theorem dX7_words_144 : decode cX7_words 144 = .ok (.goto (-38), 3) := by decide +kernel
theorem dX7_words_147 : decode cX7_words 147 = .ok (.aload_n 0, 1) := by decide +kernel
theorem dX7_words_148 : decode cX7_words 148 = .ok (.getfield 9, 3) := by decide +kernel
theorem dX7_words_151 : decode cX7_words 151 = .ok (.sipush 218, 3) := by decide +kernel
theorem dX7_words_154 : decode cX7_words 154 = .ok (.iaload, 1) := by decide +kernel
theorem dX7_words_155 : decode cX7_words 155 = .ok (.iconst 1, 1) := by decide +kernel
theorem dX7_words_156 : decode cX7_words 156 = .ok (.isub, 1) := by decide +kernel
theorem dX7_words_157 : decode cX7_words 157 = .ok (.istore_n 3, 1) := by decide +kernel
theorem dX7_words_158 : decode cX7_words 158 = .ok (.iload_n 3, 1) := by decide +kernel
theorem dX7_words_159 : decode cX7_words 159 = .ok (.ifCond .lt 28, 3) := by decide +kernel
theorem dX7_words_162 : decode cX7_words 162 = .ok (.iload_n 1, 1) := by decide +kernel
theorem dX7_words_163 : decode cX7_words 163 = .ok (.ifCond .eq 13, 3) := by decide +kernel
theorem dX7_words_166 : decode cX7_words 166 = .ok (.aload_n 0, 1) := by decide +kernel
theorem dX7_words_167 : decode cX7_words 167 = .ok (.iload_n 3, 1) := by decide +kernel
theorem dX7_words_168 : decode cX7_words 168 = .ok (.iconst 0, 1) := by decide +kernel
theorem dX7_words_169 : decode cX7_words 169 = .ok (.invokevirtual 110, 3) := by decide +kernel
theorem dX7_words_172 : decode cX7_words 172 = .ok (.iload_n 1, 1) := by decide +kernel
theorem dX7_words_173 : decode cX7_words 173 = .ok (.if_icmp .ne 8, 3) := by decide +kernel
theorem dX7_words_176 : decode cX7_words 176 = .ok (.aload_n 0, 1) := by decide +kernel
theorem dX7_words_177 : decode cX7_words 177 = .ok (.iload_n 3, 1) := by decide +kernel
theorem dX7_words_178 : decode cX7_words 178 = .ok (.invokevirtual 114, 3) := by decide +kernel
theorem dX7_words_181 : decode cX7_words 181 = .ok (.iinc 3 (-1), 3) := by decide +kernel
theorem dX7_words_184 : decode cX7_words 184 = .ok (.goto (-26), 3) := by decide +kernel
theorem dX7_words_187 : decode cX7_words 187 = .ok (.iload_n 2, 1) := by decide +kernel
theorem dX7_words_188 : decode cX7_words 188 = .ok (.ireturn, 1) := by decide +kernel
theorem dX7_untie_0 : decode cX7_untie 0 = .ok (.aload_n 0, 1) := by decide +kernel
theorem dX7_untie_1 : decode cX7_untie 1 = .ok (.getfield 9, 3) := by decide +kernel
theorem dX7_untie_4 : decode cX7_untie 4 = .ok (.sipush 218, 3) := by decide +kernel
theorem dX7_untie_7 : decode cX7_untie 7 = .ok (.dup2, 1) := by decide +kernel
theorem dX7_untie_8 : decode cX7_untie 8 = .ok (.iaload, 1) := by decide +kernel
theorem dX7_untie_9 : decode cX7_untie 9 = .ok (.iconst 1, 1) := by decide +kernel
theorem dX7_untie_10 : decode cX7_untie 10 = .ok (.isub, 1) := by decide +kernel
theorem dX7_untie_11 : decode cX7_untie 11 = .ok (.iastore, 1) := by decide +kernel
theorem dX7_untie_12 : decode cX7_untie 12 = .ok (.sipush 219, 3) := by decide +kernel
theorem dX7_untie_15 : decode cX7_untie 15 = .ok (.iconst 3, 1) := by decide +kernel
theorem dX7_untie_16 : decode cX7_untie 16 = .ok (.iload_n 1, 1) := by decide +kernel
theorem dX7_untie_17 : decode cX7_untie 17 = .ok (.imul, 1) := by decide +kernel
theorem dX7_untie_18 : decode cX7_untie 18 = .ok (.iadd, 1) := by decide +kernel
theorem dX7_untie_19 : decode cX7_untie 19 = .ok (.istore_n 2, 1) := by decide +kernel
theorem dX7_untie_20 : decode cX7_untie 20 = .ok (.iload_n 2, 1) := by decide +kernel
theorem dX7_untie_21 : decode cX7_untie 21 = .ok (.sipush 219, 3) := by decide +kernel
theorem dX7_untie_24 : decode cX7_untie 24 = .ok (.iconst 3, 1) := by decide +kernel
theorem dX7_untie_25 : decode cX7_untie 25 = .ok (.aload_n 0, 1) := by decide +kernel
theorem dX7_untie_26 : decode cX7_untie 26 = .ok (.getfield 9, 3) := by decide +kernel
theorem dX7_untie_29 : decode cX7_untie 29 = .ok (.sipush 218, 3) := by decide +kernel
theorem dX7_untie_32 : decode cX7_untie 32 = .ok (.iaload, 1) := by decide +kernel
theorem dX7_untie_33 : decode cX7_untie 33 = .ok (.imul, 1) := by decide +kernel
theorem dX7_untie_34 : decode cX7_untie 34 = .ok (.iadd, 1) := by decide +kernel
theorem dX7_untie_35 : decode cX7_untie 35 = .ok (.if_icmp .ge 23, 3) := by decide +kernel
theorem dX7_untie_38 : decode cX7_untie 38 = .ok (.aload_n 0, 1) := by decide +kernel
theorem dX7_untie_39 : decode cX7_untie 39 = .ok (.getfield 9, 3) := by decide +kernel
theorem dX7_untie_42 : decode cX7_untie 42 = .ok (.iload_n 2, 1) := by decide +kernel
theorem dX7_untie_43 : decode cX7_untie 43 = .ok (.aload_n 0, 1) := by decide +kernel
theorem dX7_untie_44 : decode cX7_untie 44 = .ok (.getfield 9, 3) := by decide +kernel
theorem dX7_untie_47 : decode cX7_untie 47 = .ok (.iload_n 2, 1) := by decide +kernel
theorem dX7_untie_48 : decode cX7_untie 48 = .ok (.iconst 3, 1) := by decide +kernel
theorem dX7_untie_49 : decode cX7_untie 49 = .ok (.iadd, 1) := by decide +kernel
theorem dX7_untie_50 : decode cX7_untie 50 = .ok (.iaload, 1) := by decide +kernel
theorem dX7_untie_51 : decode cX7_untie 51 = .ok (.iastore, 1) := by decide +kernel
theorem dX7_untie_52 : decode cX7_untie 52 = .ok (.iinc 2 1, 3) := by decide +kernel
theorem dX7_untie_55 : decode cX7_untie 55 = .ok (.goto (-35), 3) := by decide +kernel
theorem dX7_untie_58 : decode cX7_untie 58 = .ok (.iconst 0, 1) := by decide +kernel
theorem dX7_untie_59 : decode cX7_untie 59 = .ok (.istore_n 2, 1) := by decide +kernel
theorem dX7_untie_60 : decode cX7_untie 60 = .ok (.iload_n 2, 1) := by decide +kernel
theorem dX7_untie_61 : decode cX7_untie 61 = .ok (.iconst 3, 1) := by decide +kernel
theorem dX7_untie_62 : decode cX7_untie 62 = .ok (.if_icmp .ge 31, 3) := by decide +kernel
theorem dX7_untie_65 : decode cX7_untie 65 = .ok (.aload_n 0, 1) := by decide +kernel
theorem dX7_untie_66 : decode cX7_untie 66 = .ok (.getfield 9, 3) := by decide +kernel
theorem dX7_untie_69 : decode cX7_untie 69 = .ok (.sipush 219, 3) := by decide +kernel
theorem dX7_untie_72 : decode cX7_untie 72 = .ok (.iconst 3, 1) := by decide +kernel
theorem dX7_untie_73 : decode cX7_untie 73 = .ok (.aload_n 0, 1) := by decide +kernel
theorem dX7_untie_74 : decode cX7_untie 74 = .ok (.getfield 9, 3) := by decide +kernel
theorem dX7_untie_77 : decode cX7_untie 77 = .ok (.sipush 218, 3) := by decide +kernel
theorem dX7_untie_80 : decode cX7_untie 80 = .ok (.iaload, 1) := by decide +kernel
theorem dX7_untie_81 : decode cX7_untie 81 = .ok (.imul, 1) := by decide +kernel
theorem dX7_untie_82 : decode cX7_untie 82 = .ok (.iadd, 1) := by decide +kernel
theorem dX7_untie_83 : decode cX7_untie 83 = .ok (.iload_n 2, 1) := by decide +kernel
theorem dX7_untie_84 : decode cX7_untie 84 = .ok (.iadd, 1) := by decide +kernel
theorem dX7_untie_85 : decode cX7_untie 85 = .ok (.iconst 0, 1) := by decide +kernel
theorem dX7_untie_86 : decode cX7_untie 86 = .ok (.iastore, 1) := by decide +kernel
theorem dX7_untie_87 : decode cX7_untie 87 = .ok (.iinc 2 1, 3) := by decide +kernel
theorem dX7_untie_90 : decode cX7_untie 90 = .ok (.goto (-30), 3) := by decide +kernel
theorem dX7_untie_93 : decode cX7_untie 93 = .ok (.return_, 1) := by decide +kernel
theorem dX7_wasTied_0 : decode cX7_wasTied 0 = .ok (.iconst 0, 1) := by decide +kernel
theorem dX7_wasTied_1 : decode cX7_wasTied 1 = .ok (.istore 4, 2) := by decide +kernel
theorem dX7_wasTied_3 : decode cX7_wasTied 3 = .ok (.iload 4, 2) := by decide +kernel
theorem dX7_wasTied_5 : decode cX7_wasTied 5 = .ok (.iload_n 1, 1) := by decide +kernel
theorem dX7_wasTied_6 : decode cX7_wasTied 6 = .ok (.if_icmp .ge 39, 3) := by decide +kernel
theorem dX7_wasTied_9 : decode cX7_wasTied 9 = .ok (.aload_n 0, 1) := by decide +kernel
theorem dX7_wasTied_10 : decode cX7_wasTied 10 = .ok (.getfield 21, 3) := by decide +kernel
theorem dX7_wasTied_13 : decode cX7_wasTied 13 = .ok (.iconst 3, 1) := by decide +kernel
theorem dX7_wasTied_14 : decode cX7_wasTied 14 = .ok (.iload 4, 2) := by decide +kernel
theorem dX7_wasTied_16 : decode cX7_wasTied 16 = .ok (.imul, 1) := by decide +kernel
theorem dX7_wasTied_17 : decode cX7_wasTied 17 = .ok (.iaload, 1) := by decide +kernel
theorem dX7_wasTied_18 : decode cX7_wasTied 18 = .ok (.iload_n 2, 1) := by decide +kernel
theorem dX7_wasTied_19 : decode cX7_wasTied 19 = .ok (.if_icmp .ne 20, 3) := by decide +kernel
theorem dX7_wasTied_22 : decode cX7_wasTied 22 = .ok (.aload_n 0, 1) := by decide +kernel
theorem dX7_wasTied_23 : decode cX7_wasTied 23 = .ok (.getfield 21, 3) := by decide +kernel
theorem dX7_wasTied_26 : decode cX7_wasTied 26 = .ok (.iconst 3, 1) := by decide +kernel
theorem dX7_wasTied_27 : decode cX7_wasTied 27 = .ok (.iload 4, 2) := by decide +kernel
theorem dX7_wasTied_29 : decode cX7_wasTied 29 = .ok (.imul, 1) := by decide +kernel
theorem dX7_wasTied_30 : decode cX7_wasTied 30 = .ok (.iconst 1, 1) := by decide +kernel
theorem dX7_wasTied_31 : decode cX7_wasTied 31 = .ok (.iadd, 1) := by decide +kernel
theorem dX7_wasTied_32 : decode cX7_wasTied 32 = .ok (.iaload, 1) := by decide +kernel
theorem dX7_wasTied_33 : decode cX7_wasTied 33 = .ok (.iload_n 3, 1) := by decide +kernel
theorem dX7_wasTied_34 : decode cX7_wasTied 34 = .ok (.if_icmp .ne 5, 3) := by decide +kernel
theorem dX7_wasTied_37 : decode cX7_wasTied 37 = .ok (.iconst 1, 1) := by decide +kernel
theorem dX7_wasTied_38 : decode cX7_wasTied 38 = .ok (.ireturn, 1) := by decide +kernel
theorem dX7_wasTied_39 : decode cX7_wasTied 39 = .ok (.iinc 4 1, 3) := by decide +kernel
theorem dX7_wasTied_42 : decode cX7_wasTied 42 = .ok (.goto (-39), 3) := by decide +kernel
theorem dX7_wasTied_45 : decode cX7_wasTied 45 = .ok (.iconst 0, 1) := by decide +kernel
theorem dX7_wasTied_46 : decode cX7_wasTied 46 = .ok (.ireturn, 1) := by decide +kernel
theorem dX7_readTie_0 : decode cX7_readTie 0 = .ok (.aload_n 0, 1) := by decide +kernel
theorem dX7_readTie_1 : decode cX7_readTie 1 = .ok (.invokevirtual 89, 3) := by decide +kernel
theorem dX7_readTie_4 : decode cX7_readTie 4 = .ok (.bipush 105, 2) := by decide +kernel
theorem dX7_readTie_6 : decode cX7_readTie 6 = .ok (.if_icmp .ne 7, 3) := by decide +kernel
theorem dX7_readTie_9 : decode cX7_readTie 9 = .ok (.iconst 1, 1) := by decide +kernel
theorem dX7_readTie_10 : decode cX7_readTie 10 = .ok (.goto 17, 3) := by decide +kernel
theorem dX7_readTie_13 : decode cX7_readTie 13 = .ok (.aload_n 0, 1) := by decide +kernel
theorem dX7_readTie_14 : decode cX7_readTie 14 = .ok (.invokevirtual 89, 3) := by decide +kernel
theorem dX7_readTie_17 : decode cX7_readTie 17 = .ok (.bipush 111, 2) := by decide +kernel
theorem dX7_readTie_19 : decode cX7_readTie 19 = .ok (.if_icmp .ne 7, 3) := by decide +kernel
theorem dX7_readTie_22 : decode cX7_readTie 22 = .ok (.iconst 2, 1) := by decide +kernel
theorem dX7_readTie_23 : decode cX7_readTie 23 = .ok (.goto 4, 3) := by decide +kernel
theorem dX7_readTie_26 : decode cX7_readTie 26 = .ok (.iconst (-1), 1) := by decide +kernel
theorem dX7_readTie_27 : decode cX7_readTie 27 = .ok (.istore_n 2, 1) := by decide +kernel
theorem dX7_readTie_28 : decode cX7_readTie 28 = .ok (.iload_n 2, 1) := by decide +kernel
theorem dX7_readTie_29 : decode cX7_readTie 29 = .ok (.iconst (-1), 1) := by decide +kernel
theorem dX7_readTie_30 : decode cX7_readTie 30 = .ok (.if_icmp .ne 12, 3) := by decide +kernel
theorem dX7_readTie_33 : decode cX7_readTie 33 = .ok (.aload_n 0, 1) := by decide +kernel
theorem dX7_readTie_34 : decode cX7_readTie 34 = .ok (.aload_n 0, 1) := by decide +kernel
theorem dX7_readTie_35 : decode cX7_readTie 35 = .ok (.getfield 79, 3) := by decide +kernel
theorem dX7_readTie_38 : decode cX7_readTie 38 = .ok (.invokevirtual 93, 3) := by decide +kernel
theorem dX7_readTie_41 : decode cX7_readTie 41 = .ok (.return_, 1) := by decide +kernel
theorem dX7_readTie_42 : decode cX7_readTie 42 = .ok (.aload_n 0, 1) := by decide +kernel
theorem dX7_readTie_43 : decode cX7_readTie 43 = .ok (.dup, 1) := by decide +kernel
theorem dX7_readTie_44 : decode cX7_readTie 44 = .ok (.getfield 79, 3) := by decide +kernel
theorem dX7_readTie_47 : decode cX7_readTie 47 = .ok (.iconst 1, 1) := by decide +kernel
theorem dX7_readTie_48 : decode cX7_readTie 48 = .ok (.iadd, 1) := by decide +kernel
theorem dX7_readTie_49 : decode cX7_readTie 49 = .ok (.putfield 79, 3) := by decide +kernel
theorem dX7_readTie_52 : decode cX7_readTie 52 = .ok (.aload_n 0, 1) := by decide +kernel
theorem dX7_readTie_53 : decode cX7_readTie 53 = .ok (.iconst 2, 1) := by decide +kernel
theorem dX7_readTie_54 : decode cX7_readTie 54 = .ok (.invokevirtual 117, 3) := by decide +kernel
theorem dX7_readTie_57 : decode cX7_readTie 57 = .ok (.istore_n 3, 1) := by decide +kernel
theorem dX7_readTie_58 : decode cX7_readTie 58 = .ok (.aload_n 0, 1) := by decide +kernel
theorem dX7_readTie_59 : decode cX7_readTie 59 = .ok (.invokevirtual 85, 3) := by decide +kernel
theorem dX7_readTie_62 : decode cX7_readTie 62 = .ok (.ifCond .eq 32, 3) := by decide +kernel
theorem dX7_readTie_65 : decode cX7_readTie 65 = .ok (.aload_n 0, 1) := by decide +kernel
theorem dX7_readTie_66 : decode cX7_readTie 66 = .ok (.iload_n 2, 1) := by decide +kernel
theorem dX7_readTie_67 : decode cX7_readTie 67 = .ok (.iload_n 3, 1) := by decide +kernel
theorem dX7_readTie_68 : decode cX7_readTie 68 = .ok (.invokevirtual 121, 3) := by decide +kernel
theorem dX7_readTie_71 : decode cX7_readTie 71 = .ok (.ifCond .eq 13, 3) := by decide +kernel
theorem dX7_readTie_74 : decode cX7_readTie 74 = .ok (.aload_n 0, 1) := by decide +kernel
theorem dX7_readTie_75 : decode cX7_readTie 75 = .ok (.iload_n 1, 1) := by decide +kernel
theorem dX7_readTie_76 : decode cX7_readTie 76 = .ok (.iload_n 2, 1) := by decide +kernel
theorem dX7_readTie_77 : decode cX7_readTie 77 = .ok (.iload_n 3, 1) := by decide +kernel
theorem dX7_readTie_78 : decode cX7_readTie 78 = .ok (.invokevirtual 125, 3) := by decide +kernel
theorem dX7_readTie_81 : decode cX7_readTie 81 = .ok (.ifCond .eq 13, 3) := by decide +kernel
theorem dX7_readTie_84 : decode cX7_readTie 84 = .ok (.aload_n 0, 1) := by decide +kernel
theorem dX7_readTie_85 : decode cX7_readTie 85 = .ok (.aload_n 0, 1) := by decide +kernel
theorem dX7_readTie_86 : decode cX7_readTie 86 = .ok (.getfield 79, 3) := by decide +kernel
