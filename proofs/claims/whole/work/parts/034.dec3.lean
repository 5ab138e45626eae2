theorem dX7_narrow_25 : decode cX7_narrow 25 = .ok (.goto 4, 3) := by decide +kernel
theorem dX7_narrow_28 : decode cX7_narrow 28 = .ok (.iconst (-1), 1) := by decide +kernel
theorem dX7_narrow_29 : decode cX7_narrow 29 = .ok (.ireturn, 1) := by decide +kernel
theorem dX7_low_0 : decode cX7_low 0 = .ok (.aload_n 0, 1) := by decide +kernel
theorem dX7_low_1 : decode cX7_low 1 = .ok (.iconst 0, 1) := by decide +kernel
theorem dX7_low_2 : decode cX7_low 2 = .ok (.putfield 58, 3) := by decide +kernel
theorem dX7_low_5 : decode cX7_low 5 = .ok (.iload_n 1, 1) := by decide +kernel
theorem dX7_low_6 : decode cX7_low 6 = .ok (.iconst 1, 1) := by decide +kernel
theorem dX7_low_7 : decode cX7_low 7 = .ok (.bipush 9, 2) := by decide +kernel
theorem dX7_low_9 : decode cX7_low 9 = .ok (.invokestatic 65, 3) := by decide +kernel
theorem dX7_low_12 : decode cX7_low 12 = .ok (.ifCond .eq 15, 3) := by decide +kernel
theorem dX7_low_15 : decode cX7_low 15 = .ok (.aload_n 0, 1) := by decide +kernel
theorem dX7_low_16 : decode cX7_low 16 = .ok (.iconst 1, 1) := by decide +kernel
theorem dX7_low_17 : decode cX7_low 17 = .ok (.iconst 3, 1) := by decide +kernel
theorem dX7_low_18 : decode cX7_low 18 = .ok (.bipush 40, 2) := by decide +kernel
theorem dX7_low_20 : decode cX7_low 20 = .ok (.iload_n 1, 1) := by decide +kernel
theorem dX7_low_21 : decode cX7_low 21 = .ok (.invokevirtual 261, 3) := by decide +kernel
theorem dX7_low_24 : decode cX7_low 24 = .ok (.goto 4, 3) := by decide +kernel
theorem dX7_low_27 : decode cX7_low 27 = .ok (.iconst (-1), 1) := by decide +kernel
theorem dX7_low_28 : decode cX7_low 28 = .ok (.ireturn, 1) := by decide +kernel
theorem dX7_put_0 : decode cX7_put 0 = .ok (.aload_n 0, 1) := by decide +kernel
theorem dX7_put_1 : decode cX7_put 1 = .ok (.getfield 9, 3) := by decide +kernel
theorem dX7_put_4 : decode cX7_put 4 = .ok (.iconst 5, 1) := by decide +kernel
theorem dX7_put_5 : decode cX7_put 5 = .ok (.iload_n 1, 1) := by decide +kernel
theorem dX7_put_6 : decode cX7_put 6 = .ok (.iadd, 1) := by decide +kernel
theorem dX7_put_7 : decode cX7_put 7 = .ok (.iaload, 1) := by decide +kernel
theorem dX7_put_8 : decode cX7_put 8 = .ok (.istore 4, 2) := by decide +kernel
theorem dX7_put_10 : decode cX7_put 10 = .ok (.iload 4, 2) := by decide +kernel
theorem dX7_put_12 : decode cX7_put 12 = .ok (.iload_n 2, 1) := by decide +kernel
theorem dX7_put_13 : decode cX7_put 13 = .ok (.if_icmp .le 41, 3) := by decide +kernel
theorem dX7_put_16 : decode cX7_put 16 = .ok (.aload_n 0, 1) := by decide +kernel
theorem dX7_put_17 : decode cX7_put 17 = .ok (.getfield 9, 3) := by decide +kernel
theorem dX7_put_20 : decode cX7_put 20 = .ok (.bipush 8, 2) := by decide +kernel
theorem dX7_put_22 : decode cX7_put 22 = .ok (.bipush 70, 2) := by decide +kernel
theorem dX7_put_24 : decode cX7_put 24 = .ok (.iload_n 1, 1) := by decide +kernel
theorem dX7_put_25 : decode cX7_put 25 = .ok (.imul, 1) := by decide +kernel
theorem dX7_put_26 : decode cX7_put 26 = .ok (.iadd, 1) := by decide +kernel
theorem dX7_put_27 : decode cX7_put 27 = .ok (.iload 4, 2) := by decide +kernel
theorem dX7_put_29 : decode cX7_put 29 = .ok (.iadd, 1) := by decide +kernel
theorem dX7_put_30 : decode cX7_put 30 = .ok (.aload_n 0, 1) := by decide +kernel
theorem dX7_put_31 : decode cX7_put 31 = .ok (.getfield 9, 3) := by decide +kernel
theorem dX7_put_34 : decode cX7_put 34 = .ok (.bipush 8, 2) := by decide +kernel
theorem dX7_put_36 : decode cX7_put 36 = .ok (.bipush 70, 2) := by decide +kernel
theorem dX7_put_38 : decode cX7_put 38 = .ok (.iload_n 1, 1) := by decide +kernel
theorem dX7_put_39 : decode cX7_put 39 = .ok (.imul, 1) := by decide +kernel
theorem dX7_put_40 : decode cX7_put 40 = .ok (.iadd, 1) := by decide +kernel
theorem dX7_put_41 : decode cX7_put 41 = .ok (.iload 4, 2) := by decide +kernel
theorem dX7_put_43 : decode cX7_put 43 = .ok (.iadd, 1) := by decide +kernel
theorem dX7_put_44 : decode cX7_put 44 = .ok (.iconst 1, 1) := by decide +kernel
theorem dX7_put_45 : decode cX7_put 45 = .ok (.isub, 1) := by decide +kernel
theorem dX7_put_46 : decode cX7_put 46 = .ok (.iaload, 1) := by decide +kernel
theorem dX7_put_47 : decode cX7_put 47 = .ok (.iastore, 1) := by decide +kernel
theorem dX7_put_48 : decode cX7_put 48 = .ok (.iinc 4 (-1), 3) := by decide +kernel
theorem dX7_put_51 : decode cX7_put 51 = .ok (.goto (-41), 3) := by decide +kernel
theorem dX7_put_54 : decode cX7_put 54 = .ok (.aload_n 0, 1) := by decide +kernel
theorem dX7_put_55 : decode cX7_put 55 = .ok (.getfield 9, 3) := by decide +kernel
theorem dX7_put_58 : decode cX7_put 58 = .ok (.bipush 8, 2) := by decide +kernel
theorem dX7_put_60 : decode cX7_put 60 = .ok (.bipush 70, 2) := by decide +kernel
theorem dX7_put_62 : decode cX7_put 62 = .ok (.iload_n 1, 1) := by decide +kernel
theorem dX7_put_63 : decode cX7_put 63 = .ok (.imul, 1) := by decide +kernel
theorem dX7_put_64 : decode cX7_put 64 = .ok (.iadd, 1) := by decide +kernel
theorem dX7_put_65 : decode cX7_put 65 = .ok (.iload_n 2, 1) := by decide +kernel
theorem dX7_put_66 : decode cX7_put 66 = .ok (.iadd, 1) := by decide +kernel
theorem dX7_put_67 : decode cX7_put 67 = .ok (.iload_n 3, 1) := by decide +kernel
theorem dX7_put_68 : decode cX7_put 68 = .ok (.iastore, 1) := by decide +kernel
theorem dX7_put_69 : decode cX7_put 69 = .ok (.aload_n 0, 1) := by decide +kernel
theorem dX7_put_70 : decode cX7_put 70 = .ok (.getfield 9, 3) := by decide +kernel
theorem dX7_put_73 : decode cX7_put 73 = .ok (.iconst 5, 1) := by decide +kernel
theorem dX7_put_74 : decode cX7_put 74 = .ok (.iload_n 1, 1) := by decide +kernel
theorem dX7_put_75 : decode cX7_put 75 = .ok (.iadd, 1) := by decide +kernel
theorem dX7_put_76 : decode cX7_put 76 = .ok (.dup2, 1) := by decide +kernel
theorem dX7_put_77 : decode cX7_put 77 = .ok (.iaload, 1) := by decide +kernel
theorem dX7_put_78 : decode cX7_put 78 = .ok (.iconst 1, 1) := by decide +kernel
theorem dX7_put_79 : decode cX7_put 79 = .ok (.iadd, 1) := by decide +kernel
theorem dX7_put_80 : decode cX7_put 80 = .ok (.iastore, 1) := by decide +kernel
theorem dX7_put_81 : decode cX7_put 81 = .ok (.aload_n 0, 1) := by decide +kernel
theorem dX7_put_82 : decode cX7_put 82 = .ok (.iload_n 1, 1) := by decide +kernel
theorem dX7_put_83 : decode cX7_put 83 = .ok (.iload_n 2, 1) := by decide +kernel
theorem dX7_put_84 : decode cX7_put 84 = .ok (.iconst 1, 1) := by decide +kernel
theorem dX7_put_85 : decode cX7_put 85 = .ok (.invokevirtual 264, 3) := by decide +kernel
theorem dX7_put_88 : decode cX7_put 88 = .ok (.return_, 1) := by decide +kernel
theorem dX7_shiftTies_0 : decode cX7_shiftTies 0 = .ok (.iconst 0, 1) := by decide +kernel
theorem dX7_shiftTies_1 : decode cX7_shiftTies 1 = .ok (.istore 4, 2) := by decide +kernel
theorem dX7_shiftTies_3 : decode cX7_shiftTies 3 = .ok (.iload 4, 2) := by decide +kernel
theorem dX7_shiftTies_5 : decode cX7_shiftTies 5 = .ok (.aload_n 0, 1) := by decide +kernel
theorem dX7_shiftTies_6 : decode cX7_shiftTies 6 = .ok (.getfield 9, 3) := by decide +kernel
theorem dX7_shiftTies_9 : decode cX7_shiftTies 9 = .ok (.sipush 218, 3) := by decide +kernel
theorem dX7_shiftTies_12 : decode cX7_shiftTies 12 = .ok (.iaload, 1) := by decide +kernel
theorem dX7_shiftTies_13 : decode cX7_shiftTies 13 = .ok (.if_icmp .ge 66, 3) := by decide +kernel
theorem dX7_shiftTies_16 : decode cX7_shiftTies 16 = .ok (.sipush 219, 3) := by decide +kernel
theorem dX7_shiftTies_19 : decode cX7_shiftTies 19 = .ok (.iconst 3, 1) := by decide +kernel
theorem dX7_shiftTies_20 : decode cX7_shiftTies 20 = .ok (.iload 4, 2) := by decide +kernel
theorem dX7_shiftTies_22 : decode cX7_shiftTies 22 = .ok (.imul, 1) := by decide +kernel
theorem dX7_shiftTies_23 : decode cX7_shiftTies 23 = .ok (.iadd, 1) := by decide +kernel
theorem dX7_shiftTies_24 : decode cX7_shiftTies 24 = .ok (.iload_n 1, 1) := by decide +kernel
theorem dX7_shiftTies_25 : decode cX7_shiftTies 25 = .ok (.ifCond .ne 7, 3) := by decide +kernel
theorem dX7_shiftTies_28 : decode cX7_shiftTies 28 = .ok (.iconst 2, 1) := by decide +kernel
theorem dX7_shiftTies_29 : decode cX7_shiftTies 29 = .ok (.goto 4, 3) := by decide +kernel
theorem dX7_shiftTies_32 : decode cX7_shiftTies 32 = .ok (.iconst 1, 1) := by decide +kernel
theorem dX7_shiftTies_33 : decode cX7_shiftTies 33 = .ok (.iadd, 1) := by decide +kernel
theorem dX7_shiftTies_34 : decode cX7_shiftTies 34 = .ok (.istore 5, 2) := by decide +kernel
theorem dX7_shiftTies_36 : decode cX7_shiftTies 36 = .ok (.iload_n 1, 1) := by decide +kernel
theorem dX7_shiftTies_37 : decode cX7_shiftTies 37 = .ok (.ifCond .eq 14, 3) := by decide +kernel
theorem dX7_shiftTies_40 : decode cX7_shiftTies 40 = .ok (.aload_n 0, 1) := by decide +kernel
theorem dX7_shiftTies_41 : decode cX7_shiftTies 41 = .ok (.iload 4, 2) := by decide +kernel
theorem dX7_shiftTies_43 : decode cX7_shiftTies 43 = .ok (.iconst 0, 1) := by decide +kernel
theorem dX7_shiftTies_44 : decode cX7_shiftTies 44 = .ok (.invokevirtual 110, 3) := by decide +kernel
theorem dX7_shiftTies_47 : decode cX7_shiftTies 47 = .ok (.iload_n 1, 1) := by decide +kernel
theorem dX7_shiftTies_48 : decode cX7_shiftTies 48 = .ok (.if_icmp .ne 25, 3) := by decide +kernel
theorem dX7_shiftTies_51 : decode cX7_shiftTies 51 = .ok (.aload_n 0, 1) := by decide +kernel
theorem dX7_shiftTies_52 : decode cX7_shiftTies 52 = .ok (.getfield 9, 3) := by decide +kernel
theorem dX7_shiftTies_55 : decode cX7_shiftTies 55 = .ok (.iload 5, 2) := by decide +kernel
theorem dX7_shiftTies_57 : decode cX7_shiftTies 57 = .ok (.iaload, 1) := by decide +kernel
theorem dX7_shiftTies_58 : decode cX7_shiftTies 58 = .ok (.iload_n 2, 1) := by decide +kernel
theorem dX7_shiftTies_59 : decode cX7_shiftTies 59 = .ok (.if_icmp .lt 14, 3) := by decide +kernel
theorem dX7_shiftTies_62 : decode cX7_shiftTies 62 = .ok (.aload_n 0, 1) := by decide +kernel
theorem dX7_shiftTies_63 : decode cX7_shiftTies 63 = .ok (.getfield 9, 3) := by decide +kernel
theorem dX7_shiftTies_66 : decode cX7_shiftTies 66 = .ok (.iload 5, 2) := by decide +kernel
theorem dX7_shiftTies_68 : decode cX7_shiftTies 68 = .ok (.dup2, 1) := by decide +kernel
theorem dX7_shiftTies_69 : decode cX7_shiftTies 69 = .ok (.iaload, 1) := by decide +kernel
theorem dX7_shiftTies_70 : decode cX7_shiftTies 70 = .ok (.iload_n 3, 1) := by decide +kernel
theorem dX7_shiftTies_71 : decode cX7_shiftTies 71 = .ok (.iadd, 1) := by decide +kernel
theorem dX7_shiftTies_72 : decode cX7_shiftTies 72 = .ok (.iastore, 1) := by decide +kernel
theorem dX7_shiftTies_73 : decode cX7_shiftTies 73 = .ok (.iinc 4 1, 3) := by decide +kernel
theorem dX7_shiftTies_76 : decode cX7_shiftTies 76 = .ok (.goto (-73), 3) := by decide +kernel
theorem dX7_shiftTies_79 : decode cX7_shiftTies 79 = .ok (.return_, 1) := by decide +kernel
theorem dX7_drop_0 : decode cX7_drop 0 = .ok (.aload_n 0, 1) := by decide +kernel
theorem dX7_drop_1 : decode cX7_drop 1 = .ok (.getfield 9, 3) := by decide +kernel
theorem dX7_drop_4 : decode cX7_drop 4 = .ok (.sipush 218, 3) := by decide +kernel
theorem dX7_drop_7 : decode cX7_drop 7 = .ok (.iaload, 1) := by decide +kernel
theorem dX7_drop_8 : decode cX7_drop 8 = .ok (.iconst 1, 1) := by decide +kernel
theorem dX7_drop_9 : decode cX7_drop 9 = .ok (.isub, 1) := by decide +kernel
theorem dX7_drop_10 : decode cX7_drop 10 = .ok (.istore_n 3, 1) := by decide +kernel
theorem dX7_drop_11 : decode cX7_drop 11 = .ok (.iload_n 3, 1) := by decide +kernel
theorem dX7_drop_12 : decode cX7_drop 12 = .ok (.ifCond .lt 51, 3) := by decide +kernel
theorem dX7_drop_15 : decode cX7_drop 15 = .ok (.iload_n 1, 1) := by decide +kernel
theorem dX7_drop_16 : decode cX7_drop 16 = .ok (.ifCond .ne 16, 3) := by decide +kernel
theorem dX7_drop_19 : decode cX7_drop 19 = .ok (.aload_n 0, 1) := by decide +kernel
theorem dX7_drop_20 : decode cX7_drop 20 = .ok (.iload_n 3, 1) := by decide +kernel
theorem dX7_drop_21 : decode cX7_drop 21 = .ok (.iconst 2, 1) := by decide +kernel
theorem dX7_drop_22 : decode cX7_drop 22 = .ok (.invokevirtual 110, 3) := by decide +kernel
theorem dX7_drop_25 : decode cX7_drop 25 = .ok (.iload_n 2, 1) := by decide +kernel
theorem dX7_drop_26 : decode cX7_drop 26 = .ok (.if_icmp .ne 31, 3) := by decide +kernel
theorem dX7_drop_29 : decode cX7_drop 29 = .ok (.goto 23, 3) := by decide +kernel
theorem dX7_drop_32 : decode cX7_drop 32 = .ok (.aload_n 0, 1) := by decide +kernel
theorem dX7_drop_33 : decode cX7_drop 33 = .ok (.iload_n 3, 1) := by decide +kernel
theorem dX7_drop_34 : decode cX7_drop 34 = .ok (.iconst 0, 1) := by decide +kernel
theorem dX7_drop_35 : decode cX7_drop 35 = .ok (.invokevirtual 110, 3) := by decide +kernel
theorem dX7_drop_38 : decode cX7_drop 38 = .ok (.iload_n 1, 1) := by decide +kernel
theorem dX7_drop_39 : decode cX7_drop 39 = .ok (.if_icmp .ne 18, 3) := by decide +kernel
theorem dX7_drop_42 : decode cX7_drop 42 = .ok (.aload_n 0, 1) := by decide +kernel
theorem dX7_drop_43 : decode cX7_drop 43 = .ok (.iload_n 3, 1) := by decide +kernel
theorem dX7_drop_44 : decode cX7_drop 44 = .ok (.iconst 1, 1) := by decide +kernel
theorem dX7_drop_45 : decode cX7_drop 45 = .ok (.invokevirtual 110, 3) := by decide +kernel
theorem dX7_drop_48 : decode cX7_drop 48 = .ok (.iload_n 2, 1) := by decide +kernel
theorem dX7_drop_49 : decode cX7_drop 49 = .ok (.if_icmp .ne 8, 3) := by decide +kernel
theorem dX7_drop_52 : decode cX7_drop 52 = .ok (.aload_n 0, 1) := by decide +kernel
theorem dX7_drop_53 : decode cX7_drop 53 = .ok (.iload_n 3, 1) := by decide +kernel
theorem dX7_drop_54 : decode cX7_drop 54 = .ok (.invokevirtual 114, 3) := by decide +kernel
theorem dX7_drop_57 : decode cX7_drop 57 = .ok (.iinc 3 (-1), 3) := by decide +kernel
theorem dX7_drop_60 : decode cX7_drop 60 = .ok (.goto (-49), 3) := by decide +kernel
theorem dX7_drop_63 : decode cX7_drop 63 = .ok (.aload_n 0, 1) := by decide +kernel
theorem dX7_drop_64 : decode cX7_drop 64 = .ok (.getfield 9, 3) := by decide +kernel
theorem dX7_drop_67 : decode cX7_drop 67 = .ok (.iconst 5, 1) := by decide +kernel
theorem dX7_drop_68 : decode cX7_drop 68 = .ok (.iload_n 1, 1) := by decide +kernel
theorem dX7_drop_69 : decode cX7_drop 69 = .ok (.iadd, 1) := by decide +kernel
theorem dX7_drop_70 : decode cX7_drop 70 = .ok (.dup2, 1) := by decide +kernel
theorem dX7_drop_71 : decode cX7_drop 71 = .ok (.iaload, 1) := by decide +kernel
theorem dX7_drop_72 : decode cX7_drop 72 = .ok (.iconst 1, 1) := by decide +kernel
theorem dX7_drop_73 : decode cX7_drop 73 = .ok (.isub, 1) := by decide +kernel
theorem dX7_drop_74 : decode cX7_drop 74 = .ok (.iastore, 1) := by decide +kernel
theorem dX7_drop_75 : decode cX7_drop 75 = .ok (.iload_n 2, 1) := by decide +kernel
theorem dX7_drop_76 : decode cX7_drop 76 = .ok (.istore_n 3, 1) := by decide +kernel
theorem dX7_drop_77 : decode cX7_drop 77 = .ok (.iload_n 3, 1) := by decide +kernel
theorem dX7_drop_78 : decode cX7_drop 78 = .ok (.aload_n 0, 1) := by decide +kernel
theorem dX7_drop_79 : decode cX7_drop 79 = .ok (.getfield 9, 3) := by decide +kernel
theorem dX7_drop_82 : decode cX7_drop 82 = .ok (.iconst 5, 1) := by decide +kernel
theorem dX7_drop_83 : decode cX7_drop 83 = .ok (.iload_n 1, 1) := by decide +kernel
theorem dX7_drop_84 : decode cX7_drop 84 = .ok (.iadd, 1) := by decide +kernel
theorem dX7_drop_85 : decode cX7_drop 85 = .ok (.iaload, 1) := by decide +kernel
theorem dX7_drop_86 : decode cX7_drop 86 = .ok (.if_icmp .ge 39, 3) := by decide +kernel
theorem dX7_drop_89 : decode cX7_drop 89 = .ok (.aload_n 0, 1) := by decide +kernel
theorem dX7_drop_90 : decode cX7_drop 90 = .ok (.getfield 9, 3) := by decide +kernel
theorem dX7_drop_93 : decode cX7_drop 93 = .ok (.bipush 8, 2) := by decide +kernel
theorem dX7_drop_95 : decode cX7_drop 95 = .ok (.bipush 70, 2) := by decide +kernel
theorem dX7_drop_97 : decode cX7_drop 97 = .ok (.iload_n 1, 1) := by decide +kernel
theorem dX7_drop_98 : decode cX7_drop 98 = .ok (.imul, 1) := by decide +kernel
theorem dX7_drop_99 : decode cX7_drop 99 = .ok (.iadd, 1) := by decide +kernel
theorem dX7_drop_100 : decode cX7_drop 100 = .ok (.iload_n 3, 1) := by decide +kernel
theorem dX7_drop_101 : decode cX7_drop 101 = .ok (.iadd, 1) := by decide +kernel
theorem dX7_drop_102 : decode cX7_drop 102 = .ok (.aload_n 0, 1) := by decide +kernel
theorem dX7_drop_103 : decode cX7_drop 103 = .ok (.getfield 9, 3) := by decide +kernel
theorem dX7_drop_106 : decode cX7_drop 106 = .ok (.bipush 8, 2) := by decide +kernel
theorem dX7_drop_108 : decode cX7_drop 108 = .ok (.bipush 70, 2) := by decide +kernel
theorem dX7_drop_110 : decode cX7_drop 110 = .ok (.iload_n 1, 1) := by decide +kernel
theorem dX7_drop_111 : decode cX7_drop 111 = .ok (.imul, 1) := by decide +kernel
theorem dX7_drop_112 : decode cX7_drop 112 = .ok (.iadd, 1) := by decide +kernel
theorem dX7_drop_113 : decode cX7_drop 113 = .ok (.iload_n 3, 1) := by decide +kernel
theorem dX7_drop_114 : decode cX7_drop 114 = .ok (.iadd, 1) := by decide +kernel
theorem dX7_drop_115 : decode cX7_drop 115 = .ok (.iconst 1, 1) := by decide +kernel
theorem dX7_drop_116 : decode cX7_drop 116 = .ok (.iadd, 1) := by decide +kernel
theorem dX7_drop_117 : decode cX7_drop 117 = .ok (.iaload, 1) := by decide +kernel
theorem dX7_drop_118 : decode cX7_drop 118 = .ok (.iastore, 1) := by decide +kernel
theorem dX7_drop_119 : decode cX7_drop 119 = .ok (.iinc 3 1, 3) := by decide +kernel
theorem dX7_drop_122 : decode cX7_drop 122 = .ok (.goto (-45), 3) := by decide +kernel
theorem dX7_drop_125 : decode cX7_drop 125 = .ok (.aload_n 0, 1) := by decide +kernel
theorem dX7_drop_126 : decode cX7_drop 126 = .ok (.getfield 9, 3) := by decide +kernel
theorem dX7_drop_129 : decode cX7_drop 129 = .ok (.bipush 8, 2) := by decide +kernel
theorem dX7_drop_131 : decode cX7_drop 131 = .ok (.bipush 70, 2) := by decide +kernel
theorem dX7_drop_133 : decode cX7_drop 133 = .ok (.iload_n 1, 1) := by decide +kernel
theorem dX7_drop_134 : decode cX7_drop 134 = .ok (.imul, 1) := by decide +kernel
theorem dX7_drop_135 : decode cX7_drop 135 = .ok (.iadd, 1) := by decide +kernel
theorem dX7_drop_136 : decode cX7_drop 136 = .ok (.aload_n 0, 1) := by decide +kernel
theorem dX7_drop_137 : decode cX7_drop 137 = .ok (.getfield 9, 3) := by decide +kernel
theorem dX7_drop_140 : decode cX7_drop 140 = .ok (.iconst 5, 1) := by decide +kernel
theorem dX7_drop_141 : decode cX7_drop 141 = .ok (.iload_n 1, 1) := by decide +kernel
theorem dX7_drop_142 : decode cX7_drop 142 = .ok (.iadd, 1) := by decide +kernel
theorem dX7_drop_143 : decode cX7_drop 143 = .ok (.iaload, 1) := by decide +kernel
theorem dX7_drop_144 : decode cX7_drop 144 = .ok (.iadd, 1) := by decide +kernel
theorem dX7_drop_145 : decode cX7_drop 145 = .ok (.iconst 0, 1) := by decide +kernel
theorem dX7_drop_146 : decode cX7_drop 146 = .ok (.iastore, 1) := by decide +kernel
theorem dX7_drop_147 : decode cX7_drop 147 = .ok (.aload_n 0, 1) := by decide +kernel
theorem dX7_drop_148 : decode cX7_drop 148 = .ok (.iload_n 1, 1) := by decide +kernel
theorem dX7_drop_149 : decode cX7_drop 149 = .ok (.iload_n 2, 1) := by decide +kernel
theorem dX7_drop_150 : decode cX7_drop 150 = .ok (.iconst (-1), 1) := by decide +kernel
theorem dX7_drop_151 : decode cX7_drop 151 = .ok (.invokevirtual 264, 3) := by decide +kernel
theorem dX7_drop_154 : decode cX7_drop 154 = .ok (.return_, 1) := by decide +kernel
theorem dX7_refusesWord_0 : decode cX7_refusesWord 0 = .ok (.iload_n 1, 1) := by decide +kernel
theorem dX7_refusesWord_1 : decode cX7_refusesWord 1 = .ok (.invokestatic 69, 3) := by decide +kernel
theorem dX7_refusesWord_4 : decode cX7_refusesWord 4 = .ok (.ifCond .eq 29, 3) := by decide +kernel
theorem dX7_refusesWord_7 : decode cX7_refusesWord 7 = .ok (.iload_n 2, 1) := by decide +kernel
theorem dX7_refusesWord_8 : decode cX7_refusesWord 8 = .ok (.iconst 0, 1) := by decide +kernel
theorem dX7_refusesWord_9 : decode cX7_refusesWord 9 = .ok (.aload_n 0, 1) := by decide +kernel
theorem dX7_refusesWord_10 : decode cX7_refusesWord 10 = .ok (.getfield 9, 3) := by decide +kernel
theorem dX7_refusesWord_13 : decode cX7_refusesWord 13 = .ok (.iconst 5, 1) := by decide +kernel
theorem dX7_refusesWord_14 : decode cX7_refusesWord 14 = .ok (.iload_n 1, 1) := by decide +kernel
theorem dX7_refusesWord_15 : decode cX7_refusesWord 15 = .ok (.iadd, 1) := by decide +kernel
theorem dX7_refusesWord_16 : decode cX7_refusesWord 16 = .ok (.iaload, 1) := by decide +kernel
theorem dX7_refusesWord_17 : decode cX7_refusesWord 17 = .ok (.invokestatic 65, 3) := by decide +kernel
theorem dX7_refusesWord_20 : decode cX7_refusesWord 20 = .ok (.ifCond .eq 13, 3) := by decide +kernel
theorem dX7_refusesWord_23 : decode cX7_refusesWord 23 = .ok (.iload_n 3, 1) := by decide +kernel
theorem dX7_refusesWord_24 : decode cX7_refusesWord 24 = .ok (.iconst 1, 1) := by decide +kernel
theorem dX7_refusesWord_25 : decode cX7_refusesWord 25 = .ok (.bipush 9, 2) := by decide +kernel
theorem dX7_refusesWord_27 : decode cX7_refusesWord 27 = .ok (.invokestatic 65, 3) := by decide +kernel
theorem dX7_refusesWord_30 : decode cX7_refusesWord 30 = .ok (.ifCond .ne 5, 3) := by decide +kernel
theorem dX7_refusesWord_33 : decode cX7_refusesWord 33 = .ok (.iconst (-1), 1) := by decide +kernel
theorem dX7_refusesWord_34 : decode cX7_refusesWord 34 = .ok (.ireturn, 1) := by decide +kernel
theorem dX7_refusesWord_35 : decode cX7_refusesWord 35 = .ok (.aload_n 0, 1) := by decide +kernel
theorem dX7_refusesWord_36 : decode cX7_refusesWord 36 = .ok (.getfield 9, 3) := by decide +kernel
theorem dX7_refusesWord_39 : decode cX7_refusesWord 39 = .ok (.iconst 5, 1) := by decide +kernel
theorem dX7_refusesWord_40 : decode cX7_refusesWord 40 = .ok (.iload_n 1, 1) := by decide +kernel
theorem dX7_refusesWord_41 : decode cX7_refusesWord 41 = .ok (.iadd, 1) := by decide +kernel
theorem dX7_refusesWord_42 : decode cX7_refusesWord 42 = .ok (.iaload, 1) := by decide +kernel
theorem dX7_refusesWord_43 : decode cX7_refusesWord 43 = .ok (.bipush 70, 2) := by decide +kernel
theorem dX7_refusesWord_45 : decode cX7_refusesWord 45 = .ok (.if_icmp .ne 8, 3) := by decide +kernel
theorem dX7_refusesWord_48 : decode cX7_refusesWord 48 = .ok (.bipush (-3), 2) := by decide +kernel
theorem dX7_refusesWord_50 : decode cX7_refusesWord 50 = .ok (.goto 4, 3) := by decide +kernel
theorem dX7_refusesWord_53 : decode cX7_refusesWord 53 = .ok (.iconst 0, 1) := by decide +kernel
theorem dX7_refusesWord_54 : decode cX7_refusesWord 54 = .ok (.ireturn, 1) := by decide +kernel
theorem dX7_more_0 : decode cX7_more 0 = .ok (.aload_n 0, 1) := by decide +kernel
theorem dX7_more_1 : decode cX7_more 1 = .ok (.iconst 0, 1) := by decide +kernel
theorem dX7_more_2 : decode cX7_more 2 = .ok (.putfield 58, 3) := by decide +kernel
theorem dX7_more_5 : decode cX7_more 5 = .ok (.aload_n 0, 1) := by decide +kernel
theorem dX7_more_6 : decode cX7_more 6 = .ok (.iload_n 1, 1) := by decide +kernel
theorem dX7_more_7 : decode cX7_more 7 = .ok (.iload_n 2, 1) := by decide +kernel
theorem dX7_more_8 : decode cX7_more 8 = .ok (.iload_n 3, 1) := by decide +kernel
theorem dX7_more_9 : decode cX7_more 9 = .ok (.invokevirtual 267, 3) := by decide +kernel
theorem dX7_more_12 : decode cX7_more 12 = .ok (.istore 4, 2) := by decide +kernel
theorem dX7_more_14 : decode cX7_more 14 = .ok (.iload 4, 2) := by decide +kernel
theorem dX7_more_16 : decode cX7_more 16 = .ok (.ifCond .ge 6, 3) := by decide +kernel
theorem dX7_more_19 : decode cX7_more 19 = .ok (.iload 4, 2) := by decide +kernel
theorem dX7_more_21 : decode cX7_more 21 = .ok (.ireturn, 1) := by decide +kernel
theorem dX7_more_22 : decode cX7_more 22 = .ok (.aload_n 0, 1) := by decide +kernel
theorem dX7_more_23 : decode cX7_more 23 = .ok (.invokevirtual 230, 3) := by decide +kernel
theorem dX7_more_26 : decode cX7_more 26 = .ok (.aload_n 0, 1) := by decide +kernel
theorem dX7_more_27 : decode cX7_more 27 = .ok (.iload_n 1, 1) := by decide +kernel
theorem dX7_more_28 : decode cX7_more 28 = .ok (.iload_n 2, 1) := by decide +kernel
theorem dX7_more_29 : decode cX7_more 29 = .ok (.iload_n 3, 1) := by decide +kernel
theorem dX7_more_30 : decode cX7_more 30 = .ok (.invokevirtual 270, 3) := by decide +kernel
theorem dX7_more_33 : decode cX7_more 33 = .ok (.aload_n 0, 1) := by decide +kernel
theorem dX7_more_34 : decode cX7_more 34 = .ok (.invokevirtual 217, 3) := by decide +kernel
theorem dX7_more_37 : decode cX7_more 37 = .ok (.istore 5, 2) := by decide +kernel
theorem dX7_more_39 : decode cX7_more 39 = .ok (.aload_n 0, 1) := by decide +kernel
theorem dX7_more_40 : decode cX7_more 40 = .ok (.invokevirtual 237, 3) := by decide +kernel
theorem dX7_more_43 : decode cX7_more 43 = .ok (.iload 5, 2) := by decide +kernel
theorem dX7_more_45 : decode cX7_more 45 = .ok (.ireturn, 1) := by decide +kernel
theorem dX7_less_0 : decode cX7_less 0 = .ok (.aload_n 0, 1) := by decide +kernel
theorem dX7_less_1 : decode cX7_less 1 = .ok (.iconst 0, 1) := by decide +kernel
theorem dX7_less_2 : decode cX7_less 2 = .ok (.putfield 58, 3) := by decide +kernel
theorem dX7_less_5 : decode cX7_less 5 = .ok (.aload_n 0, 1) := by decide +kernel
theorem dX7_less_6 : decode cX7_less 6 = .ok (.iload_n 1, 1) := by decide +kernel
theorem dX7_less_7 : decode cX7_less 7 = .ok (.iload_n 2, 1) := by decide +kernel
theorem dX7_less_8 : decode cX7_less 8 = .ok (.invokevirtual 121, 3) := by decide +kernel
theorem dX7_less_11 : decode cX7_less 11 = .ok (.ifCond .ne 5, 3) := by decide +kernel
theorem dX7_less_14 : decode cX7_less 14 = .ok (.iconst (-1), 1) := by decide +kernel
theorem dX7_less_15 : decode cX7_less 15 = .ok (.ireturn, 1) := by decide +kernel
theorem dX7_less_16 : decode cX7_less 16 = .ok (.aload_n 0, 1) := by decide +kernel
theorem dX7_less_17 : decode cX7_less 17 = .ok (.invokevirtual 230, 3) := by decide +kernel
theorem dX7_less_20 : decode cX7_less 20 = .ok (.aload_n 0, 1) := by decide +kernel
theorem dX7_less_21 : decode cX7_less 21 = .ok (.iload_n 1, 1) := by decide +kernel
theorem dX7_less_22 : decode cX7_less 22 = .ok (.iload_n 2, 1) := by decide +kernel
theorem dX7_less_23 : decode cX7_less 23 = .ok (.invokevirtual 273, 3) := by decide +kernel
theorem dX7_less_26 : decode cX7_less 26 = .ok (.aload_n 0, 1) := by decide +kernel
theorem dX7_less_27 : decode cX7_less 27 = .ok (.invokevirtual 217, 3) := by decide +kernel
theorem dX7_less_30 : decode cX7_less 30 = .ok (.istore_n 3, 1) := by decide +kernel
theorem dX7_less_31 : decode cX7_less 31 = .ok (.aload_n 0, 1) := by decide +kernel
theorem dX7_less_32 : decode cX7_less 32 = .ok (.invokevirtual 237, 3) := by decide +kernel
theorem dX7_less_35 : decode cX7_less 35 = .ok (.iload_n 3, 1) := by decide +kernel
theorem dX7_less_36 : decode cX7_less 36 = .ok (.ireturn, 1) := by decide +kernel
theorem dX7_spare_0 : decode cX7_spare 0 = .ok (.aload_n 0, 1) := by decide +kernel
theorem dX7_spare_1 : decode cX7_spare 1 = .ok (.iconst 0, 1) := by decide +kernel
theorem dX7_spare_2 : decode cX7_spare 2 = .ok (.putfield 58, 3) := by decide +kernel
theorem dX7_spare_5 : decode cX7_spare 5 = .ok (.iload_n 1, 1) := by decide +kernel
theorem dX7_spare_6 : decode cX7_spare 6 = .ok (.iconst 1, 1) := by decide +kernel
theorem dX7_spare_7 : decode cX7_spare 7 = .ok (.iconst 2, 1) := by decide +kernel
theorem dX7_spare_8 : decode cX7_spare 8 = .ok (.invokestatic 65, 3) := by decide +kernel
theorem dX7_spare_11 : decode cX7_spare 11 = .ok (.ifCond .ne 5, 3) := by decide +kernel
theorem dX7_spare_14 : decode cX7_spare 14 = .ok (.iconst (-1), 1) := by decide +kernel
theorem dX7_spare_15 : decode cX7_spare 15 = .ok (.ireturn, 1) := by decide +kernel
theorem dX7_spare_16 : decode cX7_spare 16 = .ok (.aload_n 0, 1) := by decide +kernel
theorem dX7_spare_17 : decode cX7_spare 17 = .ok (.invokevirtual 164, 3) := by decide +kernel
theorem dX7_spare_20 : decode cX7_spare 20 = .ok (.aload_n 0, 1) := by decide +kernel
theorem dX7_spare_21 : decode cX7_spare 21 = .ok (.getfield 154, 3) := by decide +kernel
theorem dX7_spare_24 : decode cX7_spare 24 = .ok (.istore_n 2, 1) := by decide +kernel
theorem dX7_spare_25 : decode cX7_spare 25 = .ok (.iload_n 2, 1) := by decide +kernel
theorem dX7_spare_26 : decode cX7_spare 26 = .ok (.ifCond .ne 6, 3) := by decide +kernel
theorem dX7_spare_29 : decode cX7_spare 29 = .ok (.bipush (-2), 2) := by decide +kernel
theorem dX7_spare_31 : decode cX7_spare 31 = .ok (.ireturn, 1) := by decide +kernel
theorem dX7_spare_32 : decode cX7_spare 32 = .ok (.aload_n 0, 1) := by decide +kernel
theorem dX7_spare_33 : decode cX7_spare 33 = .ok (.invokevirtual 230, 3) := by decide +kernel
theorem dX7_spare_36 : decode cX7_spare 36 = .ok (.iconst 0, 1) := by decide +kernel
theorem dX7_spare_37 : decode cX7_spare 37 = .ok (.istore_n 3, 1) := by decide +kernel
theorem dX7_spare_38 : decode cX7_spare 38 = .ok (.aload_n 0, 1) := by decide +kernel
theorem dX7_spare_39 : decode cX7_spare 39 = .ok (.getfield 9, 3) := by decide +kernel
theorem dX7_spare_42 : decode cX7_spare 42 = .ok (.iconst 5, 1) := by decide +kernel
theorem dX7_spare_43 : decode cX7_spare 43 = .ok (.iload_n 1, 1) := by decide +kernel
theorem dX7_spare_44 : decode cX7_spare 44 = .ok (.iadd, 1) := by decide +kernel
theorem dX7_spare_45 : decode cX7_spare 45 = .ok (.iaload, 1) := by decide +kernel
theorem dX7_spare_46 : decode cX7_spare 46 = .ok (.bipush 70, 2) := by decide +kernel
theorem dX7_spare_48 : decode cX7_spare 48 = .ok (.if_icmp .ge 43, 3) := by decide +kernel
theorem dX7_spare_51 : decode cX7_spare 51 = .ok (.aload_n 0, 1) := by decide +kernel
theorem dX7_spare_52 : decode cX7_spare 52 = .ok (.getfield 154, 3) := by decide +kernel
theorem dX7_spare_55 : decode cX7_spare 55 = .ok (.iload_n 2, 1) := by decide +kernel
theorem dX7_spare_56 : decode cX7_spare 56 = .ok (.if_icmp .ne 35, 3) := by decide +kernel
theorem dX7_spare_59 : decode cX7_spare 59 = .ok (.aload_n 0, 1) := by decide +kernel
theorem dX7_spare_60 : decode cX7_spare 60 = .ok (.iload_n 1, 1) := by decide +kernel
theorem dX7_spare_61 : decode cX7_spare 61 = .ok (.aload_n 0, 1) := by decide +kernel
theorem dX7_spare_62 : decode cX7_spare 62 = .ok (.getfield 9, 3) := by decide +kernel
theorem dX7_spare_65 : decode cX7_spare 65 = .ok (.iconst 5, 1) := by decide +kernel
theorem dX7_spare_66 : decode cX7_spare 66 = .ok (.iload_n 1, 1) := by decide +kernel
theorem dX7_spare_67 : decode cX7_spare 67 = .ok (.iadd, 1) := by decide +kernel
theorem dX7_spare_68 : decode cX7_spare 68 = .ok (.iaload, 1) := by decide +kernel
theorem dX7_spare_69 : decode cX7_spare 69 = .ok (.iconst 5, 1) := by decide +kernel
theorem dX7_spare_70 : decode cX7_spare 70 = .ok (.invokevirtual 270, 3) := by decide +kernel
theorem dX7_spare_73 : decode cX7_spare 73 = .ok (.aload_n 0, 1) := by decide +kernel
theorem dX7_spare_74 : decode cX7_spare 74 = .ok (.invokevirtual 164, 3) := by decide +kernel
theorem dX7_spare_77 : decode cX7_spare 77 = .ok (.aload_n 0, 1) := by decide +kernel
theorem dX7_spare_78 : decode cX7_spare 78 = .ok (.getfield 154, 3) := by decide +kernel
theorem dX7_spare_81 : decode cX7_spare 81 = .ok (.iload_n 2, 1) := by decide +kernel
theorem dX7_spare_82 : decode cX7_spare 82 = .ok (.if_icmp .ne (-44), 3) := by decide +kernel
theorem dX7_spare_85 : decode cX7_spare 85 = .ok (.iinc 3 1, 3) := by decide +kernel
theorem dX7_spare_88 : decode cX7_spare 88 = .ok (.goto (-50), 3) := by decide +kernel
theorem dX7_spare_91 : decode cX7_spare 91 = .ok (.aload_n 0, 1) := by decide +kernel
theorem dX7_spare_92 : decode cX7_spare 92 = .ok (.getfield 154, 3) := by decide +kernel
theorem dX7_spare_95 : decode cX7_spare 95 = .ok (.iload_n 2, 1) := by decide +kernel
theorem dX7_spare_96 : decode cX7_spare 96 = .ok (.if_icmp .eq 18, 3) := by decide +kernel
theorem dX7_spare_99 : decode cX7_spare 99 = .ok (.aload_n 0, 1) := by decide +kernel
theorem dX7_spare_100 : decode cX7_spare 100 = .ok (.iload_n 1, 1) := by decide +kernel
theorem dX7_spare_101 : decode cX7_spare 101 = .ok (.aload_n 0, 1) := by decide +kernel
theorem dX7_spare_102 : decode cX7_spare 102 = .ok (.getfield 9, 3) := by decide +kernel
theorem dX7_spare_105 : decode cX7_spare 105 = .ok (.iconst 5, 1) := by decide +kernel
theorem dX7_spare_106 : decode cX7_spare 106 = .ok (.iload_n 1, 1) := by decide +kernel
theorem dX7_spare_107 : decode cX7_spare 107 = .ok (.iadd, 1) := by decide +kernel
theorem dX7_spare_108 : decode cX7_spare 108 = .ok (.iaload, 1) := by decide +kernel
theorem dX7_spare_109 : decode cX7_spare 109 = .ok (.iconst 1, 1) := by decide +kernel
theorem dX7_spare_110 : decode cX7_spare 110 = .ok (.isub, 1) := by decide +kernel
theorem dX7_spare_111 : decode cX7_spare 111 = .ok (.invokevirtual 273, 3) := by decide +kernel
theorem dX7_spare_114 : decode cX7_spare 114 = .ok (.aload_n 0, 1) := by decide +kernel
theorem dX7_spare_115 : decode cX7_spare 115 = .ok (.invokevirtual 164, 3) := by decide +kernel
theorem dX7_spare_118 : decode cX7_spare 118 = .ok (.aload_n 0, 1) := by decide +kernel
theorem dX7_spare_119 : decode cX7_spare 119 = .ok (.invokevirtual 196, 3) := by decide +kernel
theorem dX7_spare_122 : decode cX7_spare 122 = .ok (.istore 4, 2) := by decide +kernel
theorem dX7_spare_124 : decode cX7_spare 124 = .ok (.aload_n 0, 1) := by decide +kernel
theorem dX7_spare_125 : decode cX7_spare 125 = .ok (.invokevirtual 237, 3) := by decide +kernel
theorem dX7_spare_128 : decode cX7_spare 128 = .ok (.aload_n 0, 1) := by decide +kernel
theorem dX7_spare_129 : decode cX7_spare 129 = .ok (.iconst 0, 1) := by decide +kernel
theorem dX7_spare_130 : decode cX7_spare 130 = .ok (.putfield 62, 3) := by decide +kernel
theorem dX7_spare_133 : decode cX7_spare 133 = .ok (.aload_n 0, 1) := by decide +kernel
theorem dX7_spare_134 : decode cX7_spare 134 = .ok (.iload 4, 2) := by decide +kernel
theorem dX7_spare_136 : decode cX7_spare 136 = .ok (.i2l, 1) := by decide +kernel
theorem dX7_spare_137 : decode cX7_spare 137 = .ok (.invokevirtual 135, 3) := by decide +kernel
theorem dX7_spare_140 : decode cX7_spare 140 = .ok (.iload_n 3, 1) := by decide +kernel
theorem dX7_spare_141 : decode cX7_spare 141 = .ok (.ireturn, 1) := by decide +kernel
theorem dX7_lay_0 : decode cX7_lay 0 = .ok (.iconst 0, 1) := by decide +kernel
theorem dX7_lay_1 : decode cX7_lay 1 = .ok (.istore_n 1, 1) := by decide +kernel
theorem dX7_lay_2 : decode cX7_lay 2 = .ok (.iload_n 1, 1) := by decide +kernel
theorem dX7_lay_3 : decode cX7_lay 3 = .ok (.sipush 259, 3) := by decide +kernel
theorem dX7_lay_6 : decode cX7_lay 6 = .ok (.if_icmp .ge 21, 3) := by decide +kernel
theorem dX7_lay_9 : decode cX7_lay 9 = .ok (.aload_n 0, 1) := by decide +kernel
theorem dX7_lay_10 : decode cX7_lay 10 = .ok (.getfield 48, 3) := by decide +kernel
theorem dX7_lay_13 : decode cX7_lay 13 = .ok (.iload_n 1, 1) := by decide +kernel
theorem dX7_lay_14 : decode cX7_lay 14 = .ok (.aload_n 0, 1) := by decide +kernel
theorem dX7_lay_15 : decode cX7_lay 15 = .ok (.getfield 9, 3) := by decide +kernel
theorem dX7_lay_18 : decode cX7_lay 18 = .ok (.iload_n 1, 1) := by decide +kernel
theorem dX7_lay_19 : decode cX7_lay 19 = .ok (.iaload, 1) := by decide +kernel
theorem dX7_lay_20 : decode cX7_lay 20 = .ok (.iastore, 1) := by decide +kernel
theorem dX7_lay_21 : decode cX7_lay 21 = .ok (.iinc 1 1, 3) := by decide +kernel
theorem dX7_lay_24 : decode cX7_lay 24 = .ok (.goto (-22), 3) := by decide +kernel
theorem dX7_lay_27 : decode cX7_lay 27 = .ok (.return_, 1) := by decide +kernel
theorem dX7_note_0 : decode cX7_note 0 = .ok (.aload_n 0, 1) := by decide +kernel
theorem dX7_note_1 : decode cX7_note 1 = .ok (.getfield 276, 3) := by decide +kernel
theorem dX7_note_4 : decode cX7_note 4 = .ok (.bipush 7, 2) := by decide +kernel
theorem dX7_note_6 : decode cX7_note 6 = .ok (.if_icmp .ne 44, 3) := by decide +kernel
theorem dX7_note_9 : decode cX7_note 9 = .ok (.iconst 0, 1) := by decide +kernel
theorem dX7_note_10 : decode cX7_note 10 = .ok (.istore_n 1, 1) := by decide +kernel
theorem dX7_note_11 : decode cX7_note 11 = .ok (.iload_n 1, 1) := by decide +kernel
theorem dX7_note_12 : decode cX7_note 12 = .ok (.sipush 1554, 3) := by decide +kernel
theorem dX7_note_15 : decode cX7_note 15 = .ok (.if_icmp .ge 25, 3) := by decide +kernel
theorem dX7_note_18 : decode cX7_note 18 = .ok (.aload_n 0, 1) := by decide +kernel
theorem dX7_note_19 : decode cX7_note 19 = .ok (.getfield 45, 3) := by decide +kernel
theorem dX7_note_22 : decode cX7_note 22 = .ok (.iload_n 1, 1) := by decide +kernel
theorem dX7_note_23 : decode cX7_note 23 = .ok (.aload_n 0, 1) := by decide +kernel
theorem dX7_note_24 : decode cX7_note 24 = .ok (.getfield 45, 3) := by decide +kernel
theorem dX7_note_27 : decode cX7_note 27 = .ok (.iload_n 1, 1) := by decide +kernel
theorem dX7_note_28 : decode cX7_note 28 = .ok (.sipush 259, 3) := by decide +kernel
theorem dX7_note_31 : decode cX7_note 31 = .ok (.iadd, 1) := by decide +kernel
theorem dX7_note_32 : decode cX7_note 32 = .ok (.iaload, 1) := by decide +kernel
theorem dX7_note_33 : decode cX7_note 33 = .ok (.iastore, 1) := by decide +kernel
theorem dX7_note_34 : decode cX7_note 34 = .ok (.iinc 1 1, 3) := by decide +kernel
theorem dX7_note_37 : decode cX7_note 37 = .ok (.goto (-26), 3) := by decide +kernel
theorem dX7_note_40 : decode cX7_note 40 = .ok (.aload_n 0, 1) := by decide +kernel
theorem dX7_note_41 : decode cX7_note 41 = .ok (.dup, 1) := by decide +kernel
theorem dX7_note_42 : decode cX7_note 42 = .ok (.getfield 276, 3) := by decide +kernel
theorem dX7_note_45 : decode cX7_note 45 = .ok (.iconst 1, 1) := by decide +kernel
theorem dX7_note_46 : decode cX7_note 46 = .ok (.isub, 1) := by decide +kernel
theorem dX7_note_47 : decode cX7_note 47 = .ok (.putfield 276, 3) := by decide +kernel
theorem dX7_note_50 : decode cX7_note 50 = .ok (.iconst 0, 1) := by decide +kernel
theorem dX7_note_51 : decode cX7_note 51 = .ok (.istore_n 1, 1) := by decide +kernel
theorem dX7_note_52 : decode cX7_note 52 = .ok (.iload_n 1, 1) := by decide +kernel
theorem dX7_note_53 : decode cX7_note 53 = .ok (.sipush 259, 3) := by decide +kernel
theorem dX7_note_56 : decode cX7_note 56 = .ok (.if_icmp .ge 30, 3) := by decide +kernel
theorem dX7_note_59 : decode cX7_note 59 = .ok (.aload_n 0, 1) := by decide +kernel
theorem dX7_note_60 : decode cX7_note 60 = .ok (.getfield 45, 3) := by decide +kernel
theorem dX7_note_63 : decode cX7_note 63 = .ok (.sipush 259, 3) := by decide +kernel
theorem dX7_note_66 : decode cX7_note 66 = .ok (.aload_n 0, 1) := by decide +kernel
theorem dX7_note_67 : decode cX7_note 67 = .ok (.getfield 276, 3) := by decide +kernel
theorem dX7_note_70 : decode cX7_note 70 = .ok (.imul, 1) := by decide +kernel
theorem dX7_note_71 : decode cX7_note 71 = .ok (.iload_n 1, 1) := by decide +kernel
theorem dX7_note_72 : decode cX7_note 72 = .ok (.iadd, 1) := by decide +kernel
theorem dX7_note_73 : decode cX7_note 73 = .ok (.aload_n 0, 1) := by decide +kernel
theorem dX7_note_74 : decode cX7_note 74 = .ok (.getfield 48, 3) := by decide +kernel
theorem dX7_note_77 : decode cX7_note 77 = .ok (.iload_n 1, 1) := by decide +kernel
theorem dX7_note_78 : decode cX7_note 78 = .ok (.iaload, 1) := by decide +kernel
theorem dX7_note_79 : decode cX7_note 79 = .ok (.iastore, 1) := by decide +kernel
theorem dX7_note_80 : decode cX7_note 80 = .ok (.iinc 1 1, 3) := by decide +kernel
theorem dX7_note_83 : decode cX7_note 83 = .ok (.goto (-31), 3) := by decide +kernel
theorem dX7_note_86 : decode cX7_note 86 = .ok (.aload_n 0, 1) := by decide +kernel
theorem dX7_note_87 : decode cX7_note 87 = .ok (.dup, 1) := by decide +kernel
theorem dX7_note_88 : decode cX7_note 88 = .ok (.getfield 276, 3) := by decide +kernel
theorem dX7_note_91 : decode cX7_note 91 = .ok (.iconst 1, 1) := by decide +kernel
theorem dX7_note_92 : decode cX7_note 92 = .ok (.iadd, 1) := by decide +kernel
theorem dX7_note_93 : decode cX7_note 93 = .ok (.putfield 276, 3) := by decide +kernel
theorem dX7_note_96 : decode cX7_note 96 = .ok (.return_, 1) := by decide +kernel
theorem dX7_change_0 : decode cX7_change 0 = .ok (.aload_n 0, 1) := by decide +kernel
theorem dX7_change_1 : decode cX7_change 1 = .ok (.invokevirtual 279, 3) := by decide +kernel
theorem dX7_change_4 : decode cX7_change 4 = .ok (.aload_n 0, 1) := by decide +kernel
theorem dX7_change_5 : decode cX7_change 5 = .ok (.invokevirtual 282, 3) := by decide +kernel
theorem dX7_change_8 : decode cX7_change 8 = .ok (.return_, 1) := by decide +kernel
theorem dX7_refusesSet_0 : decode cX7_refusesSet 0 = .ok (.iload_n 1, 1) := by decide +kernel
theorem dX7_refusesSet_1 : decode cX7_refusesSet 1 = .ok (.iconst 0, 1) := by decide +kernel
theorem dX7_refusesSet_2 : decode cX7_refusesSet 2 = .ok (.iconst 2, 1) := by decide +kernel
theorem dX7_refusesSet_3 : decode cX7_refusesSet 3 = .ok (.invokestatic 65, 3) := by decide +kernel
theorem dX7_refusesSet_6 : decode cX7_refusesSet 6 = .ok (.ifCond .eq 49, 3) := by decide +kernel
theorem dX7_refusesSet_9 : decode cX7_refusesSet 9 = .ok (.iload_n 2, 1) := by decide +kernel
theorem dX7_refusesSet_10 : decode cX7_refusesSet 10 = .ok (.iload_n 1, 1) := by decide +kernel
theorem dX7_refusesSet_11 : decode cX7_refusesSet 11 = .ok (.ifCond .ne 8, 3) := by decide +kernel
theorem dX7_refusesSet_14 : decode cX7_refusesSet 14 = .ok (.bipush 29, 2) := by decide +kernel
theorem dX7_refusesSet_16 : decode cX7_refusesSet 16 = .ok (.goto 13, 3) := by decide +kernel
theorem dX7_refusesSet_19 : decode cX7_refusesSet 19 = .ok (.iload_n 1, 1) := by decide +kernel
theorem dX7_refusesSet_20 : decode cX7_refusesSet 20 = .ok (.iconst 1, 1) := by decide +kernel
theorem dX7_refusesSet_21 : decode cX7_refusesSet 21 = .ok (.if_icmp .ne 7, 3) := by decide +kernel
theorem dX7_refusesSet_24 : decode cX7_refusesSet 24 = .ok (.iconst 3, 1) := by decide +kernel
theorem dX7_refusesSet_25 : decode cX7_refusesSet 25 = .ok (.goto 4, 3) := by decide +kernel
theorem dX7_refusesSet_28 : decode cX7_refusesSet 28 = .ok (.iconst 1, 1) := by decide +kernel
theorem dX7_refusesSet_29 : decode cX7_refusesSet 29 = .ok (.iload_n 1, 1) := by decide +kernel
theorem dX7_refusesSet_30 : decode cX7_refusesSet 30 = .ok (.ifCond .ne 8, 3) := by decide +kernel
theorem dX7_refusesSet_33 : decode cX7_refusesSet 33 = .ok (.bipush 60, 2) := by decide +kernel
theorem dX7_refusesSet_35 : decode cX7_refusesSet 35 = .ok (.goto 14, 3) := by decide +kernel
theorem dX7_refusesSet_38 : decode cX7_refusesSet 38 = .ok (.iload_n 1, 1) := by decide +kernel
theorem dX7_refusesSet_39 : decode cX7_refusesSet 39 = .ok (.iconst 1, 1) := by decide +kernel
theorem dX7_refusesSet_40 : decode cX7_refusesSet 40 = .ok (.if_icmp .ne 8, 3) := by decide +kernel
theorem dX7_refusesSet_43 : decode cX7_refusesSet 43 = .ok (.bipush 40, 2) := by decide +kernel
theorem dX7_refusesSet_45 : decode cX7_refusesSet 45 = .ok (.goto 4, 3) := by decide +kernel
theorem dX7_refusesSet_48 : decode cX7_refusesSet 48 = .ok (.iconst 4, 1) := by decide +kernel
theorem dX7_refusesSet_49 : decode cX7_refusesSet 49 = .ok (.invokestatic 65, 3) := by decide +kernel
theorem dX7_refusesSet_52 : decode cX7_refusesSet 52 = .ok (.ifCond .ne 5, 3) := by decide +kernel
theorem dX7_refusesSet_55 : decode cX7_refusesSet 55 = .ok (.iconst (-1), 1) := by decide +kernel
theorem dX7_refusesSet_56 : decode cX7_refusesSet 56 = .ok (.ireturn, 1) := by decide +kernel
theorem dX7_refusesSet_57 : decode cX7_refusesSet 57 = .ok (.aload_n 0, 1) := by decide +kernel
theorem dX7_refusesSet_58 : decode cX7_refusesSet 58 = .ok (.getfield 9, 3) := by decide +kernel
theorem dX7_refusesSet_61 : decode cX7_refusesSet 61 = .ok (.iload_n 1, 1) := by decide +kernel
theorem dX7_refusesSet_62 : decode cX7_refusesSet 62 = .ok (.invokestatic 285, 3) := by decide +kernel
theorem dX7_refusesSet_65 : decode cX7_refusesSet 65 = .ok (.iaload, 1) := by decide +kernel
theorem dX7_refusesSet_66 : decode cX7_refusesSet 66 = .ok (.iload_n 2, 1) := by decide +kernel
theorem dX7_refusesSet_67 : decode cX7_refusesSet 67 = .ok (.if_icmp .ne 6, 3) := by decide +kernel
theorem dX7_refusesSet_70 : decode cX7_refusesSet 70 = .ok (.bipush (-2), 2) := by decide +kernel
theorem dX7_refusesSet_72 : decode cX7_refusesSet 72 = .ok (.ireturn, 1) := by decide +kernel
theorem dX7_refusesSet_73 : decode cX7_refusesSet 73 = .ok (.iload_n 1, 1) := by decide +kernel
theorem dX7_refusesSet_74 : decode cX7_refusesSet 74 = .ok (.ifCond .ne 7, 3) := by decide +kernel
theorem dX7_refusesSet_77 : decode cX7_refusesSet 77 = .ok (.iload_n 2, 1) := by decide +kernel
theorem dX7_refusesSet_78 : decode cX7_refusesSet 78 = .ok (.goto 9, 3) := by decide +kernel
theorem dX7_refusesSet_81 : decode cX7_refusesSet 81 = .ok (.aload_n 0, 1) := by decide +kernel
theorem dX7_refusesSet_82 : decode cX7_refusesSet 82 = .ok (.getfield 9, 3) := by decide +kernel
theorem dX7_refusesSet_85 : decode cX7_refusesSet 85 = .ok (.iconst 0, 1) := by decide +kernel
theorem dX7_refusesSet_86 : decode cX7_refusesSet 86 = .ok (.iaload, 1) := by decide +kernel
theorem dX7_refusesSet_87 : decode cX7_refusesSet 87 = .ok (.iload_n 1, 1) := by decide +kernel
theorem dX7_refusesSet_88 : decode cX7_refusesSet 88 = .ok (.iconst 1, 1) := by decide +kernel
theorem dX7_refusesSet_89 : decode cX7_refusesSet 89 = .ok (.if_icmp .ne 7, 3) := by decide +kernel
theorem dX7_refusesSet_92 : decode cX7_refusesSet 92 = .ok (.iload_n 2, 1) := by decide +kernel
theorem dX7_refusesSet_93 : decode cX7_refusesSet 93 = .ok (.goto 9, 3) := by decide +kernel
theorem dX7_refusesSet_96 : decode cX7_refusesSet 96 = .ok (.aload_n 0, 1) := by decide +kernel
theorem dX7_refusesSet_97 : decode cX7_refusesSet 97 = .ok (.getfield 9, 3) := by decide +kernel
theorem dX7_refusesSet_100 : decode cX7_refusesSet 100 = .ok (.iconst 1, 1) := by decide +kernel
theorem dX7_refusesSet_101 : decode cX7_refusesSet 101 = .ok (.iaload, 1) := by decide +kernel
theorem dX7_refusesSet_102 : decode cX7_refusesSet 102 = .ok (.iload_n 1, 1) := by decide +kernel
theorem dX7_refusesSet_103 : decode cX7_refusesSet 103 = .ok (.iconst 2, 1) := by decide +kernel
theorem dX7_refusesSet_104 : decode cX7_refusesSet 104 = .ok (.if_icmp .ne 7, 3) := by decide +kernel
theorem dX7_refusesSet_107 : decode cX7_refusesSet 107 = .ok (.iload_n 2, 1) := by decide +kernel
theorem dX7_refusesSet_108 : decode cX7_refusesSet 108 = .ok (.goto 11, 3) := by decide +kernel
theorem dX7_refusesSet_111 : decode cX7_refusesSet 111 = .ok (.aload_n 0, 1) := by decide +kernel
theorem dX7_refusesSet_112 : decode cX7_refusesSet 112 = .ok (.getfield 9, 3) := by decide +kernel
theorem dX7_refusesSet_115 : decode cX7_refusesSet 115 = .ok (.sipush 255, 3) := by decide +kernel
theorem dX7_refusesSet_118 : decode cX7_refusesSet 118 = .ok (.iaload, 1) := by decide +kernel
theorem dX7_refusesSet_119 : decode cX7_refusesSet 119 = .ok (.aload_n 0, 1) := by decide +kernel
theorem dX7_refusesSet_120 : decode cX7_refusesSet 120 = .ok (.getfield 9, 3) := by decide +kernel
theorem dX7_refusesSet_123 : decode cX7_refusesSet 123 = .ok (.iconst 2, 1) := by decide +kernel
theorem dX7_refusesSet_124 : decode cX7_refusesSet 124 = .ok (.iaload, 1) := by decide +kernel
theorem dX7_refusesSet_125 : decode cX7_refusesSet 125 = .ok (.aload_n 0, 1) := by decide +kernel
theorem dX7_refusesSet_126 : decode cX7_refusesSet 126 = .ok (.getfield 9, 3) := by decide +kernel
theorem dX7_refusesSet_129 : decode cX7_refusesSet 129 = .ok (.iconst 3, 1) := by decide +kernel
theorem dX7_refusesSet_130 : decode cX7_refusesSet 130 = .ok (.iaload, 1) := by decide +kernel
theorem dX7_refusesSet_131 : decode cX7_refusesSet 131 = .ok (.aload_n 0, 1) := by decide +kernel
theorem dX7_refusesSet_132 : decode cX7_refusesSet 132 = .ok (.getfield 9, 3) := by decide +kernel
theorem dX7_refusesSet_135 : decode cX7_refusesSet 135 = .ok (.iconst 4, 1) := by decide +kernel
theorem dX7_refusesSet_136 : decode cX7_refusesSet 136 = .ok (.iaload, 1) := by decide +kernel
theorem dX7_refusesSet_137 : decode cX7_refusesSet 137 = .ok (.invokestatic 223, 3) := by decide +kernel
theorem dX7_refusesSet_140 : decode cX7_refusesSet 140 = .ok (.ifCond .eq 7, 3) := by decide +kernel
theorem dX7_refusesSet_143 : decode cX7_refusesSet 143 = .ok (.iconst 0, 1) := by decide +kernel
theorem dX7_refusesSet_144 : decode cX7_refusesSet 144 = .ok (.goto 5, 3) := by decide +kernel
theorem dX7_refusesSet_147 : decode cX7_refusesSet 147 = .ok (.bipush (-3), 2) := by decide +kernel
theorem dX7_refusesSet_149 : decode cX7_refusesSet 149 = .ok (.ireturn, 1) := by decide +kernel
theorem dX7_settingAt_0 : decode cX7_settingAt 0 = .ok (.iload_n 0, 1) := by decide +kernel
theorem dX7_settingAt_1 : decode cX7_settingAt 1 = .ok (.iconst 2, 1) := by decide +kernel
theorem dX7_settingAt_2 : decode cX7_settingAt 2 = .ok (.if_icmp .ne 9, 3) := by decide +kernel
theorem dX7_settingAt_5 : decode cX7_settingAt 5 = .ok (.sipush 255, 3) := by decide +kernel
theorem dX7_settingAt_8 : decode cX7_settingAt 8 = .ok (.goto 4, 3) := by decide +kernel
theorem dX7_settingAt_11 : decode cX7_settingAt 11 = .ok (.iload_n 0, 1) := by decide +kernel
theorem dX7_settingAt_12 : decode cX7_settingAt 12 = .ok (.ireturn, 1) := by decide +kernel
theorem dX7_sets_0 : decode cX7_sets 0 = .ok (.aload_n 0, 1) := by decide +kernel
theorem dX7_sets_1 : decode cX7_sets 1 = .ok (.iconst 0, 1) := by decide +kernel
theorem dX7_sets_2 : decode cX7_sets 2 = .ok (.putfield 58, 3) := by decide +kernel
theorem dX7_sets_5 : decode cX7_sets 5 = .ok (.aload_n 0, 1) := by decide +kernel
theorem dX7_sets_6 : decode cX7_sets 6 = .ok (.iload_n 1, 1) := by decide +kernel
theorem dX7_sets_7 : decode cX7_sets 7 = .ok (.iload_n 2, 1) := by decide +kernel
theorem dX7_sets_8 : decode cX7_sets 8 = .ok (.invokevirtual 288, 3) := by decide +kernel
theorem dX7_sets_11 : decode cX7_sets 11 = .ok (.istore_n 3, 1) := by decide +kernel
theorem dX7_sets_12 : decode cX7_sets 12 = .ok (.iload_n 3, 1) := by decide +kernel
theorem dX7_sets_13 : decode cX7_sets 13 = .ok (.ifCond .ge 5, 3) := by decide +kernel
theorem dX7_sets_16 : decode cX7_sets 16 = .ok (.iload_n 3, 1) := by decide +kernel
theorem dX7_sets_17 : decode cX7_sets 17 = .ok (.ireturn, 1) := by decide +kernel
theorem dX7_sets_18 : decode cX7_sets 18 = .ok (.aload_n 0, 1) := by decide +kernel
theorem dX7_sets_19 : decode cX7_sets 19 = .ok (.invokevirtual 107, 3) := by decide +kernel
theorem dX7_sets_22 : decode cX7_sets 22 = .ok (.aload_n 0, 1) := by decide +kernel
theorem dX7_sets_23 : decode cX7_sets 23 = .ok (.getfield 9, 3) := by decide +kernel
theorem dX7_sets_26 : decode cX7_sets 26 = .ok (.iload_n 1, 1) := by decide +kernel
theorem dX7_sets_27 : decode cX7_sets 27 = .ok (.invokestatic 285, 3) := by decide +kernel
theorem dX7_sets_30 : decode cX7_sets 30 = .ok (.iaload, 1) := by decide +kernel
theorem dX7_sets_31 : decode cX7_sets 31 = .ok (.istore 4, 2) := by decide +kernel
theorem dX7_sets_33 : decode cX7_sets 33 = .ok (.aload_n 0, 1) := by decide +kernel
theorem dX7_sets_34 : decode cX7_sets 34 = .ok (.getfield 9, 3) := by decide +kernel
theorem dX7_sets_37 : decode cX7_sets 37 = .ok (.iload_n 1, 1) := by decide +kernel
theorem dX7_sets_38 : decode cX7_sets 38 = .ok (.invokestatic 285, 3) := by decide +kernel
theorem dX7_sets_41 : decode cX7_sets 41 = .ok (.iload_n 2, 1) := by decide +kernel
theorem dX7_sets_42 : decode cX7_sets 42 = .ok (.iastore, 1) := by decide +kernel
theorem dX7_sets_43 : decode cX7_sets 43 = .ok (.iload 4, 2) := by decide +kernel
theorem dX7_sets_45 : decode cX7_sets 45 = .ok (.ireturn, 1) := by decide +kernel
theorem dX7_refusesPlan_0 : decode cX7_refusesPlan 0 = .ok (.aload_n 0, 1) := by decide +kernel
theorem dX7_refusesPlan_1 : decode cX7_refusesPlan 1 = .ok (.iload_n 1, 1) := by decide +kernel
theorem dX7_refusesPlan_2 : decode cX7_refusesPlan 2 = .ok (.iload_n 2, 1) := by decide +kernel
theorem dX7_refusesPlan_3 : decode cX7_refusesPlan 3 = .ok (.iload_n 3, 1) := by decide +kernel
theorem dX7_refusesPlan_4 : decode cX7_refusesPlan 4 = .ok (.invokevirtual 227, 3) := by decide +kernel
theorem dX7_refusesPlan_7 : decode cX7_refusesPlan 7 = .ok (.ifCond .ne 5, 3) := by decide +kernel
theorem dX7_refusesPlan_10 : decode cX7_refusesPlan 10 = .ok (.iconst (-1), 1) := by decide +kernel
theorem dX7_refusesPlan_11 : decode cX7_refusesPlan 11 = .ok (.ireturn, 1) := by decide +kernel
theorem dX7_refusesPlan_12 : decode cX7_refusesPlan 12 = .ok (.aload_n 0, 1) := by decide +kernel
theorem dX7_refusesPlan_13 : decode cX7_refusesPlan 13 = .ok (.getfield 9, 3) := by decide +kernel
theorem dX7_refusesPlan_16 : decode cX7_refusesPlan 16 = .ok (.iconst 2, 1) := by decide +kernel
theorem dX7_refusesPlan_17 : decode cX7_refusesPlan 17 = .ok (.iaload, 1) := by decide +kernel
theorem dX7_refusesPlan_18 : decode cX7_refusesPlan 18 = .ok (.iload_n 1, 1) := by decide +kernel
theorem dX7_refusesPlan_19 : decode cX7_refusesPlan 19 = .ok (.if_icmp .ne 28, 3) := by decide +kernel
theorem dX7_refusesPlan_22 : decode cX7_refusesPlan 22 = .ok (.aload_n 0, 1) := by decide +kernel
theorem dX7_refusesPlan_23 : decode cX7_refusesPlan 23 = .ok (.getfield 9, 3) := by decide +kernel
theorem dX7_refusesPlan_26 : decode cX7_refusesPlan 26 = .ok (.iconst 3, 1) := by decide +kernel
theorem dX7_refusesPlan_27 : decode cX7_refusesPlan 27 = .ok (.iaload, 1) := by decide +kernel
theorem dX7_refusesPlan_28 : decode cX7_refusesPlan 28 = .ok (.iload_n 2, 1) := by decide +kernel
theorem dX7_refusesPlan_29 : decode cX7_refusesPlan 29 = .ok (.if_icmp .ne 18, 3) := by decide +kernel
theorem dX7_refusesPlan_32 : decode cX7_refusesPlan 32 = .ok (.aload_n 0, 1) := by decide +kernel
theorem dX7_refusesPlan_33 : decode cX7_refusesPlan 33 = .ok (.getfield 9, 3) := by decide +kernel
theorem dX7_refusesPlan_36 : decode cX7_refusesPlan 36 = .ok (.iconst 4, 1) := by decide +kernel
theorem dX7_refusesPlan_37 : decode cX7_refusesPlan 37 = .ok (.iaload, 1) := by decide +kernel
theorem dX7_refusesPlan_38 : decode cX7_refusesPlan 38 = .ok (.iload_n 3, 1) := by decide +kernel
theorem dX7_refusesPlan_39 : decode cX7_refusesPlan 39 = .ok (.if_icmp .ne 8, 3) := by decide +kernel
theorem dX7_refusesPlan_42 : decode cX7_refusesPlan 42 = .ok (.bipush (-2), 2) := by decide +kernel
theorem dX7_refusesPlan_44 : decode cX7_refusesPlan 44 = .ok (.goto 4, 3) := by decide +kernel
theorem dX7_refusesPlan_47 : decode cX7_refusesPlan 47 = .ok (.iconst 0, 1) := by decide +kernel
theorem dX7_refusesPlan_48 : decode cX7_refusesPlan 48 = .ok (.ireturn, 1) := by decide +kernel
theorem dX7_plans_0 : decode cX7_plans 0 = .ok (.aload_n 0, 1) := by decide +kernel
theorem dX7_plans_1 : decode cX7_plans 1 = .ok (.iconst 0, 1) := by decide +kernel
theorem dX7_plans_2 : decode cX7_plans 2 = .ok (.putfield 58, 3) := by decide +kernel
theorem dX7_plans_5 : decode cX7_plans 5 = .ok (.aload_n 0, 1) := by decide +kernel
theorem dX7_plans_6 : decode cX7_plans 6 = .ok (.iload_n 1, 1) := by decide +kernel
theorem dX7_plans_7 : decode cX7_plans 7 = .ok (.iload_n 2, 1) := by decide +kernel
theorem dX7_plans_8 : decode cX7_plans 8 = .ok (.iload_n 3, 1) := by decide +kernel
theorem dX7_plans_9 : decode cX7_plans 9 = .ok (.invokevirtual 291, 3) := by decide +kernel
theorem dX7_plans_12 : decode cX7_plans 12 = .ok (.istore 4, 2) := by decide +kernel
theorem dX7_plans_14 : decode cX7_plans 14 = .ok (.iload 4, 2) := by decide +kernel
theorem dX7_plans_16 : decode cX7_plans 16 = .ok (.ifCond .ge 6, 3) := by decide +kernel
theorem dX7_plans_19 : decode cX7_plans 19 = .ok (.iload 4, 2) := by decide +kernel
theorem dX7_plans_21 : decode cX7_plans 21 = .ok (.ireturn, 1) := by decide +kernel
theorem dX7_plans_22 : decode cX7_plans 22 = .ok (.aload_n 0, 1) := by decide +kernel
theorem dX7_plans_23 : decode cX7_plans 23 = .ok (.invokevirtual 107, 3) := by decide +kernel
theorem dX7_plans_26 : decode cX7_plans 26 = .ok (.sipush 10000, 3) := by decide +kernel
theorem dX7_plans_29 : decode cX7_plans 29 = .ok (.aload_n 0, 1) := by decide +kernel
theorem dX7_plans_30 : decode cX7_plans 30 = .ok (.getfield 9, 3) := by decide +kernel
theorem dX7_plans_33 : decode cX7_plans 33 = .ok (.iconst 2, 1) := by decide +kernel
theorem dX7_plans_34 : decode cX7_plans 34 = .ok (.iaload, 1) := by decide +kernel
theorem dX7_plans_35 : decode cX7_plans 35 = .ok (.imul, 1) := by decide +kernel
theorem dX7_plans_36 : decode cX7_plans 36 = .ok (.bipush 100, 2) := by decide +kernel
theorem dX7_plans_38 : decode cX7_plans 38 = .ok (.aload_n 0, 1) := by decide +kernel
theorem dX7_plans_39 : decode cX7_plans 39 = .ok (.getfield 9, 3) := by decide +kernel
theorem dX7_plans_42 : decode cX7_plans 42 = .ok (.iconst 3, 1) := by decide +kernel
theorem dX7_plans_43 : decode cX7_plans 43 = .ok (.iaload, 1) := by decide +kernel
theorem dX7_plans_44 : decode cX7_plans 44 = .ok (.imul, 1) := by decide +kernel
theorem dX7_plans_45 : decode cX7_plans 45 = .ok (.iadd, 1) := by decide +kernel
theorem dX7_plans_46 : decode cX7_plans 46 = .ok (.aload_n 0, 1) := by decide +kernel
theorem dX7_plans_47 : decode cX7_plans 47 = .ok (.getfield 9, 3) := by decide +kernel
theorem dX7_plans_50 : decode cX7_plans 50 = .ok (.iconst 4, 1) := by decide +kernel
theorem dX7_plans_51 : decode cX7_plans 51 = .ok (.iaload, 1) := by decide +kernel
theorem dX7_plans_52 : decode cX7_plans 52 = .ok (.iadd, 1) := by decide +kernel
theorem dX7_plans_53 : decode cX7_plans 53 = .ok (.istore 5, 2) := by decide +kernel
theorem dX7_plans_55 : decode cX7_plans 55 = .ok (.aload_n 0, 1) := by decide +kernel
theorem dX7_plans_56 : decode cX7_plans 56 = .ok (.iload_n 1, 1) := by decide +kernel
theorem dX7_plans_57 : decode cX7_plans 57 = .ok (.iload_n 2, 1) := by decide +kernel
theorem dX7_plans_58 : decode cX7_plans 58 = .ok (.iload_n 3, 1) := by decide +kernel
theorem dX7_plans_59 : decode cX7_plans 59 = .ok (.invokevirtual 233, 3) := by decide +kernel
theorem dX7_plans_62 : decode cX7_plans 62 = .ok (.iload 5, 2) := by decide +kernel
theorem dX7_plans_64 : decode cX7_plans 64 = .ok (.ireturn, 1) := by decide +kernel
theorem dX7_refusesBest_0 : decode cX7_refusesBest 0 = .ok (.iload_n 1, 1) := by decide +kernel
theorem dX7_refusesBest_1 : decode cX7_refusesBest 1 = .ok (.iload_n 2, 1) := by decide +kernel
theorem dX7_refusesBest_2 : decode cX7_refusesBest 2 = .ok (.invokestatic 252, 3) := by decide +kernel
theorem dX7_refusesBest_5 : decode cX7_refusesBest 5 = .ok (.ifCond .ne 5, 3) := by decide +kernel
theorem dX7_refusesBest_8 : decode cX7_refusesBest 8 = .ok (.iconst (-1), 1) := by decide +kernel
theorem dX7_refusesBest_9 : decode cX7_refusesBest 9 = .ok (.ireturn, 1) := by decide +kernel
theorem dX7_refusesBest_10 : decode cX7_refusesBest 10 = .ok (.aload_n 0, 1) := by decide +kernel
theorem dX7_refusesBest_11 : decode cX7_refusesBest 11 = .ok (.iload_n 1, 1) := by decide +kernel
theorem dX7_refusesBest_12 : decode cX7_refusesBest 12 = .ok (.iload_n 2, 1) := by decide +kernel
theorem dX7_refusesBest_13 : decode cX7_refusesBest 13 = .ok (.iconst 0, 1) := by decide +kernel
theorem dX7_refusesBest_14 : decode cX7_refusesBest 14 = .ok (.invokevirtual 255, 3) := by decide +kernel
theorem dX7_refusesBest_17 : decode cX7_refusesBest 17 = .ok (.aload_n 0, 1) := by decide +kernel
theorem dX7_refusesBest_18 : decode cX7_refusesBest 18 = .ok (.aload_n 0, 1) := by decide +kernel
theorem dX7_refusesBest_19 : decode cX7_refusesBest 19 = .ok (.getfield 36, 3) := by decide +kernel
theorem dX7_refusesBest_22 : decode cX7_refusesBest 22 = .ok (.iconst 0, 1) := by decide +kernel
theorem dX7_refusesBest_23 : decode cX7_refusesBest 23 = .ok (.iaload, 1) := by decide +kernel
theorem dX7_refusesBest_24 : decode cX7_refusesBest 24 = .ok (.aload_n 0, 1) := by decide +kernel
theorem dX7_refusesBest_25 : decode cX7_refusesBest 25 = .ok (.getfield 36, 3) := by decide +kernel
theorem dX7_refusesBest_28 : decode cX7_refusesBest 28 = .ok (.iconst 1, 1) := by decide +kernel
theorem dX7_refusesBest_29 : decode cX7_refusesBest 29 = .ok (.iaload, 1) := by decide +kernel
theorem dX7_refusesBest_30 : decode cX7_refusesBest 30 = .ok (.aload_n 0, 1) := by decide +kernel
theorem dX7_refusesBest_31 : decode cX7_refusesBest 31 = .ok (.getfield 36, 3) := by decide +kernel
theorem dX7_refusesBest_34 : decode cX7_refusesBest 34 = .ok (.iconst 2, 1) := by decide +kernel
theorem dX7_refusesBest_35 : decode cX7_refusesBest 35 = .ok (.iaload, 1) := by decide +kernel
theorem dX7_refusesBest_36 : decode cX7_refusesBest 36 = .ok (.invokevirtual 291, 3) := by decide +kernel
theorem dX7_refusesBest_39 : decode cX7_refusesBest 39 = .ok (.ireturn, 1) := by decide +kernel
theorem dX7_takesBest_0 : decode cX7_takesBest 0 = .ok (.aload_n 0, 1) := by decide +kernel
theorem dX7_takesBest_1 : decode cX7_takesBest 1 = .ok (.iconst 0, 1) := by decide +kernel
theorem dX7_takesBest_2 : decode cX7_takesBest 2 = .ok (.putfield 58, 3) := by decide +kernel
theorem dX7_takesBest_5 : decode cX7_takesBest 5 = .ok (.aload_n 0, 1) := by decide +kernel
theorem dX7_takesBest_6 : decode cX7_takesBest 6 = .ok (.iload_n 1, 1) := by decide +kernel
theorem dX7_takesBest_7 : decode cX7_takesBest 7 = .ok (.iload_n 2, 1) := by decide +kernel
theorem dX7_takesBest_8 : decode cX7_takesBest 8 = .ok (.invokevirtual 294, 3) := by decide +kernel
theorem dX7_takesBest_11 : decode cX7_takesBest 11 = .ok (.istore_n 3, 1) := by decide +kernel
theorem dX7_takesBest_12 : decode cX7_takesBest 12 = .ok (.iload_n 3, 1) := by decide +kernel
theorem dX7_takesBest_13 : decode cX7_takesBest 13 = .ok (.ifCond .ge 5, 3) := by decide +kernel
theorem dX7_takesBest_16 : decode cX7_takesBest 16 = .ok (.iload_n 3, 1) := by decide +kernel
theorem dX7_takesBest_17 : decode cX7_takesBest 17 = .ok (.ireturn, 1) := by decide +kernel
theorem dX7_takesBest_18 : decode cX7_takesBest 18 = .ok (.aload_n 0, 1) := by decide +kernel
theorem dX7_takesBest_19 : decode cX7_takesBest 19 = .ok (.invokevirtual 107, 3) := by decide +kernel
theorem dX7_takesBest_22 : decode cX7_takesBest 22 = .ok (.aload_n 0, 1) := by decide +kernel
theorem dX7_takesBest_23 : decode cX7_takesBest 23 = .ok (.aload_n 0, 1) := by decide +kernel
theorem dX7_takesBest_24 : decode cX7_takesBest 24 = .ok (.getfield 36, 3) := by decide +kernel
theorem dX7_takesBest_27 : decode cX7_takesBest 27 = .ok (.iconst 0, 1) := by decide +kernel
theorem dX7_takesBest_28 : decode cX7_takesBest 28 = .ok (.iaload, 1) := by decide +kernel
theorem dX7_takesBest_29 : decode cX7_takesBest 29 = .ok (.aload_n 0, 1) := by decide +kernel
theorem dX7_takesBest_30 : decode cX7_takesBest 30 = .ok (.getfield 36, 3) := by decide +kernel
theorem dX7_takesBest_33 : decode cX7_takesBest 33 = .ok (.iconst 1, 1) := by decide +kernel
theorem dX7_takesBest_34 : decode cX7_takesBest 34 = .ok (.iaload, 1) := by decide +kernel
theorem dX7_takesBest_35 : decode cX7_takesBest 35 = .ok (.aload_n 0, 1) := by decide +kernel
theorem dX7_takesBest_36 : decode cX7_takesBest 36 = .ok (.getfield 36, 3) := by decide +kernel
theorem dX7_takesBest_39 : decode cX7_takesBest 39 = .ok (.iconst 2, 1) := by decide +kernel
theorem dX7_takesBest_40 : decode cX7_takesBest 40 = .ok (.iaload, 1) := by decide +kernel
theorem dX7_takesBest_41 : decode cX7_takesBest 41 = .ok (.invokevirtual 233, 3) := by decide +kernel
theorem dX7_takesBest_44 : decode cX7_takesBest 44 = .ok (.aload_n 0, 1) := by decide +kernel
theorem dX7_takesBest_45 : decode cX7_takesBest 45 = .ok (.getfield 243, 3) := by decide +kernel
theorem dX7_takesBest_48 : decode cX7_takesBest 48 = .ok (.ireturn, 1) := by decide +kernel
theorem dX7_weighs_0 : decode cX7_weighs 0 = .ok (.aload_n 0, 1) := by decide +kernel
theorem dX7_weighs_1 : decode cX7_weighs 1 = .ok (.iconst 0, 1) := by decide +kernel
theorem dX7_weighs_2 : decode cX7_weighs 2 = .ok (.putfield 58, 3) := by decide +kernel
theorem dX7_weighs_5 : decode cX7_weighs 5 = .ok (.iload_n 1, 1) := by decide +kernel
theorem dX7_weighs_6 : decode cX7_weighs 6 = .ok (.iconst 0, 1) := by decide +kernel
theorem dX7_weighs_7 : decode cX7_weighs 7 = .ok (.iconst 2, 1) := by decide +kernel
theorem dX7_weighs_8 : decode cX7_weighs 8 = .ok (.invokestatic 65, 3) := by decide +kernel
theorem dX7_weighs_11 : decode cX7_weighs 11 = .ok (.ifCond .eq 24, 3) := by decide +kernel
theorem dX7_weighs_14 : decode cX7_weighs 14 = .ok (.iload_n 2, 1) := by decide +kernel
theorem dX7_weighs_15 : decode cX7_weighs 15 = .ok (.iconst 0, 1) := by decide +kernel
theorem dX7_weighs_16 : decode cX7_weighs 16 = .ok (.iload_n 1, 1) := by decide +kernel
theorem dX7_weighs_17 : decode cX7_weighs 17 = .ok (.iconst 2, 1) := by decide +kernel
theorem dX7_weighs_18 : decode cX7_weighs 18 = .ok (.if_icmp .ne 8, 3) := by decide +kernel
theorem dX7_weighs_21 : decode cX7_weighs 21 = .ok (.bipush 100, 2) := by decide +kernel
theorem dX7_weighs_23 : decode cX7_weighs 23 = .ok (.goto 6, 3) := by decide +kernel
theorem dX7_weighs_26 : decode cX7_weighs 26 = .ok (.sipush 10000, 3) := by decide +kernel
theorem dX7_weighs_29 : decode cX7_weighs 29 = .ok (.invokestatic 65, 3) := by decide +kernel
theorem dX7_weighs_32 : decode cX7_weighs 32 = .ok (.ifCond .ne 5, 3) := by decide +kernel
theorem dX7_weighs_35 : decode cX7_weighs 35 = .ok (.iconst (-1), 1) := by decide +kernel
theorem dX7_weighs_36 : decode cX7_weighs 36 = .ok (.ireturn, 1) := by decide +kernel
theorem dX7_weighs_37 : decode cX7_weighs 37 = .ok (.aload_n 0, 1) := by decide +kernel
theorem dX7_weighs_38 : decode cX7_weighs 38 = .ok (.getfield 9, 3) := by decide +kernel
theorem dX7_weighs_41 : decode cX7_weighs 41 = .ok (.sipush 256, 3) := by decide +kernel
theorem dX7_weighs_44 : decode cX7_weighs 44 = .ok (.iload_n 1, 1) := by decide +kernel
theorem dX7_weighs_45 : decode cX7_weighs 45 = .ok (.iadd, 1) := by decide +kernel
theorem dX7_weighs_46 : decode cX7_weighs 46 = .ok (.iaload, 1) := by decide +kernel
theorem dX7_weighs_47 : decode cX7_weighs 47 = .ok (.iload_n 2, 1) := by decide +kernel
theorem dX7_weighs_48 : decode cX7_weighs 48 = .ok (.if_icmp .ne 6, 3) := by decide +kernel
theorem dX7_weighs_51 : decode cX7_weighs 51 = .ok (.bipush (-2), 2) := by decide +kernel
theorem dX7_weighs_53 : decode cX7_weighs 53 = .ok (.ireturn, 1) := by decide +kernel
theorem dX7_weighs_54 : decode cX7_weighs 54 = .ok (.aload_n 0, 1) := by decide +kernel
theorem dX7_weighs_55 : decode cX7_weighs 55 = .ok (.invokevirtual 107, 3) := by decide +kernel
theorem dX7_weighs_58 : decode cX7_weighs 58 = .ok (.aload_n 0, 1) := by decide +kernel
theorem dX7_weighs_59 : decode cX7_weighs 59 = .ok (.getfield 9, 3) := by decide +kernel
theorem dX7_weighs_62 : decode cX7_weighs 62 = .ok (.sipush 256, 3) := by decide +kernel
theorem dX7_weighs_65 : decode cX7_weighs 65 = .ok (.iload_n 1, 1) := by decide +kernel
theorem dX7_weighs_66 : decode cX7_weighs 66 = .ok (.iadd, 1) := by decide +kernel
theorem dX7_weighs_67 : decode cX7_weighs 67 = .ok (.iaload, 1) := by decide +kernel
theorem dX7_weighs_68 : decode cX7_weighs 68 = .ok (.istore_n 3, 1) := by decide +kernel
theorem dX7_weighs_69 : decode cX7_weighs 69 = .ok (.aload_n 0, 1) := by decide +kernel
theorem dX7_weighs_70 : decode cX7_weighs 70 = .ok (.getfield 9, 3) := by decide +kernel
theorem dX7_weighs_73 : decode cX7_weighs 73 = .ok (.sipush 256, 3) := by decide +kernel
theorem dX7_weighs_76 : decode cX7_weighs 76 = .ok (.iload_n 1, 1) := by decide +kernel
theorem dX7_weighs_77 : decode cX7_weighs 77 = .ok (.iadd, 1) := by decide +kernel
theorem dX7_weighs_78 : decode cX7_weighs 78 = .ok (.iload_n 2, 1) := by decide +kernel
theorem dX7_weighs_79 : decode cX7_weighs 79 = .ok (.iastore, 1) := by decide +kernel
theorem dX7_weighs_80 : decode cX7_weighs 80 = .ok (.iload_n 3, 1) := by decide +kernel
theorem dX7_weighs_81 : decode cX7_weighs 81 = .ok (.ireturn, 1) := by decide +kernel
theorem dX7_goSwap_0 : decode cX7_goSwap 0 = .ok (.aload_n 0, 1) := by decide +kernel
theorem dX7_goSwap_1 : decode cX7_goSwap 1 = .ok (.getfield 9, 3) := by decide +kernel
theorem dX7_goSwap_4 : decode cX7_goSwap 4 = .ok (.bipush 6, 2) := by decide +kernel
theorem dX7_goSwap_6 : decode cX7_goSwap 6 = .ok (.iaload, 1) := by decide +kernel
theorem dX7_goSwap_7 : decode cX7_goSwap 7 = .ok (.ifCond .ne 15, 3) := by decide +kernel
theorem dX7_goSwap_10 : decode cX7_goSwap 10 = .ok (.aload_n 0, 1) := by decide +kernel
theorem dX7_goSwap_11 : decode cX7_goSwap 11 = .ok (.getfield 9, 3) := by decide +kernel
theorem dX7_goSwap_14 : decode cX7_goSwap 14 = .ok (.bipush 7, 2) := by decide +kernel
theorem dX7_goSwap_16 : decode cX7_goSwap 16 = .ok (.iaload, 1) := by decide +kernel
theorem dX7_goSwap_17 : decode cX7_goSwap 17 = .ok (.ifCond .ne 5, 3) := by decide +kernel
theorem dX7_goSwap_20 : decode cX7_goSwap 20 = .ok (.iconst 0, 1) := by decide +kernel
theorem dX7_goSwap_21 : decode cX7_goSwap 21 = .ok (.ireturn, 1) := by decide +kernel
theorem dX7_goSwap_22 : decode cX7_goSwap 22 = .ok (.iconst (-1), 1) := by decide +kernel
theorem dX7_goSwap_23 : decode cX7_goSwap 23 = .ok (.istore_n 1, 1) := by decide +kernel
theorem dX7_goSwap_24 : decode cX7_goSwap 24 = .ok (.iload_n 1, 1) := by decide +kernel
theorem dX7_goSwap_25 : decode cX7_goSwap 25 = .ok (.bipush 70, 2) := by decide +kernel
theorem dX7_goSwap_27 : decode cX7_goSwap 27 = .ok (.if_icmp .ge 66, 3) := by decide +kernel
theorem dX7_goSwap_30 : decode cX7_goSwap 30 = .ok (.iload_n 1, 1) := by decide +kernel
theorem dX7_goSwap_31 : decode cX7_goSwap 31 = .ok (.ifCond .ge 8, 3) := by decide +kernel
theorem dX7_goSwap_34 : decode cX7_goSwap 34 = .ok (.bipush 6, 2) := by decide +kernel
theorem dX7_goSwap_36 : decode cX7_goSwap 36 = .ok (.goto 7, 3) := by decide +kernel
theorem dX7_goSwap_39 : decode cX7_goSwap 39 = .ok (.bipush 78, 2) := by decide +kernel
theorem dX7_goSwap_41 : decode cX7_goSwap 41 = .ok (.iload_n 1, 1) := by decide +kernel
theorem dX7_goSwap_42 : decode cX7_goSwap 42 = .ok (.iadd, 1) := by decide +kernel
theorem dX7_goSwap_43 : decode cX7_goSwap 43 = .ok (.istore_n 2, 1) := by decide +kernel
theorem dX7_goSwap_44 : decode cX7_goSwap 44 = .ok (.iload_n 1, 1) := by decide +kernel
theorem dX7_goSwap_45 : decode cX7_goSwap 45 = .ok (.ifCond .ge 8, 3) := by decide +kernel
theorem dX7_goSwap_48 : decode cX7_goSwap 48 = .ok (.bipush 7, 2) := by decide +kernel
theorem dX7_goSwap_50 : decode cX7_goSwap 50 = .ok (.goto 8, 3) := by decide +kernel
theorem dX7_goSwap_53 : decode cX7_goSwap 53 = .ok (.sipush 148, 3) := by decide +kernel
theorem dX7_goSwap_56 : decode cX7_goSwap 56 = .ok (.iload_n 1, 1) := by decide +kernel
theorem dX7_goSwap_57 : decode cX7_goSwap 57 = .ok (.iadd, 1) := by decide +kernel
theorem dX7_goSwap_58 : decode cX7_goSwap 58 = .ok (.istore_n 3, 1) := by decide +kernel
theorem dX7_goSwap_59 : decode cX7_goSwap 59 = .ok (.aload_n 0, 1) := by decide +kernel
theorem dX7_goSwap_60 : decode cX7_goSwap 60 = .ok (.getfield 9, 3) := by decide +kernel
theorem dX7_goSwap_63 : decode cX7_goSwap 63 = .ok (.iload_n 2, 1) := by decide +kernel
theorem dX7_goSwap_64 : decode cX7_goSwap 64 = .ok (.iaload, 1) := by decide +kernel
theorem dX7_goSwap_65 : decode cX7_goSwap 65 = .ok (.istore 4, 2) := by decide +kernel
theorem dX7_goSwap_67 : decode cX7_goSwap 67 = .ok (.aload_n 0, 1) := by decide +kernel
theorem dX7_goSwap_68 : decode cX7_goSwap 68 = .ok (.getfield 9, 3) := by decide +kernel
theorem dX7_goSwap_71 : decode cX7_goSwap 71 = .ok (.iload_n 2, 1) := by decide +kernel
theorem dX7_goSwap_72 : decode cX7_goSwap 72 = .ok (.aload_n 0, 1) := by decide +kernel
theorem dX7_goSwap_73 : decode cX7_goSwap 73 = .ok (.getfield 9, 3) := by decide +kernel
theorem dX7_goSwap_76 : decode cX7_goSwap 76 = .ok (.iload_n 3, 1) := by decide +kernel
theorem dX7_goSwap_77 : decode cX7_goSwap 77 = .ok (.iaload, 1) := by decide +kernel
theorem dX7_goSwap_78 : decode cX7_goSwap 78 = .ok (.iastore, 1) := by decide +kernel
theorem dX7_goSwap_79 : decode cX7_goSwap 79 = .ok (.aload_n 0, 1) := by decide +kernel
theorem dX7_goSwap_80 : decode cX7_goSwap 80 = .ok (.getfield 9, 3) := by decide +kernel
theorem dX7_goSwap_83 : decode cX7_goSwap 83 = .ok (.iload_n 3, 1) := by decide +kernel
theorem dX7_goSwap_84 : decode cX7_goSwap 84 = .ok (.iload 4, 2) := by decide +kernel
theorem dX7_goSwap_86 : decode cX7_goSwap 86 = .ok (.iastore, 1) := by decide +kernel
theorem dX7_goSwap_87 : decode cX7_goSwap 87 = .ok (.iinc 1 1, 3) := by decide +kernel
theorem dX7_goSwap_90 : decode cX7_goSwap 90 = .ok (.goto (-66), 3) := by decide +kernel
theorem dX7_goSwap_93 : decode cX7_goSwap 93 = .ok (.iconst 0, 1) := by decide +kernel
theorem dX7_goSwap_94 : decode cX7_goSwap 94 = .ok (.istore_n 1, 1) := by decide +kernel
theorem dX7_goSwap_95 : decode cX7_goSwap 95 = .ok (.iload_n 1, 1) := by decide +kernel
theorem dX7_goSwap_96 : decode cX7_goSwap 96 = .ok (.aload_n 0, 1) := by decide +kernel
theorem dX7_goSwap_97 : decode cX7_goSwap 97 = .ok (.getfield 9, 3) := by decide +kernel
theorem dX7_goSwap_100 : decode cX7_goSwap 100 = .ok (.sipush 218, 3) := by decide +kernel
theorem dX7_goSwap_103 : decode cX7_goSwap 103 = .ok (.iaload, 1) := by decide +kernel
theorem dX7_goSwap_104 : decode cX7_goSwap 104 = .ok (.if_icmp .ge 29, 3) := by decide +kernel
theorem dX7_goSwap_107 : decode cX7_goSwap 107 = .ok (.aload_n 0, 1) := by decide +kernel
theorem dX7_goSwap_108 : decode cX7_goSwap 108 = .ok (.getfield 9, 3) := by decide +kernel
theorem dX7_goSwap_111 : decode cX7_goSwap 111 = .ok (.sipush 219, 3) := by decide +kernel
theorem dX7_goSwap_114 : decode cX7_goSwap 114 = .ok (.iconst 3, 1) := by decide +kernel
theorem dX7_goSwap_115 : decode cX7_goSwap 115 = .ok (.iload_n 1, 1) := by decide +kernel
theorem dX7_goSwap_116 : decode cX7_goSwap 116 = .ok (.imul, 1) := by decide +kernel
theorem dX7_goSwap_117 : decode cX7_goSwap 117 = .ok (.iadd, 1) := by decide +kernel
theorem dX7_goSwap_118 : decode cX7_goSwap 118 = .ok (.iconst 3, 1) := by decide +kernel
theorem dX7_goSwap_119 : decode cX7_goSwap 119 = .ok (.aload_n 0, 1) := by decide +kernel
theorem dX7_goSwap_120 : decode cX7_goSwap 120 = .ok (.iload_n 1, 1) := by decide +kernel
theorem dX7_goSwap_121 : decode cX7_goSwap 121 = .ok (.iconst 0, 1) := by decide +kernel
theorem dX7_goSwap_122 : decode cX7_goSwap 122 = .ok (.invokevirtual 110, 3) := by decide +kernel
theorem dX7_goSwap_125 : decode cX7_goSwap 125 = .ok (.isub, 1) := by decide +kernel
theorem dX7_goSwap_126 : decode cX7_goSwap 126 = .ok (.iastore, 1) := by decide +kernel
theorem dX7_goSwap_127 : decode cX7_goSwap 127 = .ok (.iinc 1 1, 3) := by decide +kernel
theorem dX7_goSwap_130 : decode cX7_goSwap 130 = .ok (.goto (-35), 3) := by decide +kernel
theorem dX7_goSwap_133 : decode cX7_goSwap 133 = .ok (.iconst 1, 1) := by decide +kernel
theorem dX7_goSwap_134 : decode cX7_goSwap 134 = .ok (.ireturn, 1) := by decide +kernel
theorem dX7_swaps_0 : decode cX7_swaps 0 = .ok (.aload_n 0, 1) := by decide +kernel
theorem dX7_swaps_1 : decode cX7_swaps 1 = .ok (.iconst 0, 1) := by decide +kernel
theorem dX7_swaps_2 : decode cX7_swaps 2 = .ok (.putfield 58, 3) := by decide +kernel
theorem dX7_swaps_5 : decode cX7_swaps 5 = .ok (.aload_n 0, 1) := by decide +kernel
theorem dX7_swaps_6 : decode cX7_swaps 6 = .ok (.invokevirtual 279, 3) := by decide +kernel
theorem dX7_swaps_9 : decode cX7_swaps 9 = .ok (.aload_n 0, 1) := by decide +kernel
theorem dX7_swaps_10 : decode cX7_swaps 10 = .ok (.invokevirtual 297, 3) := by decide +kernel
theorem dX7_swaps_13 : decode cX7_swaps 13 = .ok (.ifCond .ne 6, 3) := by decide +kernel
theorem dX7_swaps_16 : decode cX7_swaps 16 = .ok (.bipush (-2), 2) := by decide +kernel
theorem dX7_swaps_18 : decode cX7_swaps 18 = .ok (.ireturn, 1) := by decide +kernel
theorem dX7_swaps_19 : decode cX7_swaps 19 = .ok (.aload_n 0, 1) := by decide +kernel
theorem dX7_swaps_20 : decode cX7_swaps 20 = .ok (.invokevirtual 282, 3) := by decide +kernel
theorem dX7_swaps_23 : decode cX7_swaps 23 = .ok (.aload_n 0, 1) := by decide +kernel
theorem dX7_swaps_24 : decode cX7_swaps 24 = .ok (.getfield 9, 3) := by decide +kernel
theorem dX7_swaps_27 : decode cX7_swaps 27 = .ok (.bipush 6, 2) := by decide +kernel
theorem dX7_swaps_29 : decode cX7_swaps 29 = .ok (.iaload, 1) := by decide +kernel
theorem dX7_swaps_30 : decode cX7_swaps 30 = .ok (.ireturn, 1) := by decide +kernel
theorem dX7_comes_0 : decode cX7_comes 0 = .ok (.aload_n 0, 1) := by decide +kernel
theorem dX7_comes_1 : decode cX7_comes 1 = .ok (.iconst 0, 1) := by decide +kernel
theorem dX7_comes_2 : decode cX7_comes 2 = .ok (.putfield 58, 3) := by decide +kernel
theorem dX7_comes_5 : decode cX7_comes 5 = .ok (.aload_n 0, 1) := by decide +kernel
theorem dX7_comes_6 : decode cX7_comes 6 = .ok (.iload_n 1, 1) := by decide +kernel
theorem dX7_comes_7 : decode cX7_comes 7 = .ok (.iload_n 2, 1) := by decide +kernel
theorem dX7_comes_8 : decode cX7_comes 8 = .ok (.iload_n 3, 1) := by decide +kernel
theorem dX7_comes_9 : decode cX7_comes 9 = .ok (.invokevirtual 267, 3) := by decide +kernel
theorem dX7_comes_12 : decode cX7_comes 12 = .ok (.istore 4, 2) := by decide +kernel
theorem dX7_comes_14 : decode cX7_comes 14 = .ok (.iload 4, 2) := by decide +kernel
theorem dX7_comes_16 : decode cX7_comes 16 = .ok (.ifCond .ge 6, 3) := by decide +kernel
theorem dX7_comes_19 : decode cX7_comes 19 = .ok (.iload 4, 2) := by decide +kernel
theorem dX7_comes_21 : decode cX7_comes 21 = .ok (.ireturn, 1) := by decide +kernel
theorem dX7_comes_22 : decode cX7_comes 22 = .ok (.aload_n 0, 1) := by decide +kernel
theorem dX7_comes_23 : decode cX7_comes 23 = .ok (.invokevirtual 107, 3) := by decide +kernel
theorem dX7_comes_26 : decode cX7_comes 26 = .ok (.aload_n 0, 1) := by decide +kernel
theorem dX7_comes_27 : decode cX7_comes 27 = .ok (.iload_n 1, 1) := by decide +kernel
theorem dX7_comes_28 : decode cX7_comes 28 = .ok (.iload_n 2, 1) := by decide +kernel
theorem dX7_comes_29 : decode cX7_comes 29 = .ok (.iload_n 3, 1) := by decide +kernel
theorem dX7_comes_30 : decode cX7_comes 30 = .ok (.invokevirtual 270, 3) := by decide +kernel
theorem dX7_comes_33 : decode cX7_comes 33 = .ok (.aload_n 0, 1) := by decide +kernel
theorem dX7_comes_34 : decode cX7_comes 34 = .ok (.getfield 9, 3) := by decide +kernel
theorem dX7_comes_37 : decode cX7_comes 37 = .ok (.iconst 5, 1) := by decide +kernel
theorem dX7_comes_38 : decode cX7_comes 38 = .ok (.iload_n 1, 1) := by decide +kernel
theorem dX7_comes_39 : decode cX7_comes 39 = .ok (.iadd, 1) := by decide +kernel
theorem dX7_comes_40 : decode cX7_comes 40 = .ok (.iaload, 1) := by decide +kernel
theorem dX7_comes_41 : decode cX7_comes 41 = .ok (.ireturn, 1) := by decide +kernel
theorem dX7_goes_0 : decode cX7_goes 0 = .ok (.aload_n 0, 1) := by decide +kernel
theorem dX7_goes_1 : decode cX7_goes 1 = .ok (.iconst 0, 1) := by decide +kernel
theorem dX7_goes_2 : decode cX7_goes 2 = .ok (.putfield 58, 3) := by decide +kernel
theorem dX7_goes_5 : decode cX7_goes 5 = .ok (.aload_n 0, 1) := by decide +kernel
theorem dX7_goes_6 : decode cX7_goes 6 = .ok (.iload_n 1, 1) := by decide +kernel
theorem dX7_goes_7 : decode cX7_goes 7 = .ok (.iload_n 2, 1) := by decide +kernel
theorem dX7_goes_8 : decode cX7_goes 8 = .ok (.invokevirtual 121, 3) := by decide +kernel
theorem dX7_goes_11 : decode cX7_goes 11 = .ok (.ifCond .ne 5, 3) := by decide +kernel
theorem dX7_goes_14 : decode cX7_goes 14 = .ok (.iconst (-1), 1) := by decide +kernel
theorem dX7_goes_15 : decode cX7_goes 15 = .ok (.ireturn, 1) := by decide +kernel
theorem dX7_goes_16 : decode cX7_goes 16 = .ok (.aload_n 0, 1) := by decide +kernel
theorem dX7_goes_17 : decode cX7_goes 17 = .ok (.invokevirtual 107, 3) := by decide +kernel
theorem dX7_goes_20 : decode cX7_goes 20 = .ok (.aload_n 0, 1) := by decide +kernel
theorem dX7_goes_21 : decode cX7_goes 21 = .ok (.iload_n 1, 1) := by decide +kernel
theorem dX7_goes_22 : decode cX7_goes 22 = .ok (.iload_n 2, 1) := by decide +kernel
theorem dX7_goes_23 : decode cX7_goes 23 = .ok (.invokevirtual 273, 3) := by decide +kernel
theorem dX7_goes_26 : decode cX7_goes 26 = .ok (.aload_n 0, 1) := by decide +kernel
theorem dX7_goes_27 : decode cX7_goes 27 = .ok (.getfield 9, 3) := by decide +kernel
theorem dX7_goes_30 : decode cX7_goes 30 = .ok (.iconst 5, 1) := by decide +kernel
theorem dX7_goes_31 : decode cX7_goes 31 = .ok (.iload_n 1, 1) := by decide +kernel
theorem dX7_goes_32 : decode cX7_goes 32 = .ok (.iadd, 1) := by decide +kernel
theorem dX7_goes_33 : decode cX7_goes 33 = .ok (.iaload, 1) := by decide +kernel
theorem dX7_goes_34 : decode cX7_goes 34 = .ok (.ireturn, 1) := by decide +kernel
theorem dX7_readAct_0 : decode cX7_readAct 0 = .ok (.aload_n 0, 1) := by decide +kernel
theorem dX7_readAct_1 : decode cX7_readAct 1 = .ok (.invokevirtual 89, 3) := by decide +kernel
theorem dX7_readAct_4 : decode cX7_readAct 4 = .ok (.istore_n 2, 1) := by decide +kernel
theorem dX7_readAct_5 : decode cX7_readAct 5 = .ok (.iload_n 2, 1) := by decide +kernel
theorem dX7_readAct_6 : decode cX7_readAct 6 = .ok (.iconst (-1), 1) := by decide +kernel
theorem dX7_readAct_7 : decode cX7_readAct 7 = .ok (.if_icmp .eq 14, 3) := by decide +kernel
theorem dX7_readAct_10 : decode cX7_readAct 10 = .ok (.ldc_w 300, 3) := by decide +kernel
theorem dX7_readAct_13 : decode cX7_readAct 13 = .ok (.iload_n 2, 1) := by decide +kernel
theorem dX7_readAct_14 : decode cX7_readAct 14 = .ok (.i2c, 1) := by decide +kernel
theorem dX7_readAct_15 : decode cX7_readAct 15 = .ok (.invokevirtual 302, 3) := by decide +kernel
theorem dX7_readAct_18 : decode cX7_readAct 18 = .ok (.ifCond .ge 12, 3) := by decide +kernel
theorem dX7_readAct_21 : decode cX7_readAct 21 = .ok (.aload_n 0, 1) := by decide +kernel
theorem dX7_readAct_22 : decode cX7_readAct 22 = .ok (.aload_n 0, 1) := by decide +kernel
theorem dX7_readAct_23 : decode cX7_readAct 23 = .ok (.getfield 79, 3) := by decide +kernel
theorem dX7_readAct_26 : decode cX7_readAct 26 = .ok (.invokevirtual 93, 3) := by decide +kernel
theorem dX7_readAct_29 : decode cX7_readAct 29 = .ok (.return_, 1) := by decide +kernel
theorem dX7_readAct_30 : decode cX7_readAct 30 = .ok (.aload_n 0, 1) := by decide +kernel
theorem dX7_readAct_31 : decode cX7_readAct 31 = .ok (.dup, 1) := by decide +kernel
theorem dX7_readAct_32 : decode cX7_readAct 32 = .ok (.getfield 79, 3) := by decide +kernel
theorem dX7_readAct_35 : decode cX7_readAct 35 = .ok (.iconst 1, 1) := by decide +kernel
theorem dX7_readAct_36 : decode cX7_readAct 36 = .ok (.iadd, 1) := by decide +kernel
theorem dX7_readAct_37 : decode cX7_readAct 37 = .ok (.putfield 79, 3) := by decide +kernel
theorem dX7_readAct_40 : decode cX7_readAct 40 = .ok (.aload_n 0, 1) := by decide +kernel
theorem dX7_readAct_41 : decode cX7_readAct 41 = .ok (.getfield 21, 3) := by decide +kernel
theorem dX7_readAct_44 : decode cX7_readAct 44 = .ok (.iload_n 1, 1) := by decide +kernel
theorem dX7_readAct_45 : decode cX7_readAct 45 = .ok (.iload_n 2, 1) := by decide +kernel
theorem dX7_readAct_46 : decode cX7_readAct 46 = .ok (.iastore, 1) := by decide +kernel
theorem dX7_readAct_47 : decode cX7_readAct 47 = .ok (.iload_n 2, 1) := by decide +kernel
theorem dX7_readAct_48 : decode cX7_readAct 48 = .ok (.bipush 120, 2) := by decide +kernel
theorem dX7_readAct_50 : decode cX7_readAct 50 = .ok (.if_icmp .ne 4, 3) := by decide +kernel
theorem dX7_readAct_53 : decode cX7_readAct 53 = .ok (.return_, 1) := by decide +kernel
theorem dX7_readAct_54 : decode cX7_readAct 54 = .ok (.iload_n 2, 1) := by decide +kernel
theorem dX7_readAct_55 : decode cX7_readAct 55 = .ok (.bipush 119, 2) := by decide +kernel
theorem dX7_readAct_57 : decode cX7_readAct 57 = .ok (.if_icmp .eq 9, 3) := by decide +kernel
theorem dX7_readAct_60 : decode cX7_readAct 60 = .ok (.iload_n 2, 1) := by decide +kernel
theorem dX7_readAct_61 : decode cX7_readAct 61 = .ok (.bipush 104, 2) := by decide +kernel
theorem dX7_readAct_63 : decode cX7_readAct 63 = .ok (.if_icmp .ne 7, 3) := by decide +kernel
theorem dX7_readAct_66 : decode cX7_readAct 66 = .ok (.iconst 1, 1) := by decide +kernel
theorem dX7_readAct_67 : decode cX7_readAct 67 = .ok (.goto 4, 3) := by decide +kernel
theorem dX7_readAct_70 : decode cX7_readAct 70 = .ok (.iconst 0, 1) := by decide +kernel
theorem dX7_readAct_71 : decode cX7_readAct 71 = .ok (.istore_n 3, 1) := by decide +kernel
theorem dX7_readAct_72 : decode cX7_readAct 72 = .ok (.aload_n 0, 1) := by decide +kernel
theorem dX7_readAct_73 : decode cX7_readAct 73 = .ok (.getfield 21, 3) := by decide +kernel
theorem dX7_readAct_76 : decode cX7_readAct 76 = .ok (.iload_n 1, 1) := by decide +kernel
theorem dX7_readAct_77 : decode cX7_readAct 77 = .ok (.iconst 1, 1) := by decide +kernel
theorem dX7_readAct_78 : decode cX7_readAct 78 = .ok (.iadd, 1) := by decide +kernel
theorem dX7_readAct_79 : decode cX7_readAct 79 = .ok (.aload_n 0, 1) := by decide +kernel
theorem dX7_readAct_80 : decode cX7_readAct 80 = .ok (.iload_n 3, 1) := by decide +kernel
theorem dX7_readAct_81 : decode cX7_readAct 81 = .ok (.ifCond .eq 7, 3) := by decide +kernel
theorem dX7_readAct_84 : decode cX7_readAct 84 = .ok (.iconst 2, 1) := by decide +kernel
theorem dX7_readAct_85 : decode cX7_readAct 85 = .ok (.goto 4, 3) := by decide +kernel
theorem dX7_readAct_88 : decode cX7_readAct 88 = .ok (.iconst 1, 1) := by decide +kernel
theorem dX7_readAct_89 : decode cX7_readAct 89 = .ok (.invokevirtual 117, 3) := by decide +kernel
theorem dX7_readAct_92 : decode cX7_readAct 92 = .ok (.iastore, 1) := by decide +kernel
theorem dX7_readAct_93 : decode cX7_readAct 93 = .ok (.iload_n 3, 1) := by decide +kernel
theorem dX7_readAct_94 : decode cX7_readAct 94 = .ok (.ifCond .ne 9, 3) := by decide +kernel
theorem dX7_readAct_97 : decode cX7_readAct 97 = .ok (.iload_n 2, 1) := by decide +kernel
theorem dX7_readAct_98 : decode cX7_readAct 98 = .ok (.bipush 117, 2) := by decide +kernel
theorem dX7_readAct_100 : decode cX7_readAct 100 = .ok (.if_icmp .ne 4, 3) := by decide +kernel
theorem dX7_readAct_103 : decode cX7_readAct 103 = .ok (.return_, 1) := by decide +kernel
theorem dX7_readAct_104 : decode cX7_readAct 104 = .ok (.aload_n 0, 1) := by decide +kernel
theorem dX7_readAct_105 : decode cX7_readAct 105 = .ok (.getfield 21, 3) := by decide +kernel
theorem dX7_readAct_108 : decode cX7_readAct 108 = .ok (.iload_n 1, 1) := by decide +kernel
theorem dX7_readAct_109 : decode cX7_readAct 109 = .ok (.iconst 2, 1) := by decide +kernel
theorem dX7_readAct_110 : decode cX7_readAct 110 = .ok (.iadd, 1) := by decide +kernel
theorem dX7_readAct_111 : decode cX7_readAct 111 = .ok (.aload_n 0, 1) := by decide +kernel
theorem dX7_readAct_112 : decode cX7_readAct 112 = .ok (.iload_n 2, 1) := by decide +kernel
theorem dX7_readAct_113 : decode cX7_readAct 113 = .ok (.bipush 98, 2) := by decide +kernel
theorem dX7_readAct_115 : decode cX7_readAct 115 = .ok (.if_icmp .ne 7, 3) := by decide +kernel
theorem dX7_readAct_118 : decode cX7_readAct 118 = .ok (.iconst 1, 1) := by decide +kernel
theorem dX7_readAct_119 : decode cX7_readAct 119 = .ok (.goto 4, 3) := by decide +kernel
theorem dX7_readAct_122 : decode cX7_readAct 122 = .ok (.iconst 2, 1) := by decide +kernel
theorem dX7_readAct_123 : decode cX7_readAct 123 = .ok (.invokevirtual 117, 3) := by decide +kernel
theorem dX7_readAct_126 : decode cX7_readAct 126 = .ok (.iastore, 1) := by decide +kernel
theorem dX7_readAct_127 : decode cX7_readAct 127 = .ok (.iload_n 2, 1) := by decide +kernel
theorem dX7_readAct_128 : decode cX7_readAct 128 = .ok (.bipush 112, 2) := by decide +kernel
theorem dX7_readAct_130 : decode cX7_readAct 130 = .ok (.if_icmp .ne 16, 3) := by decide +kernel
theorem dX7_readAct_133 : decode cX7_readAct 133 = .ok (.aload_n 0, 1) := by decide +kernel
theorem dX7_readAct_134 : decode cX7_readAct 134 = .ok (.getfield 21, 3) := by decide +kernel
theorem dX7_readAct_137 : decode cX7_readAct 137 = .ok (.iload_n 1, 1) := by decide +kernel
theorem dX7_readAct_138 : decode cX7_readAct 138 = .ok (.iconst 3, 1) := by decide +kernel
theorem dX7_readAct_139 : decode cX7_readAct 139 = .ok (.iadd, 1) := by decide +kernel
theorem dX7_readAct_140 : decode cX7_readAct 140 = .ok (.aload_n 0, 1) := by decide +kernel
theorem dX7_readAct_141 : decode cX7_readAct 141 = .ok (.iconst 2, 1) := by decide +kernel
theorem dX7_readAct_142 : decode cX7_readAct 142 = .ok (.invokevirtual 117, 3) := by decide +kernel
theorem dX7_readAct_145 : decode cX7_readAct 145 = .ok (.iastore, 1) := by decide +kernel
theorem dX7_readAct_146 : decode cX7_readAct 146 = .ok (.iload_n 2, 1) := by decide +kernel
theorem dX7_readAct_147 : decode cX7_readAct 147 = .ok (.bipush 99, 2) := by decide +kernel
theorem dX7_readAct_149 : decode cX7_readAct 149 = .ok (.if_icmp .ne 16, 3) := by decide +kernel
theorem dX7_readAct_152 : decode cX7_readAct 152 = .ok (.aload_n 0, 1) := by decide +kernel
theorem dX7_readAct_153 : decode cX7_readAct 153 = .ok (.getfield 21, 3) := by decide +kernel
theorem dX7_readAct_156 : decode cX7_readAct 156 = .ok (.iload_n 1, 1) := by decide +kernel
theorem dX7_readAct_157 : decode cX7_readAct 157 = .ok (.iconst 3, 1) := by decide +kernel
theorem dX7_readAct_158 : decode cX7_readAct 158 = .ok (.iadd, 1) := by decide +kernel
theorem dX7_readAct_159 : decode cX7_readAct 159 = .ok (.aload_n 0, 1) := by decide +kernel
theorem dX7_readAct_160 : decode cX7_readAct 160 = .ok (.iconst 1, 1) := by decide +kernel
theorem dX7_readAct_161 : decode cX7_readAct 161 = .ok (.invokevirtual 117, 3) := by decide +kernel
theorem dX7_readAct_164 : decode cX7_readAct 164 = .ok (.iastore, 1) := by decide +kernel
theorem dX7_readAct_165 : decode cX7_readAct 165 = .ok (.return_, 1) := by decide +kernel
theorem dX7_act_0 : decode cX7_act 0 = .ok (.aload_n 0, 1) := by decide +kernel
theorem dX7_act_1 : decode cX7_act 1 = .ok (.getfield 21, 3) := by decide +kernel
theorem dX7_act_4 : decode cX7_act 4 = .ok (.iload_n 1, 1) := by decide +kernel
theorem dX7_act_5 : decode cX7_act 5 = .ok (.iconst 1, 1) := by decide +kernel
theorem dX7_act_6 : decode cX7_act 6 = .ok (.iadd, 1) := by decide +kernel
theorem dX7_act_7 : decode cX7_act 7 = .ok (.iaload, 1) := by decide +kernel
theorem dX7_act_8 : decode cX7_act 8 = .ok (.istore_n 2, 1) := by decide +kernel
theorem dX7_act_9 : decode cX7_act 9 = .ok (.aload_n 0, 1) := by decide +kernel
theorem dX7_act_10 : decode cX7_act 10 = .ok (.getfield 21, 3) := by decide +kernel
theorem dX7_act_13 : decode cX7_act 13 = .ok (.iload_n 1, 1) := by decide +kernel
theorem dX7_act_14 : decode cX7_act 14 = .ok (.iconst 2, 1) := by decide +kernel
theorem dX7_act_15 : decode cX7_act 15 = .ok (.iadd, 1) := by decide +kernel
theorem dX7_act_16 : decode cX7_act 16 = .ok (.iaload, 1) := by decide +kernel
theorem dX7_act_17 : decode cX7_act 17 = .ok (.istore_n 3, 1) := by decide +kernel
theorem dX7_act_18 : decode cX7_act 18 = .ok (.aload_n 0, 1) := by decide +kernel
theorem dX7_act_19 : decode cX7_act 19 = .ok (.getfield 21, 3) := by decide +kernel
theorem dX7_act_22 : decode cX7_act 22 = .ok (.iload_n 1, 1) := by decide +kernel
theorem dX7_act_23 : decode cX7_act 23 = .ok (.iconst 3, 1) := by decide +kernel
theorem dX7_act_24 : decode cX7_act 24 = .ok (.iadd, 1) := by decide +kernel
theorem dX7_act_25 : decode cX7_act 25 = .ok (.iaload, 1) := by decide +kernel
theorem dX7_act_26 : decode cX7_act 26 = .ok (.istore 4, 2) := by decide +kernel
theorem dX7_act_28 : decode cX7_act 28 = .ok (.aload_n 0, 1) := by decide +kernel
theorem dX7_act_29 : decode cX7_act 29 = .ok (.getfield 21, 3) := by decide +kernel
theorem dX7_act_32 : decode cX7_act 32 = .ok (.iload_n 1, 1) := by decide +kernel
theorem dX7_act_33 : decode cX7_act 33 = .ok (.iaload, 1) := by decide +kernel
theorem dX7_act_34 : decode cX7_act 34 = .ok (.tableswitch 230 99 120 #[188, 230, 230, 230, 211, 102, 230, 230, 230, 230, 230, 230, 230, 165, 230, 230, 230, 230, 102, 230, 102, 160], 102) := by decide +kernel
theorem dX7_act_136 : decode cX7_act 136 = .ok (.aload_n 0, 1) := by decide +kernel
theorem dX7_act_137 : decode cX7_act 137 = .ok (.getfield 21, 3) := by decide +kernel
theorem dX7_act_140 : decode cX7_act 140 = .ok (.iload_n 1, 1) := by decide +kernel
theorem dX7_act_141 : decode cX7_act 141 = .ok (.iaload, 1) := by decide +kernel
theorem dX7_act_142 : decode cX7_act 142 = .ok (.bipush 119, 2) := by decide +kernel
theorem dX7_act_144 : decode cX7_act 144 = .ok (.if_icmp .ne 7, 3) := by decide +kernel
theorem dX7_act_147 : decode cX7_act 147 = .ok (.iconst 0, 1) := by decide +kernel
theorem dX7_act_148 : decode cX7_act 148 = .ok (.goto 19, 3) := by decide +kernel
theorem dX7_act_151 : decode cX7_act 151 = .ok (.aload_n 0, 1) := by decide +kernel
theorem dX7_act_152 : decode cX7_act 152 = .ok (.getfield 21, 3) := by decide +kernel
theorem dX7_act_155 : decode cX7_act 155 = .ok (.iload_n 1, 1) := by decide +kernel
theorem dX7_act_156 : decode cX7_act 156 = .ok (.iaload, 1) := by decide +kernel
theorem dX7_act_157 : decode cX7_act 157 = .ok (.bipush 104, 2) := by decide +kernel
theorem dX7_act_159 : decode cX7_act 159 = .ok (.if_icmp .ne 7, 3) := by decide +kernel
theorem dX7_act_162 : decode cX7_act 162 = .ok (.iconst 1, 1) := by decide +kernel
theorem dX7_act_163 : decode cX7_act 163 = .ok (.goto 4, 3) := by decide +kernel
theorem dX7_act_166 : decode cX7_act 166 = .ok (.iconst 2, 1) := by decide +kernel
theorem dX7_act_167 : decode cX7_act 167 = .ok (.istore 5, 2) := by decide +kernel
theorem dX7_act_169 : decode cX7_act 169 = .ok (.aload_n 0, 1) := by decide +kernel
theorem dX7_act_170 : decode cX7_act 170 = .ok (.iload 5, 2) := by decide +kernel
theorem dX7_act_172 : decode cX7_act 172 = .ok (.iload_n 2, 1) := by decide +kernel
theorem dX7_act_173 : decode cX7_act 173 = .ok (.invokevirtual 288, 3) := by decide +kernel
theorem dX7_act_176 : decode cX7_act 176 = .ok (.ifCond .ge 5, 3) := by decide +kernel
theorem dX7_act_179 : decode cX7_act 179 = .ok (.iconst 0, 1) := by decide +kernel
theorem dX7_act_180 : decode cX7_act 180 = .ok (.ireturn, 1) := by decide +kernel
theorem dX7_act_181 : decode cX7_act 181 = .ok (.aload_n 0, 1) := by decide +kernel
theorem dX7_act_182 : decode cX7_act 182 = .ok (.getfield 9, 3) := by decide +kernel
theorem dX7_act_185 : decode cX7_act 185 = .ok (.iload 5, 2) := by decide +kernel
theorem dX7_act_187 : decode cX7_act 187 = .ok (.invokestatic 285, 3) := by decide +kernel
theorem dX7_act_190 : decode cX7_act 190 = .ok (.iload_n 2, 1) := by decide +kernel
theorem dX7_act_191 : decode cX7_act 191 = .ok (.iastore, 1) := by decide +kernel
theorem dX7_act_192 : decode cX7_act 192 = .ok (.iconst 1, 1) := by decide +kernel
theorem dX7_act_193 : decode cX7_act 193 = .ok (.ireturn, 1) := by decide +kernel
theorem dX7_act_194 : decode cX7_act 194 = .ok (.aload_n 0, 1) := by decide +kernel
theorem dX7_act_195 : decode cX7_act 195 = .ok (.invokevirtual 297, 3) := by decide +kernel
theorem dX7_act_198 : decode cX7_act 198 = .ok (.ireturn, 1) := by decide +kernel
theorem dX7_act_199 : decode cX7_act 199 = .ok (.aload_n 0, 1) := by decide +kernel
theorem dX7_act_200 : decode cX7_act 200 = .ok (.iload_n 2, 1) := by decide +kernel
theorem dX7_act_201 : decode cX7_act 201 = .ok (.iload_n 3, 1) := by decide +kernel
theorem dX7_act_202 : decode cX7_act 202 = .ok (.iload 4, 2) := by decide +kernel
theorem dX7_act_204 : decode cX7_act 204 = .ok (.invokevirtual 291, 3) := by decide +kernel
theorem dX7_act_207 : decode cX7_act 207 = .ok (.ifCond .ge 5, 3) := by decide +kernel
theorem dX7_act_210 : decode cX7_act 210 = .ok (.iconst 0, 1) := by decide +kernel
theorem dX7_act_211 : decode cX7_act 211 = .ok (.ireturn, 1) := by decide +kernel
theorem dX7_act_212 : decode cX7_act 212 = .ok (.aload_n 0, 1) := by decide +kernel
theorem dX7_act_213 : decode cX7_act 213 = .ok (.iload_n 2, 1) := by decide +kernel
theorem dX7_act_214 : decode cX7_act 214 = .ok (.iload_n 3, 1) := by decide +kernel
theorem dX7_act_215 : decode cX7_act 215 = .ok (.iload 4, 2) := by decide +kernel
theorem dX7_act_217 : decode cX7_act 217 = .ok (.invokevirtual 233, 3) := by decide +kernel
theorem dX7_act_220 : decode cX7_act 220 = .ok (.iconst 1, 1) := by decide +kernel
theorem dX7_act_221 : decode cX7_act 221 = .ok (.ireturn, 1) := by decide +kernel
theorem dX7_act_222 : decode cX7_act 222 = .ok (.aload_n 0, 1) := by decide +kernel
theorem dX7_act_223 : decode cX7_act 223 = .ok (.iload_n 2, 1) := by decide +kernel
theorem dX7_act_224 : decode cX7_act 224 = .ok (.iload_n 3, 1) := by decide +kernel
theorem dX7_act_225 : decode cX7_act 225 = .ok (.iload 4, 2) := by decide +kernel
theorem dX7_act_227 : decode cX7_act 227 = .ok (.invokevirtual 267, 3) := by decide +kernel
theorem dX7_act_230 : decode cX7_act 230 = .ok (.ifCond .ge 5, 3) := by decide +kernel
theorem dX7_act_233 : decode cX7_act 233 = .ok (.iconst 0, 1) := by decide +kernel
theorem dX7_act_234 : decode cX7_act 234 = .ok (.ireturn, 1) := by decide +kernel
theorem dX7_act_235 : decode cX7_act 235 = .ok (.aload_n 0, 1) := by decide +kernel
theorem dX7_act_236 : decode cX7_act 236 = .ok (.iload_n 2, 1) := by decide +kernel
theorem dX7_act_237 : decode cX7_act 237 = .ok (.iload_n 3, 1) := by decide +kernel
theorem dX7_act_238 : decode cX7_act 238 = .ok (.iload 4, 2) := by decide +kernel
theorem dX7_act_240 : decode cX7_act 240 = .ok (.invokevirtual 270, 3) := by decide +kernel
theorem dX7_act_243 : decode cX7_act 243 = .ok (.iconst 1, 1) := by decide +kernel
theorem dX7_act_244 : decode cX7_act 244 = .ok (.ireturn, 1) := by decide +kernel
theorem dX7_act_245 : decode cX7_act 245 = .ok (.aload_n 0, 1) := by decide +kernel
theorem dX7_act_246 : decode cX7_act 246 = .ok (.iload_n 2, 1) := by decide +kernel
theorem dX7_act_247 : decode cX7_act 247 = .ok (.iload_n 3, 1) := by decide +kernel
theorem dX7_act_248 : decode cX7_act 248 = .ok (.invokevirtual 121, 3) := by decide +kernel
theorem dX7_act_251 : decode cX7_act 251 = .ok (.ifCond .ne 5, 3) := by decide +kernel
theorem dX7_act_254 : decode cX7_act 254 = .ok (.iconst 0, 1) := by decide +kernel
theorem dX7_act_255 : decode cX7_act 255 = .ok (.ireturn, 1) := by decide +kernel
theorem dX7_act_256 : decode cX7_act 256 = .ok (.aload_n 0, 1) := by decide +kernel
theorem dX7_act_257 : decode cX7_act 257 = .ok (.iload_n 2, 1) := by decide +kernel
theorem dX7_act_258 : decode cX7_act 258 = .ok (.iload_n 3, 1) := by decide +kernel
theorem dX7_act_259 : decode cX7_act 259 = .ok (.invokevirtual 273, 3) := by decide +kernel
theorem dX7_act_262 : decode cX7_act 262 = .ok (.iconst 1, 1) := by decide +kernel
theorem dX7_act_263 : decode cX7_act 263 = .ok (.ireturn, 1) := by decide +kernel
theorem dX7_act_264 : decode cX7_act 264 = .ok (.aload_n 0, 1) := by decide +kernel
theorem dX7_act_265 : decode cX7_act 265 = .ok (.iload_n 2, 1) := by decide +kernel
theorem dX7_act_266 : decode cX7_act 266 = .ok (.iload_n 3, 1) := by decide +kernel
theorem dX7_act_267 : decode cX7_act 267 = .ok (.invokevirtual 294, 3) := by decide +kernel
theorem dX7_act_270 : decode cX7_act 270 = .ok (.ifCond .ge 5, 3) := by decide +kernel
theorem dX7_act_273 : decode cX7_act 273 = .ok (.iconst 0, 1) := by decide +kernel
theorem dX7_act_274 : decode cX7_act 274 = .ok (.ireturn, 1) := by decide +kernel
theorem dX7_act_275 : decode cX7_act 275 = .ok (.aload_n 0, 1) := by decide +kernel
theorem dX7_act_276 : decode cX7_act 276 = .ok (.aload_n 0, 1) := by decide +kernel
theorem dX7_act_277 : decode cX7_act 277 = .ok (.getfield 36, 3) := by decide +kernel
theorem dX7_act_280 : decode cX7_act 280 = .ok (.iconst 0, 1) := by decide +kernel
theorem dX7_act_281 : decode cX7_act 281 = .ok (.iaload, 1) := by decide +kernel
theorem dX7_act_282 : decode cX7_act 282 = .ok (.aload_n 0, 1) := by decide +kernel
theorem dX7_act_283 : decode cX7_act 283 = .ok (.getfield 36, 3) := by decide +kernel
theorem dX7_act_286 : decode cX7_act 286 = .ok (.iconst 1, 1) := by decide +kernel
theorem dX7_act_287 : decode cX7_act 287 = .ok (.iaload, 1) := by decide +kernel
theorem dX7_act_288 : decode cX7_act 288 = .ok (.aload_n 0, 1) := by decide +kernel
theorem dX7_act_289 : decode cX7_act 289 = .ok (.getfield 36, 3) := by decide +kernel
theorem dX7_act_292 : decode cX7_act 292 = .ok (.iconst 2, 1) := by decide +kernel
theorem dX7_act_293 : decode cX7_act 293 = .ok (.iaload, 1) := by decide +kernel
theorem dX7_act_294 : decode cX7_act 294 = .ok (.invokevirtual 233, 3) := by decide +kernel
theorem dX7_act_297 : decode cX7_act 297 = .ok (.iconst 1, 1) := by decide +kernel
theorem dX7_act_298 : decode cX7_act 298 = .ok (.ireturn, 1) := by decide +kernel
theorem dX7_day_0 : decode cX7_day 0 = .ok (.aload_n 0, 1) := by decide +kernel
theorem dX7_day_1 : decode cX7_day 1 = .ok (.iconst 0, 1) := by decide +kernel
theorem dX7_day_2 : decode cX7_day 2 = .ok (.putfield 58, 3) := by decide +kernel
theorem dX7_day_5 : decode cX7_day 5 = .ok (.aload_n 0, 1) := by decide +kernel
theorem dX7_day_6 : decode cX7_day 6 = .ok (.invokevirtual 101, 3) := by decide +kernel
theorem dX7_day_9 : decode cX7_day 9 = .ok (.iconst 0, 1) := by decide +kernel
theorem dX7_day_10 : decode cX7_day 10 = .ok (.istore_n 1, 1) := by decide +kernel
theorem dX7_day_11 : decode cX7_day 11 = .ok (.aload_n 0, 1) := by decide +kernel
theorem dX7_day_12 : decode cX7_day 12 = .ok (.invokevirtual 85, 3) := by decide +kernel
theorem dX7_day_15 : decode cX7_day 15 = .ok (.ifCond .eq 27, 3) := by decide +kernel
theorem dX7_day_18 : decode cX7_day 18 = .ok (.aload_n 0, 1) := by decide +kernel
theorem dX7_day_19 : decode cX7_day 19 = .ok (.getfield 79, 3) := by decide +kernel
theorem dX7_day_22 : decode cX7_day 22 = .ok (.aload_n 0, 1) := by decide +kernel
theorem dX7_day_23 : decode cX7_day 23 = .ok (.getfield 76, 3) := by decide +kernel
theorem dX7_day_26 : decode cX7_day 26 = .ok (.if_icmp .ge 16, 3) := by decide +kernel
theorem dX7_day_29 : decode cX7_day 29 = .ok (.aload_n 0, 1) := by decide +kernel
theorem dX7_day_30 : decode cX7_day 30 = .ok (.iconst 4, 1) := by decide +kernel
theorem dX7_day_31 : decode cX7_day 31 = .ok (.iload_n 1, 1) := by decide +kernel
theorem dX7_day_32 : decode cX7_day 32 = .ok (.imul, 1) := by decide +kernel
theorem dX7_day_33 : decode cX7_day 33 = .ok (.invokevirtual 307, 3) := by decide +kernel
theorem dX7_day_36 : decode cX7_day 36 = .ok (.iinc 1 1, 3) := by decide +kernel
theorem dX7_day_39 : decode cX7_day 39 = .ok (.goto (-28), 3) := by decide +kernel
theorem dX7_day_42 : decode cX7_day 42 = .ok (.aload_n 0, 1) := by decide +kernel
theorem dX7_day_43 : decode cX7_day 43 = .ok (.invokevirtual 104, 3) := by decide +kernel
theorem dX7_day_46 : decode cX7_day 46 = .ok (.ifCond .ne 10, 3) := by decide +kernel
theorem dX7_day_49 : decode cX7_day 49 = .ok (.iconst (-1), 1) := by decide +kernel
theorem dX7_day_50 : decode cX7_day 50 = .ok (.aload_n 0, 1) := by decide +kernel
theorem dX7_day_51 : decode cX7_day 51 = .ok (.getfield 82, 3) := by decide +kernel
theorem dX7_day_54 : decode cX7_day 54 = .ok (.isub, 1) := by decide +kernel
theorem dX7_day_55 : decode cX7_day 55 = .ok (.ireturn, 1) := by decide +kernel
theorem dX7_day_56 : decode cX7_day 56 = .ok (.aload_n 0, 1) := by decide +kernel
theorem dX7_day_57 : decode cX7_day 57 = .ok (.invokevirtual 279, 3) := by decide +kernel
theorem dX7_day_60 : decode cX7_day 60 = .ok (.iconst 0, 1) := by decide +kernel
theorem dX7_day_61 : decode cX7_day 61 = .ok (.istore_n 2, 1) := by decide +kernel
theorem dX7_day_62 : decode cX7_day 62 = .ok (.iload_n 2, 1) := by decide +kernel
theorem dX7_day_63 : decode cX7_day 63 = .ok (.iload_n 1, 1) := by decide +kernel
theorem dX7_day_64 : decode cX7_day 64 = .ok (.if_icmp .ge 19, 3) := by decide +kernel
theorem dX7_day_67 : decode cX7_day 67 = .ok (.aload_n 0, 1) := by decide +kernel
theorem dX7_day_68 : decode cX7_day 68 = .ok (.iconst 4, 1) := by decide +kernel
theorem dX7_day_69 : decode cX7_day 69 = .ok (.iload_n 2, 1) := by decide +kernel
theorem dX7_day_70 : decode cX7_day 70 = .ok (.imul, 1) := by decide +kernel
theorem dX7_day_71 : decode cX7_day 71 = .ok (.invokevirtual 310, 3) := by decide +kernel
theorem dX7_day_74 : decode cX7_day 74 = .ok (.ifCond .eq 9, 3) := by decide +kernel
theorem dX7_day_77 : decode cX7_day 77 = .ok (.iinc 2 1, 3) := by decide +kernel
theorem dX7_day_80 : decode cX7_day 80 = .ok (.goto (-18), 3) := by decide +kernel
theorem dX7_day_83 : decode cX7_day 83 = .ok (.iload_n 2, 1) := by decide +kernel
theorem dX7_day_84 : decode cX7_day 84 = .ok (.ifCond .le 7, 3) := by decide +kernel
theorem dX7_day_87 : decode cX7_day 87 = .ok (.aload_n 0, 1) := by decide +kernel
theorem dX7_day_88 : decode cX7_day 88 = .ok (.invokevirtual 282, 3) := by decide +kernel
theorem dX7_day_91 : decode cX7_day 91 = .ok (.aload_n 0, 1) := by decide +kernel
theorem dX7_day_92 : decode cX7_day 92 = .ok (.iconst 0, 1) := by decide +kernel
theorem dX7_day_93 : decode cX7_day 93 = .ok (.putfield 62, 3) := by decide +kernel
theorem dX7_day_96 : decode cX7_day 96 = .ok (.aload_n 0, 1) := by decide +kernel
theorem dX7_day_97 : decode cX7_day 97 = .ok (.iload_n 2, 1) := by decide +kernel
theorem dX7_day_98 : decode cX7_day 98 = .ok (.iload_n 1, 1) := by decide +kernel
theorem dX7_day_99 : decode cX7_day 99 = .ok (.if_icmp .ge 7, 3) := by decide +kernel
theorem dX7_day_102 : decode cX7_day 102 = .ok (.lconst 1, 1) := by decide +kernel
theorem dX7_day_103 : decode cX7_day 103 = .ok (.goto 4, 3) := by decide +kernel
theorem dX7_day_106 : decode cX7_day 106 = .ok (.lconst 0, 1) := by decide +kernel
theorem dX7_day_107 : decode cX7_day 107 = .ok (.invokevirtual 135, 3) := by decide +kernel
theorem dX7_day_110 : decode cX7_day 110 = .ok (.aload_n 0, 1) := by decide +kernel
theorem dX7_day_111 : decode cX7_day 111 = .ok (.aload_n 0, 1) := by decide +kernel
theorem dX7_day_112 : decode cX7_day 112 = .ok (.invokevirtual 217, 3) := by decide +kernel
theorem dX7_day_115 : decode cX7_day 115 = .ok (.i2l, 1) := by decide +kernel
theorem dX7_day_116 : decode cX7_day 116 = .ok (.invokevirtual 135, 3) := by decide +kernel
theorem dX7_day_119 : decode cX7_day 119 = .ok (.iload_n 2, 1) := by decide +kernel
theorem dX7_day_120 : decode cX7_day 120 = .ok (.ireturn, 1) := by decide +kernel
theorem dX7_undo_0 : decode cX7_undo 0 = .ok (.aload_n 0, 1) := by decide +kernel
theorem dX7_undo_1 : decode cX7_undo 1 = .ok (.iconst 0, 1) := by decide +kernel
theorem dX7_undo_2 : decode cX7_undo 2 = .ok (.putfield 58, 3) := by decide +kernel
theorem dX7_undo_5 : decode cX7_undo 5 = .ok (.aload_n 0, 1) := by decide +kernel
theorem dX7_undo_6 : decode cX7_undo 6 = .ok (.getfield 276, 3) := by decide +kernel
theorem dX7_undo_9 : decode cX7_undo 9 = .ok (.ifCond .ne 5, 3) := by decide +kernel
theorem dX7_undo_12 : decode cX7_undo 12 = .ok (.iconst (-1), 1) := by decide +kernel
theorem dX7_undo_13 : decode cX7_undo 13 = .ok (.ireturn, 1) := by decide +kernel
theorem dX7_undo_14 : decode cX7_undo 14 = .ok (.aload_n 0, 1) := by decide +kernel
theorem dX7_undo_15 : decode cX7_undo 15 = .ok (.dup, 1) := by decide +kernel
theorem dX7_undo_16 : decode cX7_undo 16 = .ok (.getfield 276, 3) := by decide +kernel
theorem dX7_undo_19 : decode cX7_undo 19 = .ok (.iconst 1, 1) := by decide +kernel
theorem dX7_undo_20 : decode cX7_undo 20 = .ok (.isub, 1) := by decide +kernel
theorem dX7_undo_21 : decode cX7_undo 21 = .ok (.putfield 276, 3) := by decide +kernel
theorem dX7_undo_24 : decode cX7_undo 24 = .ok (.iconst 0, 1) := by decide +kernel
theorem dX7_undo_25 : decode cX7_undo 25 = .ok (.istore_n 1, 1) := by decide +kernel
theorem dX7_undo_26 : decode cX7_undo 26 = .ok (.iload_n 1, 1) := by decide +kernel
theorem dX7_undo_27 : decode cX7_undo 27 = .ok (.sipush 259, 3) := by decide +kernel
theorem dX7_undo_30 : decode cX7_undo 30 = .ok (.if_icmp .ge 30, 3) := by decide +kernel
theorem dX7_undo_33 : decode cX7_undo 33 = .ok (.aload_n 0, 1) := by decide +kernel
theorem dX7_undo_34 : decode cX7_undo 34 = .ok (.getfield 9, 3) := by decide +kernel
theorem dX7_undo_37 : decode cX7_undo 37 = .ok (.iload_n 1, 1) := by decide +kernel
theorem dX7_undo_38 : decode cX7_undo 38 = .ok (.aload_n 0, 1) := by decide +kernel
theorem dX7_undo_39 : decode cX7_undo 39 = .ok (.getfield 45, 3) := by decide +kernel
theorem dX7_undo_42 : decode cX7_undo 42 = .ok (.sipush 259, 3) := by decide +kernel
theorem dX7_undo_45 : decode cX7_undo 45 = .ok (.aload_n 0, 1) := by decide +kernel
theorem dX7_undo_46 : decode cX7_undo 46 = .ok (.getfield 276, 3) := by decide +kernel
theorem dX7_undo_49 : decode cX7_undo 49 = .ok (.imul, 1) := by decide +kernel
theorem dX7_undo_50 : decode cX7_undo 50 = .ok (.iload_n 1, 1) := by decide +kernel
theorem dX7_undo_51 : decode cX7_undo 51 = .ok (.iadd, 1) := by decide +kernel
theorem dX7_undo_52 : decode cX7_undo 52 = .ok (.iaload, 1) := by decide +kernel
theorem dX7_undo_53 : decode cX7_undo 53 = .ok (.iastore, 1) := by decide +kernel
theorem dX7_undo_54 : decode cX7_undo 54 = .ok (.iinc 1 1, 3) := by decide +kernel
theorem dX7_undo_57 : decode cX7_undo 57 = .ok (.goto (-31), 3) := by decide +kernel
theorem dX7_undo_60 : decode cX7_undo 60 = .ok (.aload_n 0, 1) := by decide +kernel
theorem dX7_undo_61 : decode cX7_undo 61 = .ok (.getfield 276, 3) := by decide +kernel
theorem dX7_undo_64 : decode cX7_undo 64 = .ok (.ireturn, 1) := by decide +kernel
theorem dX7_draw_0 : decode cX7_draw 0 = .ok (.aload_n 0, 1) := by decide +kernel
theorem dX7_draw_1 : decode cX7_draw 1 = .ok (.aload_n 0, 1) := by decide +kernel
theorem dX7_draw_2 : decode cX7_draw 2 = .ok (.getfield 313, 3) := by decide +kernel
theorem dX7_draw_5 : decode cX7_draw 5 = .ok (.ldc_w 316, 3) := by decide +kernel
theorem dX7_draw_8 : decode cX7_draw 8 = .ok (.imul, 1) := by decide +kernel
theorem dX7_draw_9 : decode cX7_draw 9 = .ok (.sipush 12345, 3) := by decide +kernel
theorem dX7_draw_12 : decode cX7_draw 12 = .ok (.iadd, 1) := by decide +kernel
theorem dX7_draw_13 : decode cX7_draw 13 = .ok (.putfield 313, 3) := by decide +kernel
theorem dX7_draw_16 : decode cX7_draw 16 = .ok (.aload_n 0, 1) := by decide +kernel
theorem dX7_draw_17 : decode cX7_draw 17 = .ok (.getfield 313, 3) := by decide +kernel
theorem dX7_draw_20 : decode cX7_draw 20 = .ok (.bipush 16, 2) := by decide +kernel
theorem dX7_draw_22 : decode cX7_draw 22 = .ok (.iushr, 1) := by decide +kernel
theorem dX7_draw_23 : decode cX7_draw 23 = .ok (.iload_n 1, 1) := by decide +kernel
theorem dX7_draw_24 : decode cX7_draw 24 = .ok (.irem, 1) := by decide +kernel
theorem dX7_draw_25 : decode cX7_draw 25 = .ok (.ireturn, 1) := by decide +kernel
theorem dX7_years_0 : decode cX7_years 0 = .ok (.aload_n 0, 1) := by decide +kernel
theorem dX7_years_1 : decode cX7_years 1 = .ok (.iconst 0, 1) := by decide +kernel
theorem dX7_years_2 : decode cX7_years 2 = .ok (.putfield 58, 3) := by decide +kernel
theorem dX7_years_5 : decode cX7_years 5 = .ok (.iload_n 2, 1) := by decide +kernel
theorem dX7_years_6 : decode cX7_years 6 = .ok (.iconst 1, 1) := by decide +kernel
theorem dX7_years_7 : decode cX7_years 7 = .ok (.bipush 30, 2) := by decide +kernel
theorem dX7_years_9 : decode cX7_years 9 = .ok (.invokestatic 65, 3) := by decide +kernel
theorem dX7_years_12 : decode cX7_years 12 = .ok (.ifCond .ne 5, 3) := by decide +kernel
theorem dX7_years_15 : decode cX7_years 15 = .ok (.iconst (-1), 1) := by decide +kernel
theorem dX7_years_16 : decode cX7_years 16 = .ok (.ireturn, 1) := by decide +kernel
theorem dX7_years_17 : decode cX7_years 17 = .ok (.aload_n 0, 1) := by decide +kernel
theorem dX7_years_18 : decode cX7_years 18 = .ok (.iload_n 1, 1) := by decide +kernel
theorem dX7_years_19 : decode cX7_years 19 = .ok (.putfield 313, 3) := by decide +kernel
theorem dX7_years_22 : decode cX7_years 22 = .ok (.aload_n 0, 1) := by decide +kernel
theorem dX7_years_23 : decode cX7_years 23 = .ok (.invokevirtual 230, 3) := by decide +kernel
theorem dX7_years_26 : decode cX7_years 26 = .ok (.iconst 0, 1) := by decide +kernel
theorem dX7_years_27 : decode cX7_years 27 = .ok (.istore_n 3, 1) := by decide +kernel
theorem dX7_years_28 : decode cX7_years 28 = .ok (.iload_n 3, 1) := by decide +kernel
theorem dX7_years_29 : decode cX7_years 29 = .ok (.iload_n 2, 1) := by decide +kernel
theorem dX7_years_30 : decode cX7_years 30 = .ok (.if_icmp .ge 57, 3) := by decide +kernel
theorem dX7_years_33 : decode cX7_years 33 = .ok (.aload_n 0, 1) := by decide +kernel
theorem dX7_years_34 : decode cX7_years 34 = .ok (.iconst 3, 1) := by decide +kernel
theorem dX7_years_35 : decode cX7_years 35 = .ok (.invokevirtual 317, 3) := by decide +kernel
theorem dX7_years_38 : decode cX7_years 38 = .ok (.istore 4, 2) := by decide +kernel
theorem dX7_years_40 : decode cX7_years 40 = .ok (.aload_n 0, 1) := by decide +kernel
theorem dX7_years_41 : decode cX7_years 41 = .ok (.bipush 9, 2) := by decide +kernel
theorem dX7_years_43 : decode cX7_years 43 = .ok (.invokevirtual 317, 3) := by decide +kernel
theorem dX7_years_46 : decode cX7_years 46 = .ok (.iconst 1, 1) := by decide +kernel
theorem dX7_years_47 : decode cX7_years 47 = .ok (.iadd, 1) := by decide +kernel
theorem dX7_years_48 : decode cX7_years 48 = .ok (.istore 5, 2) := by decide +kernel
theorem dX7_years_50 : decode cX7_years 50 = .ok (.aload_n 0, 1) := by decide +kernel
theorem dX7_years_51 : decode cX7_years 51 = .ok (.getfield 9, 3) := by decide +kernel
theorem dX7_years_54 : decode cX7_years 54 = .ok (.iconst 5, 1) := by decide +kernel
theorem dX7_years_55 : decode cX7_years 55 = .ok (.iload 4, 2) := by decide +kernel
theorem dX7_years_57 : decode cX7_years 57 = .ok (.iadd, 1) := by decide +kernel
theorem dX7_years_58 : decode cX7_years 58 = .ok (.iaload, 1) := by decide +kernel
theorem dX7_years_59 : decode cX7_years 59 = .ok (.bipush 70, 2) := by decide +kernel
theorem dX7_years_61 : decode cX7_years 61 = .ok (.if_icmp .ge 20, 3) := by decide +kernel
theorem dX7_years_64 : decode cX7_years 64 = .ok (.aload_n 0, 1) := by decide +kernel
theorem dX7_years_65 : decode cX7_years 65 = .ok (.iload 4, 2) := by decide +kernel
theorem dX7_years_67 : decode cX7_years 67 = .ok (.aload_n 0, 1) := by decide +kernel
theorem dX7_years_68 : decode cX7_years 68 = .ok (.getfield 9, 3) := by decide +kernel
theorem dX7_years_71 : decode cX7_years 71 = .ok (.iconst 5, 1) := by decide +kernel
theorem dX7_years_72 : decode cX7_years 72 = .ok (.iload 4, 2) := by decide +kernel
theorem dX7_years_74 : decode cX7_years 74 = .ok (.iadd, 1) := by decide +kernel
theorem dX7_years_75 : decode cX7_years 75 = .ok (.iaload, 1) := by decide +kernel
theorem dX7_years_76 : decode cX7_years 76 = .ok (.iload 5, 2) := by decide +kernel
theorem dX7_years_78 : decode cX7_years 78 = .ok (.invokevirtual 270, 3) := by decide +kernel
theorem dX7_years_81 : decode cX7_years 81 = .ok (.iinc 3 1, 3) := by decide +kernel
theorem dX7_years_84 : decode cX7_years 84 = .ok (.goto (-56), 3) := by decide +kernel
theorem dX7_years_87 : decode cX7_years 87 = .ok (.aload_n 0, 1) := by decide +kernel
theorem dX7_years_88 : decode cX7_years 88 = .ok (.iconst 0, 1) := by decide +kernel
theorem dX7_years_89 : decode cX7_years 89 = .ok (.putfield 62, 3) := by decide +kernel
theorem dX7_years_92 : decode cX7_years 92 = .ok (.aload_n 0, 1) := by decide +kernel
theorem dX7_years_93 : decode cX7_years 93 = .ok (.aload_n 0, 1) := by decide +kernel
theorem dX7_years_94 : decode cX7_years 94 = .ok (.invokevirtual 217, 3) := by decide +kernel
theorem dX7_years_97 : decode cX7_years 97 = .ok (.i2l, 1) := by decide +kernel
theorem dX7_years_98 : decode cX7_years 98 = .ok (.invokevirtual 135, 3) := by decide +kernel
theorem dX7_years_101 : decode cX7_years 101 = .ok (.iconst 0, 1) := by decide +kernel
theorem dX7_years_102 : decode cX7_years 102 = .ok (.istore_n 3, 1) := by decide +kernel
theorem dX7_years_103 : decode cX7_years 103 = .ok (.iload_n 3, 1) := by decide +kernel
theorem dX7_years_104 : decode cX7_years 104 = .ok (.iconst 3, 1) := by decide +kernel
theorem dX7_years_105 : decode cX7_years 105 = .ok (.if_icmp .ge 22, 3) := by decide +kernel
theorem dX7_years_108 : decode cX7_years 108 = .ok (.aload_n 0, 1) := by decide +kernel
theorem dX7_years_109 : decode cX7_years 109 = .ok (.aload_n 0, 1) := by decide +kernel
theorem dX7_years_110 : decode cX7_years 110 = .ok (.getfield 9, 3) := by decide +kernel
theorem dX7_years_113 : decode cX7_years 113 = .ok (.iconst 5, 1) := by decide +kernel
theorem dX7_years_114 : decode cX7_years 114 = .ok (.iload_n 3, 1) := by decide +kernel
theorem dX7_years_115 : decode cX7_years 115 = .ok (.iadd, 1) := by decide +kernel
theorem dX7_years_116 : decode cX7_years 116 = .ok (.iaload, 1) := by decide +kernel
theorem dX7_years_117 : decode cX7_years 117 = .ok (.i2l, 1) := by decide +kernel
theorem dX7_years_118 : decode cX7_years 118 = .ok (.invokevirtual 135, 3) := by decide +kernel
theorem dX7_years_121 : decode cX7_years 121 = .ok (.iinc 3 1, 3) := by decide +kernel
theorem dX7_years_124 : decode cX7_years 124 = .ok (.goto (-21), 3) := by decide +kernel
theorem dX7_years_127 : decode cX7_years 127 = .ok (.aload_n 0, 1) := by decide +kernel
theorem dX7_years_128 : decode cX7_years 128 = .ok (.invokevirtual 237, 3) := by decide +kernel
theorem dX7_years_131 : decode cX7_years 131 = .ok (.aload_n 0, 1) := by decide +kernel
theorem dX7_years_132 : decode cX7_years 132 = .ok (.getfield 154, 3) := by decide +kernel
theorem dX7_years_135 : decode cX7_years 135 = .ok (.ireturn, 1) := by decide +kernel
theorem dX7_keep_0 : decode cX7_keep 0 = .ok (.aload_n 0, 1) := by decide +kernel
theorem dX7_keep_1 : decode cX7_keep 1 = .ok (.iconst 0, 1) := by decide +kernel
theorem dX7_keep_2 : decode cX7_keep 2 = .ok (.putfield 58, 3) := by decide +kernel
theorem dX7_keep_5 : decode cX7_keep 5 = .ok (.iload_n 1, 1) := by decide +kernel
theorem dX7_keep_6 : decode cX7_keep 6 = .ok (.iconst 0, 1) := by decide +kernel
theorem dX7_keep_7 : decode cX7_keep 7 = .ok (.iconst 1, 1) := by decide +kernel
theorem dX7_keep_8 : decode cX7_keep 8 = .ok (.invokestatic 65, 3) := by decide +kernel
theorem dX7_keep_11 : decode cX7_keep 11 = .ok (.ifCond .ne 5, 3) := by decide +kernel
theorem dX7_keep_14 : decode cX7_keep 14 = .ok (.iconst 0, 1) := by decide +kernel
theorem dX7_keep_15 : decode cX7_keep 15 = .ok (.ireturn, 1) := by decide +kernel
theorem dX7_keep_16 : decode cX7_keep 16 = .ok (.aload_n 0, 1) := by decide +kernel
theorem dX7_keep_17 : decode cX7_keep 17 = .ok (.getfield 54, 3) := by decide +kernel
theorem dX7_keep_20 : decode cX7_keep 20 = .ok (.iload_n 1, 1) := by decide +kernel
theorem dX7_keep_21 : decode cX7_keep 21 = .ok (.iconst 1, 1) := by decide +kernel
theorem dX7_keep_22 : decode cX7_keep 22 = .ok (.bastore, 1) := by decide +kernel
theorem dX7_keep_23 : decode cX7_keep 23 = .ok (.iconst 0, 1) := by decide +kernel
theorem dX7_keep_24 : decode cX7_keep 24 = .ok (.istore_n 2, 1) := by decide +kernel
theorem dX7_keep_25 : decode cX7_keep 25 = .ok (.iload_n 2, 1) := by decide +kernel
theorem dX7_keep_26 : decode cX7_keep 26 = .ok (.sipush 259, 3) := by decide +kernel
theorem dX7_keep_29 : decode cX7_keep 29 = .ok (.if_icmp .ge 27, 3) := by decide +kernel
theorem dX7_keep_32 : decode cX7_keep 32 = .ok (.aload_n 0, 1) := by decide +kernel
theorem dX7_keep_33 : decode cX7_keep 33 = .ok (.getfield 51, 3) := by decide +kernel
theorem dX7_keep_36 : decode cX7_keep 36 = .ok (.sipush 259, 3) := by decide +kernel
theorem dX7_keep_39 : decode cX7_keep 39 = .ok (.iload_n 1, 1) := by decide +kernel
theorem dX7_keep_40 : decode cX7_keep 40 = .ok (.imul, 1) := by decide +kernel
theorem dX7_keep_41 : decode cX7_keep 41 = .ok (.iload_n 2, 1) := by decide +kernel
theorem dX7_keep_42 : decode cX7_keep 42 = .ok (.iadd, 1) := by decide +kernel
theorem dX7_keep_43 : decode cX7_keep 43 = .ok (.aload_n 0, 1) := by decide +kernel
theorem dX7_keep_44 : decode cX7_keep 44 = .ok (.getfield 9, 3) := by decide +kernel
theorem dX7_keep_47 : decode cX7_keep 47 = .ok (.iload_n 2, 1) := by decide +kernel
theorem dX7_keep_48 : decode cX7_keep 48 = .ok (.iaload, 1) := by decide +kernel
theorem dX7_keep_49 : decode cX7_keep 49 = .ok (.iastore, 1) := by decide +kernel
theorem dX7_keep_50 : decode cX7_keep 50 = .ok (.iinc 2 1, 3) := by decide +kernel
theorem dX7_keep_53 : decode cX7_keep 53 = .ok (.goto (-28), 3) := by decide +kernel
theorem dX7_keep_56 : decode cX7_keep 56 = .ok (.iconst 1, 1) := by decide +kernel
theorem dX7_keep_57 : decode cX7_keep 57 = .ok (.ireturn, 1) := by decide +kernel
theorem dX7_again_0 : decode cX7_again 0 = .ok (.aload_n 0, 1) := by decide +kernel
theorem dX7_again_1 : decode cX7_again 1 = .ok (.iconst 0, 1) := by decide +kernel
theorem dX7_again_2 : decode cX7_again 2 = .ok (.putfield 58, 3) := by decide +kernel
theorem dX7_again_5 : decode cX7_again 5 = .ok (.iload_n 1, 1) := by decide +kernel
theorem dX7_again_6 : decode cX7_again 6 = .ok (.iconst 0, 1) := by decide +kernel
theorem dX7_again_7 : decode cX7_again 7 = .ok (.iconst 1, 1) := by decide +kernel
theorem dX7_again_8 : decode cX7_again 8 = .ok (.invokestatic 65, 3) := by decide +kernel
theorem dX7_again_11 : decode cX7_again 11 = .ok (.ifCond .eq 12, 3) := by decide +kernel
theorem dX7_again_14 : decode cX7_again 14 = .ok (.aload_n 0, 1) := by decide +kernel
theorem dX7_again_15 : decode cX7_again 15 = .ok (.getfield 54, 3) := by decide +kernel
theorem dX7_again_18 : decode cX7_again 18 = .ok (.iload_n 1, 1) := by decide +kernel
theorem dX7_again_19 : decode cX7_again 19 = .ok (.baload, 1) := by decide +kernel
theorem dX7_again_20 : decode cX7_again 20 = .ok (.ifCond .ne 5, 3) := by decide +kernel
theorem dX7_again_23 : decode cX7_again 23 = .ok (.iconst 0, 1) := by decide +kernel
theorem dX7_again_24 : decode cX7_again 24 = .ok (.ireturn, 1) := by decide +kernel
theorem dX7_again_25 : decode cX7_again 25 = .ok (.iconst 0, 1) := by decide +kernel
theorem dX7_again_26 : decode cX7_again 26 = .ok (.istore_n 2, 1) := by decide +kernel
theorem dX7_again_27 : decode cX7_again 27 = .ok (.iload_n 2, 1) := by decide +kernel
theorem dX7_again_28 : decode cX7_again 28 = .ok (.sipush 259, 3) := by decide +kernel
theorem dX7_again_31 : decode cX7_again 31 = .ok (.if_icmp .ge 27, 3) := by decide +kernel
theorem dX7_again_34 : decode cX7_again 34 = .ok (.aload_n 0, 1) := by decide +kernel
theorem dX7_again_35 : decode cX7_again 35 = .ok (.getfield 9, 3) := by decide +kernel
theorem dX7_again_38 : decode cX7_again 38 = .ok (.iload_n 2, 1) := by decide +kernel
theorem dX7_again_39 : decode cX7_again 39 = .ok (.aload_n 0, 1) := by decide +kernel
theorem dX7_again_40 : decode cX7_again 40 = .ok (.getfield 51, 3) := by decide +kernel
theorem dX7_again_43 : decode cX7_again 43 = .ok (.sipush 259, 3) := by decide +kernel
theorem dX7_again_46 : decode cX7_again 46 = .ok (.iload_n 1, 1) := by decide +kernel
theorem dX7_again_47 : decode cX7_again 47 = .ok (.imul, 1) := by decide +kernel
theorem dX7_again_48 : decode cX7_again 48 = .ok (.iload_n 2, 1) := by decide +kernel
theorem dX7_again_49 : decode cX7_again 49 = .ok (.iadd, 1) := by decide +kernel
theorem dX7_again_50 : decode cX7_again 50 = .ok (.iaload, 1) := by decide +kernel
theorem dX7_again_51 : decode cX7_again 51 = .ok (.iastore, 1) := by decide +kernel
theorem dX7_again_52 : decode cX7_again 52 = .ok (.iinc 2 1, 3) := by decide +kernel
theorem dX7_again_55 : decode cX7_again 55 = .ok (.goto (-28), 3) := by decide +kernel
theorem dX7_again_58 : decode cX7_again 58 = .ok (.aload_n 0, 1) := by decide +kernel
theorem dX7_again_59 : decode cX7_again 59 = .ok (.iconst 0, 1) := by decide +kernel
theorem dX7_again_60 : decode cX7_again 60 = .ok (.putfield 276, 3) := by decide +kernel
theorem dX7_again_63 : decode cX7_again 63 = .ok (.iconst 1, 1) := by decide +kernel
theorem dX7_again_64 : decode cX7_again 64 = .ok (.ireturn, 1) := by decide +kernel
theorem dX7_count_0 : decode cX7_count 0 = .ok (.aload_n 0, 1) := by decide +kernel
theorem dX7_count_1 : decode cX7_count 1 = .ok (.iconst 0, 1) := by decide +kernel
theorem dX7_count_2 : decode cX7_count 2 = .ok (.putfield 58, 3) := by decide +kernel
theorem dX7_count_5 : decode cX7_count 5 = .ok (.iload_n 1, 1) := by decide +kernel
theorem dX7_count_6 : decode cX7_count 6 = .ok (.iconst 0, 1) := by decide +kernel
theorem dX7_count_7 : decode cX7_count 7 = .ok (.bipush 7, 2) := by decide +kernel
theorem dX7_count_9 : decode cX7_count 9 = .ok (.invokestatic 65, 3) := by decide +kernel
theorem dX7_count_12 : decode cX7_count 12 = .ok (.ifCond .eq 10, 3) := by decide +kernel
theorem dX7_count_15 : decode cX7_count 15 = .ok (.aload_n 0, 1) := by decide +kernel
theorem dX7_count_16 : decode cX7_count 16 = .ok (.getfield 9, 3) := by decide +kernel
theorem dX7_count_19 : decode cX7_count 19 = .ok (.iload_n 1, 1) := by decide +kernel
theorem dX7_count_20 : decode cX7_count 20 = .ok (.iaload, 1) := by decide +kernel
theorem dX7_count_21 : decode cX7_count 21 = .ok (.ireturn, 1) := by decide +kernel
theorem dX7_count_22 : decode cX7_count 22 = .ok (.iload_n 1, 1) := by decide +kernel
theorem dX7_count_23 : decode cX7_count 23 = .ok (.tableswitch 66 8 12 #[33, 42, 47, 52, 57], 33) := by decide +kernel
theorem dX7_count_56 : decode cX7_count 56 = .ok (.aload_n 0, 1) := by decide +kernel
theorem dX7_count_57 : decode cX7_count 57 = .ok (.getfield 9, 3) := by decide +kernel
theorem dX7_count_60 : decode cX7_count 60 = .ok (.sipush 218, 3) := by decide +kernel
theorem dX7_count_63 : decode cX7_count 63 = .ok (.iaload, 1) := by decide +kernel
theorem dX7_count_64 : decode cX7_count 64 = .ok (.ireturn, 1) := by decide +kernel
theorem dX7_count_65 : decode cX7_count 65 = .ok (.aload_n 0, 1) := by decide +kernel
theorem dX7_count_66 : decode cX7_count 66 = .ok (.getfield 276, 3) := by decide +kernel
theorem dX7_count_69 : decode cX7_count 69 = .ok (.ireturn, 1) := by decide +kernel
theorem dX7_count_70 : decode cX7_count 70 = .ok (.aload_n 0, 1) := by decide +kernel
theorem dX7_count_71 : decode cX7_count 71 = .ok (.getfield 62, 3) := by decide +kernel
theorem dX7_count_74 : decode cX7_count 74 = .ok (.ireturn, 1) := by decide +kernel
theorem dX7_count_75 : decode cX7_count 75 = .ok (.aload_n 0, 1) := by decide +kernel
theorem dX7_count_76 : decode cX7_count 76 = .ok (.getfield 73, 3) := by decide +kernel
theorem dX7_count_79 : decode cX7_count 79 = .ok (.ireturn, 1) := by decide +kernel
theorem dX7_count_80 : decode cX7_count 80 = .ok (.aload_n 0, 1) := by decide +kernel
theorem dX7_count_81 : decode cX7_count 81 = .ok (.getfield 9, 3) := by decide +kernel
theorem dX7_count_84 : decode cX7_count 84 = .ok (.sipush 255, 3) := by decide +kernel
theorem dX7_count_87 : decode cX7_count 87 = .ok (.iaload, 1) := by decide +kernel
theorem dX7_count_88 : decode cX7_count 88 = .ok (.ireturn, 1) := by decide +kernel
theorem dX7_count_89 : decode cX7_count 89 = .ok (.iload_n 1, 1) := by decide +kernel
theorem dX7_count_90 : decode cX7_count 90 = .ok (.bipush 13, 2) := by decide +kernel
theorem dX7_count_92 : decode cX7_count 92 = .ok (.bipush 15, 2) := by decide +kernel
theorem dX7_count_94 : decode cX7_count 94 = .ok (.invokestatic 65, 3) := by decide +kernel
theorem dX7_count_97 : decode cX7_count 97 = .ok (.ifCond .eq 19, 3) := by decide +kernel
theorem dX7_count_100 : decode cX7_count 100 = .ok (.aload_n 0, 1) := by decide +kernel
theorem dX7_count_101 : decode cX7_count 101 = .ok (.getfield 9, 3) := by decide +kernel
theorem dX7_count_104 : decode cX7_count 104 = .ok (.sipush 256, 3) := by decide +kernel
theorem dX7_count_107 : decode cX7_count 107 = .ok (.iload_n 1, 1) := by decide +kernel
theorem dX7_count_108 : decode cX7_count 108 = .ok (.iadd, 1) := by decide +kernel
theorem dX7_count_109 : decode cX7_count 109 = .ok (.bipush 13, 2) := by decide +kernel
theorem dX7_count_111 : decode cX7_count 111 = .ok (.isub, 1) := by decide +kernel
theorem dX7_count_112 : decode cX7_count 112 = .ok (.iaload, 1) := by decide +kernel
theorem dX7_count_113 : decode cX7_count 113 = .ok (.goto 4, 3) := by decide +kernel
theorem dX7_count_116 : decode cX7_count 116 = .ok (.iconst (-1), 1) := by decide +kernel
theorem dX7_count_117 : decode cX7_count 117 = .ok (.ireturn, 1) := by decide +kernel
theorem dX7_row_0 : decode cX7_row 0 = .ok (.aload_n 0, 1) := by decide +kernel
theorem dX7_row_1 : decode cX7_row 1 = .ok (.iconst 0, 1) := by decide +kernel
theorem dX7_row_2 : decode cX7_row 2 = .ok (.putfield 58, 3) := by decide +kernel
theorem dX7_row_5 : decode cX7_row 5 = .ok (.iload_n 1, 1) := by decide +kernel
theorem dX7_row_6 : decode cX7_row 6 = .ok (.iconst 0, 1) := by decide +kernel
theorem dX7_row_7 : decode cX7_row 7 = .ok (.aload_n 0, 1) := by decide +kernel
theorem dX7_row_8 : decode cX7_row 8 = .ok (.getfield 62, 3) := by decide +kernel
theorem dX7_row_11 : decode cX7_row 11 = .ok (.iconst 1, 1) := by decide +kernel
theorem dX7_row_12 : decode cX7_row 12 = .ok (.isub, 1) := by decide +kernel
theorem dX7_row_13 : decode cX7_row 13 = .ok (.invokestatic 65, 3) := by decide +kernel
theorem dX7_row_16 : decode cX7_row 16 = .ok (.ifCond .eq 12, 3) := by decide +kernel
theorem dX7_row_19 : decode cX7_row 19 = .ok (.aload_n 0, 1) := by decide +kernel
theorem dX7_row_20 : decode cX7_row 20 = .ok (.getfield 17, 3) := by decide +kernel
theorem dX7_row_23 : decode cX7_row 23 = .ok (.iload_n 1, 1) := by decide +kernel
theorem dX7_row_24 : decode cX7_row 24 = .ok (.laload, 1) := by decide +kernel
theorem dX7_row_25 : decode cX7_row 25 = .ok (.goto 8, 3) := by decide +kernel
theorem dX7_row_28 : decode cX7_row 28 = .ok (.aload_n 0, 1) := by decide +kernel
theorem dX7_row_29 : decode cX7_row 29 = .ok (.invokevirtual 180, 3) := by decide +kernel
theorem dX7_row_32 : decode cX7_row 32 = .ok (.i2l, 1) := by decide +kernel
theorem dX7_row_33 : decode cX7_row 33 = .ok (.lreturn, 1) := by decide +kernel
theorem dL_word_0 : decode cL_word 0 = .ok (.aload 4, 2) := by decide +kernel
theorem dL_word_2 : decode cL_word 2 = .ok (.iconst 0, 1) := by decide +kernel
theorem dL_word_3 : decode cL_word 3 = .ok (.aload_n 0, 1) := by decide +kernel
theorem dL_word_4 : decode cL_word 4 = .ok (.iload_n 1, 1) := by decide +kernel
theorem dL_word_5 : decode cL_word 5 = .ok (.iload_n 2, 1) := by decide +kernel
theorem dL_word_6 : decode cL_word 6 = .ok (.iload_n 3, 1) := by decide +kernel
theorem dL_word_7 : decode cL_word 7 = .ok (.invokevirtual 7, 3) := by decide +kernel
theorem dL_word_10 : decode cL_word 10 = .ok (.i2l, 1) := by decide +kernel
theorem dL_word_11 : decode cL_word 11 = .ok (.lastore, 1) := by decide +kernel
theorem dL_word_12 : decode cL_word 12 = .ok (.goto 7, 3) := by decide +kernel
theorem dL_word_15 : decode cL_word 15 = .ok (.astore 5, 2) := by decide +kernel
theorem dL_word_17 : decode cL_word 17 = .ok (.iconst 1, 1) := by decide +kernel
theorem dL_word_18 : decode cL_word 18 = .ok (.ireturn, 1) := by decide +kernel
theorem dL_word_19 : decode cL_word 19 = .ok (.iconst 0, 1) := by decide +kernel
theorem dL_word_20 : decode cL_word 20 = .ok (.ireturn, 1) := by decide +kernel
theorem dL_tie_0 : decode cL_tie 0 = .ok (.aload_n 2, 1) := by decide +kernel
theorem dL_tie_1 : decode cL_tie 1 = .ok (.iconst 0, 1) := by decide +kernel
theorem dL_tie_2 : decode cL_tie 2 = .ok (.aload_n 0, 1) := by decide +kernel
theorem dL_tie_3 : decode cL_tie 3 = .ok (.iload_n 1, 1) := by decide +kernel
theorem dL_tie_4 : decode cL_tie 4 = .ok (.invokevirtual 15, 3) := by decide +kernel
theorem dL_tie_7 : decode cL_tie 7 = .ok (.i2l, 1) := by decide +kernel
theorem dL_tie_8 : decode cL_tie 8 = .ok (.lastore, 1) := by decide +kernel
theorem dL_tie_9 : decode cL_tie 9 = .ok (.goto 6, 3) := by decide +kernel
theorem dL_tie_12 : decode cL_tie 12 = .ok (.astore_n 3, 1) := by decide +kernel
theorem dL_tie_13 : decode cL_tie 13 = .ok (.iconst 1, 1) := by decide +kernel
theorem dL_tie_14 : decode cL_tie 14 = .ok (.ireturn, 1) := by decide +kernel
theorem dL_tie_15 : decode cL_tie 15 = .ok (.iconst 0, 1) := by decide +kernel
theorem dL_tie_16 : decode cL_tie 16 = .ok (.ireturn, 1) := by decide +kernel
theorem dL_row_0 : decode cL_row 0 = .ok (.aload_n 2, 1) := by decide +kernel
theorem dL_row_1 : decode cL_row 1 = .ok (.iconst 0, 1) := by decide +kernel
theorem dL_row_2 : decode cL_row 2 = .ok (.aload_n 0, 1) := by decide +kernel
theorem dL_row_3 : decode cL_row 3 = .ok (.iload_n 1, 1) := by decide +kernel
theorem dL_row_4 : decode cL_row 4 = .ok (.invokevirtual 19, 3) := by decide +kernel
theorem dL_row_7 : decode cL_row 7 = .ok (.lastore, 1) := by decide +kernel
theorem dL_row_8 : decode cL_row 8 = .ok (.goto 6, 3) := by decide +kernel
theorem dL_row_11 : decode cL_row 11 = .ok (.astore_n 3, 1) := by decide +kernel
theorem dL_row_12 : decode cL_row 12 = .ok (.iconst 1, 1) := by decide +kernel
theorem dL_row_13 : decode cL_row 13 = .ok (.ireturn, 1) := by decide +kernel
theorem dL_row_14 : decode cL_row 14 = .ok (.iconst 0, 1) := by decide +kernel
theorem dL_row_15 : decode cL_row 15 = .ok (.ireturn, 1) := by decide +kernel
theorem dL_law_0 : decode cL_law 0 = .ok (.new 8, 3) := by decide +kernel
theorem dL_law_3 : decode cL_law 3 = .ok (.dup, 1) := by decide +kernel
theorem dL_law_4 : decode cL_law 4 = .ok (.invokespecial 23, 3) := by decide +kernel
theorem dL_law_7 : decode cL_law 7 = .ok (.astore_n 1, 1) := by decide +kernel
theorem dL_law_8 : decode cL_law 8 = .ok (.new 24, 3) := by decide +kernel
theorem dL_law_11 : decode cL_law 11 = .ok (.dup, 1) := by decide +kernel
theorem dL_law_12 : decode cL_law 12 = .ok (.invokespecial 26, 3) := by decide +kernel
theorem dL_law_15 : decode cL_law 15 = .ok (.astore_n 2, 1) := by decide +kernel
theorem dL_law_16 : decode cL_law 16 = .ok (.iconst 1, 1) := by decide +kernel
theorem dL_law_17 : decode cL_law 17 = .ok (.newarray .long, 2) := by decide +kernel
theorem dL_law_19 : decode cL_law 19 = .ok (.astore_n 3, 1) := by decide +kernel
theorem dL_law_20 : decode cL_law 20 = .ok (.iconst 0, 1) := by decide +kernel
theorem dL_law_21 : decode cL_law 21 = .ok (.istore 4, 2) := by decide +kernel
theorem dL_law_23 : decode cL_law 23 = .ok (.iload 4, 2) := by decide +kernel
theorem dL_law_25 : decode cL_law 25 = .ok (.aload_n 0, 1) := by decide +kernel
theorem dL_law_26 : decode cL_law 26 = .ok (.arraylength, 1) := by decide +kernel
theorem dL_law_27 : decode cL_law 27 = .ok (.bipush 7, 2) := by decide +kernel
theorem dL_law_29 : decode cL_law 29 = .ok (.isub, 1) := by decide +kernel
theorem dL_law_30 : decode cL_law 30 = .ok (.if_icmp .gt 1519, 3) := by decide +kernel
theorem dL_law_33 : decode cL_law 33 = .ok (.aload_n 0, 1) := by decide +kernel
theorem dL_law_34 : decode cL_law 34 = .ok (.iload 4, 2) := by decide +kernel
theorem dL_law_36 : decode cL_law 36 = .ok (.iaload, 1) := by decide +kernel
theorem dL_law_37 : decode cL_law 37 = .ok (.bipush 63, 2) := by decide +kernel
theorem dL_law_39 : decode cL_law 39 = .ok (.iand, 1) := by decide +kernel
theorem dL_law_40 : decode cL_law 40 = .ok (.tableswitch 1503 0 40 #[180, 205, 230, 255, 268, 355, 368, 417, 497, 546, 571, 584, 597, 610, 647, 660, 716, 729, 742, 791, 828, 877, 890, 915, 940, 989, 1026, 1051, 1088, 1125, 1138, 1187, 1224, 1273, 1310, 1323, 1336, 1373, 1398, 1423, 1448], 180) := by decide +kernel
theorem dL_law_220 : decode cL_law 220 = .ok (.aload_n 1, 1) := by decide +kernel
theorem dL_law_221 : decode cL_law 221 = .ok (.aload_n 0, 1) := by decide +kernel
theorem dL_law_222 : decode cL_law 222 = .ok (.iload 4, 2) := by decide +kernel
theorem dL_law_224 : decode cL_law 224 = .ok (.iconst 1, 1) := by decide +kernel
theorem dL_law_225 : decode cL_law 225 = .ok (.iadd, 1) := by decide +kernel
theorem dL_law_226 : decode cL_law 226 = .ok (.iaload, 1) := by decide +kernel
theorem dL_law_227 : decode cL_law 227 = .ok (.invokevirtual 27, 3) := by decide +kernel
theorem dL_law_230 : decode cL_law 230 = .ok (.aload_n 2, 1) := by decide +kernel
theorem dL_law_231 : decode cL_law 231 = .ok (.aload_n 0, 1) := by decide +kernel
theorem dL_law_232 : decode cL_law 232 = .ok (.iload 4, 2) := by decide +kernel
theorem dL_law_234 : decode cL_law 234 = .ok (.iconst 1, 1) := by decide +kernel
theorem dL_law_235 : decode cL_law 235 = .ok (.iadd, 1) := by decide +kernel
theorem dL_law_236 : decode cL_law 236 = .ok (.iaload, 1) := by decide +kernel
theorem dL_law_237 : decode cL_law 237 = .ok (.invokevirtual 30, 3) := by decide +kernel
theorem dL_law_240 : decode cL_law 240 = .ok (.if_icmp .eq 1303, 3) := by decide +kernel
theorem dL_law_243 : decode cL_law 243 = .ok (.iconst 0, 1) := by decide +kernel
theorem dL_law_244 : decode cL_law 244 = .ok (.ireturn, 1) := by decide +kernel
theorem dL_law_245 : decode cL_law 245 = .ok (.aload_n 1, 1) := by decide +kernel
theorem dL_law_246 : decode cL_law 246 = .ok (.aload_n 0, 1) := by decide +kernel
theorem dL_law_247 : decode cL_law 247 = .ok (.iload 4, 2) := by decide +kernel
theorem dL_law_249 : decode cL_law 249 = .ok (.iconst 1, 1) := by decide +kernel
theorem dL_law_250 : decode cL_law 250 = .ok (.iadd, 1) := by decide +kernel
theorem dL_law_251 : decode cL_law 251 = .ok (.iaload, 1) := by decide +kernel
theorem dL_law_252 : decode cL_law 252 = .ok (.invokevirtual 31, 3) := by decide +kernel
theorem dL_law_255 : decode cL_law 255 = .ok (.aload_n 2, 1) := by decide +kernel
theorem dL_law_256 : decode cL_law 256 = .ok (.aload_n 0, 1) := by decide +kernel
theorem dL_law_257 : decode cL_law 257 = .ok (.iload 4, 2) := by decide +kernel
theorem dL_law_259 : decode cL_law 259 = .ok (.iconst 1, 1) := by decide +kernel
theorem dL_law_260 : decode cL_law 260 = .ok (.iadd, 1) := by decide +kernel
theorem dL_law_261 : decode cL_law 261 = .ok (.iaload, 1) := by decide +kernel
theorem dL_law_262 : decode cL_law 262 = .ok (.invokevirtual 35, 3) := by decide +kernel
theorem dL_law_265 : decode cL_law 265 = .ok (.if_icmp .eq 1278, 3) := by decide +kernel
theorem dL_law_268 : decode cL_law 268 = .ok (.iconst 0, 1) := by decide +kernel
theorem dL_law_269 : decode cL_law 269 = .ok (.ireturn, 1) := by decide +kernel
theorem dL_law_270 : decode cL_law 270 = .ok (.aload_n 1, 1) := by decide +kernel
theorem dL_law_271 : decode cL_law 271 = .ok (.aload_n 0, 1) := by decide +kernel
theorem dL_law_272 : decode cL_law 272 = .ok (.iload 4, 2) := by decide +kernel
theorem dL_law_274 : decode cL_law 274 = .ok (.iconst 1, 1) := by decide +kernel
theorem dL_law_275 : decode cL_law 275 = .ok (.iadd, 1) := by decide +kernel
theorem dL_law_276 : decode cL_law 276 = .ok (.iaload, 1) := by decide +kernel
theorem dL_law_277 : decode cL_law 277 = .ok (.invokevirtual 36, 3) := by decide +kernel
theorem dL_law_280 : decode cL_law 280 = .ok (.aload_n 2, 1) := by decide +kernel
theorem dL_law_281 : decode cL_law 281 = .ok (.aload_n 0, 1) := by decide +kernel
theorem dL_law_282 : decode cL_law 282 = .ok (.iload 4, 2) := by decide +kernel
theorem dL_law_284 : decode cL_law 284 = .ok (.iconst 1, 1) := by decide +kernel
theorem dL_law_285 : decode cL_law 285 = .ok (.iadd, 1) := by decide +kernel
theorem dL_law_286 : decode cL_law 286 = .ok (.iaload, 1) := by decide +kernel
theorem dL_law_287 : decode cL_law 287 = .ok (.invokevirtual 39, 3) := by decide +kernel
theorem dL_law_290 : decode cL_law 290 = .ok (.if_icmp .eq 1253, 3) := by decide +kernel
theorem dL_law_293 : decode cL_law 293 = .ok (.iconst 0, 1) := by decide +kernel
theorem dL_law_294 : decode cL_law 294 = .ok (.ireturn, 1) := by decide +kernel
theorem dL_law_295 : decode cL_law 295 = .ok (.aload_n 1, 1) := by decide +kernel
theorem dL_law_296 : decode cL_law 296 = .ok (.invokevirtual 40, 3) := by decide +kernel
theorem dL_law_299 : decode cL_law 299 = .ok (.aload_n 2, 1) := by decide +kernel
theorem dL_law_300 : decode cL_law 300 = .ok (.invokevirtual 44, 3) := by decide +kernel
theorem dL_law_303 : decode cL_law 303 = .ok (.if_icmp .eq 1240, 3) := by decide +kernel
theorem dL_law_306 : decode cL_law 306 = .ok (.iconst 0, 1) := by decide +kernel
theorem dL_law_307 : decode cL_law 307 = .ok (.ireturn, 1) := by decide +kernel
theorem dL_law_308 : decode cL_law 308 = .ok (.aload_n 1, 1) := by decide +kernel
theorem dL_law_309 : decode cL_law 309 = .ok (.aload_n 0, 1) := by decide +kernel
theorem dL_law_310 : decode cL_law 310 = .ok (.iload 4, 2) := by decide +kernel
theorem dL_law_312 : decode cL_law 312 = .ok (.iconst 1, 1) := by decide +kernel
theorem dL_law_313 : decode cL_law 313 = .ok (.iadd, 1) := by decide +kernel
theorem dL_law_314 : decode cL_law 314 = .ok (.iaload, 1) := by decide +kernel
theorem dL_law_315 : decode cL_law 315 = .ok (.aload_n 0, 1) := by decide +kernel
theorem dL_law_316 : decode cL_law 316 = .ok (.iload 4, 2) := by decide +kernel
theorem dL_law_318 : decode cL_law 318 = .ok (.iconst 2, 1) := by decide +kernel
theorem dL_law_319 : decode cL_law 319 = .ok (.iadd, 1) := by decide +kernel
theorem dL_law_320 : decode cL_law 320 = .ok (.iaload, 1) := by decide +kernel
theorem dL_law_321 : decode cL_law 321 = .ok (.aload_n 0, 1) := by decide +kernel
theorem dL_law_322 : decode cL_law 322 = .ok (.iload 4, 2) := by decide +kernel
theorem dL_law_324 : decode cL_law 324 = .ok (.iconst 3, 1) := by decide +kernel
theorem dL_law_325 : decode cL_law 325 = .ok (.iadd, 1) := by decide +kernel
theorem dL_law_326 : decode cL_law 326 = .ok (.iaload, 1) := by decide +kernel
theorem dL_law_327 : decode cL_law 327 = .ok (.aload_n 0, 1) := by decide +kernel
theorem dL_law_328 : decode cL_law 328 = .ok (.iload 4, 2) := by decide +kernel
theorem dL_law_330 : decode cL_law 330 = .ok (.iconst 4, 1) := by decide +kernel
theorem dL_law_331 : decode cL_law 331 = .ok (.iadd, 1) := by decide +kernel
theorem dL_law_332 : decode cL_law 332 = .ok (.iaload, 1) := by decide +kernel
theorem dL_law_333 : decode cL_law 333 = .ok (.aload_n 0, 1) := by decide +kernel
theorem dL_law_334 : decode cL_law 334 = .ok (.iload 4, 2) := by decide +kernel
theorem dL_law_336 : decode cL_law 336 = .ok (.iconst 5, 1) := by decide +kernel
theorem dL_law_337 : decode cL_law 337 = .ok (.iadd, 1) := by decide +kernel
theorem dL_law_338 : decode cL_law 338 = .ok (.iaload, 1) := by decide +kernel
theorem dL_law_339 : decode cL_law 339 = .ok (.aload_n 0, 1) := by decide +kernel
theorem dL_law_340 : decode cL_law 340 = .ok (.iload 4, 2) := by decide +kernel
theorem dL_law_342 : decode cL_law 342 = .ok (.bipush 6, 2) := by decide +kernel
theorem dL_law_344 : decode cL_law 344 = .ok (.iadd, 1) := by decide +kernel
theorem dL_law_345 : decode cL_law 345 = .ok (.iaload, 1) := by decide +kernel
theorem dL_law_346 : decode cL_law 346 = .ok (.invokevirtual 45, 3) := by decide +kernel
theorem dL_law_349 : decode cL_law 349 = .ok (.aload_n 2, 1) := by decide +kernel
theorem dL_law_350 : decode cL_law 350 = .ok (.aload_n 0, 1) := by decide +kernel
theorem dL_law_351 : decode cL_law 351 = .ok (.iload 4, 2) := by decide +kernel
theorem dL_law_353 : decode cL_law 353 = .ok (.iconst 1, 1) := by decide +kernel
theorem dL_law_354 : decode cL_law 354 = .ok (.iadd, 1) := by decide +kernel
theorem dL_law_355 : decode cL_law 355 = .ok (.iaload, 1) := by decide +kernel
theorem dL_law_356 : decode cL_law 356 = .ok (.aload_n 0, 1) := by decide +kernel
theorem dL_law_357 : decode cL_law 357 = .ok (.iload 4, 2) := by decide +kernel
theorem dL_law_359 : decode cL_law 359 = .ok (.iconst 2, 1) := by decide +kernel
theorem dL_law_360 : decode cL_law 360 = .ok (.iadd, 1) := by decide +kernel
theorem dL_law_361 : decode cL_law 361 = .ok (.iaload, 1) := by decide +kernel
theorem dL_law_362 : decode cL_law 362 = .ok (.aload_n 0, 1) := by decide +kernel
theorem dL_law_363 : decode cL_law 363 = .ok (.iload 4, 2) := by decide +kernel
theorem dL_law_365 : decode cL_law 365 = .ok (.iconst 3, 1) := by decide +kernel
theorem dL_law_366 : decode cL_law 366 = .ok (.iadd, 1) := by decide +kernel
theorem dL_law_367 : decode cL_law 367 = .ok (.iaload, 1) := by decide +kernel
theorem dL_law_368 : decode cL_law 368 = .ok (.aload_n 0, 1) := by decide +kernel
theorem dL_law_369 : decode cL_law 369 = .ok (.iload 4, 2) := by decide +kernel
theorem dL_law_371 : decode cL_law 371 = .ok (.iconst 4, 1) := by decide +kernel
theorem dL_law_372 : decode cL_law 372 = .ok (.iadd, 1) := by decide +kernel
theorem dL_law_373 : decode cL_law 373 = .ok (.iaload, 1) := by decide +kernel
theorem dL_law_374 : decode cL_law 374 = .ok (.aload_n 0, 1) := by decide +kernel
theorem dL_law_375 : decode cL_law 375 = .ok (.iload 4, 2) := by decide +kernel
theorem dL_law_377 : decode cL_law 377 = .ok (.iconst 5, 1) := by decide +kernel
theorem dL_law_378 : decode cL_law 378 = .ok (.iadd, 1) := by decide +kernel
theorem dL_law_379 : decode cL_law 379 = .ok (.iaload, 1) := by decide +kernel
theorem dL_law_380 : decode cL_law 380 = .ok (.aload_n 0, 1) := by decide +kernel
theorem dL_law_381 : decode cL_law 381 = .ok (.iload 4, 2) := by decide +kernel
theorem dL_law_383 : decode cL_law 383 = .ok (.bipush 6, 2) := by decide +kernel
theorem dL_law_385 : decode cL_law 385 = .ok (.iadd, 1) := by decide +kernel
theorem dL_law_386 : decode cL_law 386 = .ok (.iaload, 1) := by decide +kernel
theorem dL_law_387 : decode cL_law 387 = .ok (.invokevirtual 49, 3) := by decide +kernel
theorem dL_law_390 : decode cL_law 390 = .ok (.if_icmp .eq 1153, 3) := by decide +kernel
theorem dL_law_393 : decode cL_law 393 = .ok (.iconst 0, 1) := by decide +kernel
theorem dL_law_394 : decode cL_law 394 = .ok (.ireturn, 1) := by decide +kernel
theorem dL_law_395 : decode cL_law 395 = .ok (.aload_n 1, 1) := by decide +kernel
theorem dL_law_396 : decode cL_law 396 = .ok (.invokevirtual 50, 3) := by decide +kernel
theorem dL_law_399 : decode cL_law 399 = .ok (.aload_n 2, 1) := by decide +kernel
theorem dL_law_400 : decode cL_law 400 = .ok (.invokevirtual 53, 3) := by decide +kernel
theorem dL_law_403 : decode cL_law 403 = .ok (.if_icmp .eq 1140, 3) := by decide +kernel
theorem dL_law_406 : decode cL_law 406 = .ok (.iconst 0, 1) := by decide +kernel
theorem dL_law_407 : decode cL_law 407 = .ok (.ireturn, 1) := by decide +kernel
theorem dL_law_408 : decode cL_law 408 = .ok (.aload_n 1, 1) := by decide +kernel
theorem dL_law_409 : decode cL_law 409 = .ok (.aload_n 0, 1) := by decide +kernel
theorem dL_law_410 : decode cL_law 410 = .ok (.iload 4, 2) := by decide +kernel
theorem dL_law_412 : decode cL_law 412 = .ok (.iconst 1, 1) := by decide +kernel
theorem dL_law_413 : decode cL_law 413 = .ok (.iadd, 1) := by decide +kernel
theorem dL_law_414 : decode cL_law 414 = .ok (.iaload, 1) := by decide +kernel
theorem dL_law_415 : decode cL_law 415 = .ok (.aload_n 0, 1) := by decide +kernel
theorem dL_law_416 : decode cL_law 416 = .ok (.iload 4, 2) := by decide +kernel
theorem dL_law_418 : decode cL_law 418 = .ok (.iconst 2, 1) := by decide +kernel
theorem dL_law_419 : decode cL_law 419 = .ok (.iadd, 1) := by decide +kernel
theorem dL_law_420 : decode cL_law 420 = .ok (.iaload, 1) := by decide +kernel
theorem dL_law_421 : decode cL_law 421 = .ok (.aload_n 0, 1) := by decide +kernel
theorem dL_law_422 : decode cL_law 422 = .ok (.iload 4, 2) := by decide +kernel
theorem dL_law_424 : decode cL_law 424 = .ok (.iconst 3, 1) := by decide +kernel
theorem dL_law_425 : decode cL_law 425 = .ok (.iadd, 1) := by decide +kernel
theorem dL_law_426 : decode cL_law 426 = .ok (.iaload, 1) := by decide +kernel
theorem dL_law_427 : decode cL_law 427 = .ok (.invokevirtual 54, 3) := by decide +kernel
theorem dL_law_430 : decode cL_law 430 = .ok (.aload_n 2, 1) := by decide +kernel
theorem dL_law_431 : decode cL_law 431 = .ok (.aload_n 0, 1) := by decide +kernel
theorem dL_law_432 : decode cL_law 432 = .ok (.iload 4, 2) := by decide +kernel
theorem dL_law_434 : decode cL_law 434 = .ok (.iconst 1, 1) := by decide +kernel
theorem dL_law_435 : decode cL_law 435 = .ok (.iadd, 1) := by decide +kernel
theorem dL_law_436 : decode cL_law 436 = .ok (.iaload, 1) := by decide +kernel
theorem dL_law_437 : decode cL_law 437 = .ok (.aload_n 0, 1) := by decide +kernel
theorem dL_law_438 : decode cL_law 438 = .ok (.iload 4, 2) := by decide +kernel
theorem dL_law_440 : decode cL_law 440 = .ok (.iconst 2, 1) := by decide +kernel
theorem dL_law_441 : decode cL_law 441 = .ok (.iadd, 1) := by decide +kernel
theorem dL_law_442 : decode cL_law 442 = .ok (.iaload, 1) := by decide +kernel
theorem dL_law_443 : decode cL_law 443 = .ok (.aload_n 0, 1) := by decide +kernel
theorem dL_law_444 : decode cL_law 444 = .ok (.iload 4, 2) := by decide +kernel
theorem dL_law_446 : decode cL_law 446 = .ok (.iconst 3, 1) := by decide +kernel
theorem dL_law_447 : decode cL_law 447 = .ok (.iadd, 1) := by decide +kernel
theorem dL_law_448 : decode cL_law 448 = .ok (.iaload, 1) := by decide +kernel
theorem dL_law_449 : decode cL_law 449 = .ok (.invokevirtual 57, 3) := by decide +kernel
theorem dL_law_452 : decode cL_law 452 = .ok (.if_icmp .eq 1091, 3) := by decide +kernel
theorem dL_law_455 : decode cL_law 455 = .ok (.iconst 0, 1) := by decide +kernel
theorem dL_law_456 : decode cL_law 456 = .ok (.ireturn, 1) := by decide +kernel
theorem dL_law_457 : decode cL_law 457 = .ok (.aload_n 1, 1) := by decide +kernel
theorem dL_law_458 : decode cL_law 458 = .ok (.aload_n 0, 1) := by decide +kernel
theorem dL_law_459 : decode cL_law 459 = .ok (.iload 4, 2) := by decide +kernel
theorem dL_law_461 : decode cL_law 461 = .ok (.iconst 1, 1) := by decide +kernel
theorem dL_law_462 : decode cL_law 462 = .ok (.iadd, 1) := by decide +kernel
theorem dL_law_463 : decode cL_law 463 = .ok (.iaload, 1) := by decide +kernel
theorem dL_law_464 : decode cL_law 464 = .ok (.aload_n 0, 1) := by decide +kernel
theorem dL_law_465 : decode cL_law 465 = .ok (.iload 4, 2) := by decide +kernel
theorem dL_law_467 : decode cL_law 467 = .ok (.iconst 2, 1) := by decide +kernel
theorem dL_law_468 : decode cL_law 468 = .ok (.iadd, 1) := by decide +kernel
theorem dL_law_469 : decode cL_law 469 = .ok (.iaload, 1) := by decide +kernel
theorem dL_law_470 : decode cL_law 470 = .ok (.aload_n 0, 1) := by decide +kernel
theorem dL_law_471 : decode cL_law 471 = .ok (.iload 4, 2) := by decide +kernel
theorem dL_law_473 : decode cL_law 473 = .ok (.iconst 3, 1) := by decide +kernel
theorem dL_law_474 : decode cL_law 474 = .ok (.iadd, 1) := by decide +kernel
theorem dL_law_475 : decode cL_law 475 = .ok (.iaload, 1) := by decide +kernel
theorem dL_law_476 : decode cL_law 476 = .ok (.aload_n 3, 1) := by decide +kernel
theorem dL_law_477 : decode cL_law 477 = .ok (.invokestatic 58, 3) := by decide +kernel
theorem dL_law_480 : decode cL_law 480 = .ok (.istore 5, 2) := by decide +kernel
theorem dL_law_482 : decode cL_law 482 = .ok (.aload_n 2, 1) := by decide +kernel
theorem dL_law_483 : decode cL_law 483 = .ok (.aload_n 0, 1) := by decide +kernel
theorem dL_law_484 : decode cL_law 484 = .ok (.iload 4, 2) := by decide +kernel
theorem dL_law_486 : decode cL_law 486 = .ok (.iconst 1, 1) := by decide +kernel
theorem dL_law_487 : decode cL_law 487 = .ok (.iadd, 1) := by decide +kernel
theorem dL_law_488 : decode cL_law 488 = .ok (.iaload, 1) := by decide +kernel
theorem dL_law_489 : decode cL_law 489 = .ok (.aload_n 0, 1) := by decide +kernel
theorem dL_law_490 : decode cL_law 490 = .ok (.iload 4, 2) := by decide +kernel
theorem dL_law_492 : decode cL_law 492 = .ok (.iconst 2, 1) := by decide +kernel
theorem dL_law_493 : decode cL_law 493 = .ok (.iadd, 1) := by decide +kernel
theorem dL_law_494 : decode cL_law 494 = .ok (.iaload, 1) := by decide +kernel
theorem dL_law_495 : decode cL_law 495 = .ok (.aload_n 0, 1) := by decide +kernel
theorem dL_law_496 : decode cL_law 496 = .ok (.iload 4, 2) := by decide +kernel
theorem dL_law_498 : decode cL_law 498 = .ok (.iconst 3, 1) := by decide +kernel
theorem dL_law_499 : decode cL_law 499 = .ok (.iadd, 1) := by decide +kernel
theorem dL_law_500 : decode cL_law 500 = .ok (.iaload, 1) := by decide +kernel
theorem dL_law_501 : decode cL_law 501 = .ok (.invokevirtual 63, 3) := by decide +kernel
theorem dL_law_504 : decode cL_law 504 = .ok (.istore 6, 2) := by decide +kernel
theorem dL_law_506 : decode cL_law 506 = .ok (.aload_n 2, 1) := by decide +kernel
theorem dL_law_507 : decode cL_law 507 = .ok (.invokevirtual 64, 3) := by decide +kernel
theorem dL_law_510 : decode cL_law 510 = .ok (.iload 5, 2) := by decide +kernel
theorem dL_law_512 : decode cL_law 512 = .ok (.if_icmp .eq 5, 3) := by decide +kernel
theorem dL_law_515 : decode cL_law 515 = .ok (.iconst 0, 1) := by decide +kernel
theorem dL_law_516 : decode cL_law 516 = .ok (.ireturn, 1) := by decide +kernel
theorem dL_law_517 : decode cL_law 517 = .ok (.iload 5, 2) := by decide +kernel
theorem dL_law_519 : decode cL_law 519 = .ok (.ifCond .ne 15, 3) := by decide +kernel
theorem dL_law_522 : decode cL_law 522 = .ok (.aload_n 3, 1) := by decide +kernel
theorem dL_law_523 : decode cL_law 523 = .ok (.iconst 0, 1) := by decide +kernel
theorem dL_law_524 : decode cL_law 524 = .ok (.laload, 1) := by decide +kernel
theorem dL_law_525 : decode cL_law 525 = .ok (.iload 6, 2) := by decide +kernel
theorem dL_law_527 : decode cL_law 527 = .ok (.i2l, 1) := by decide +kernel
theorem dL_law_528 : decode cL_law 528 = .ok (.lcmp, 1) := by decide +kernel
theorem dL_law_529 : decode cL_law 529 = .ok (.ifCond .eq 5, 3) := by decide +kernel
theorem dL_law_532 : decode cL_law 532 = .ok (.iconst 0, 1) := by decide +kernel
theorem dL_law_533 : decode cL_law 533 = .ok (.ireturn, 1) := by decide +kernel
theorem dL_law_534 : decode cL_law 534 = .ok (.goto 1009, 3) := by decide +kernel
theorem dL_law_537 : decode cL_law 537 = .ok (.aload_n 1, 1) := by decide +kernel
theorem dL_law_538 : decode cL_law 538 = .ok (.aload_n 0, 1) := by decide +kernel
theorem dL_law_539 : decode cL_law 539 = .ok (.iload 4, 2) := by decide +kernel
theorem dL_law_541 : decode cL_law 541 = .ok (.iconst 1, 1) := by decide +kernel
theorem dL_law_542 : decode cL_law 542 = .ok (.iadd, 1) := by decide +kernel
theorem dL_law_543 : decode cL_law 543 = .ok (.iaload, 1) := by decide +kernel
theorem dL_law_544 : decode cL_law 544 = .ok (.aload_n 0, 1) := by decide +kernel
theorem dL_law_545 : decode cL_law 545 = .ok (.iload 4, 2) := by decide +kernel
theorem dL_law_547 : decode cL_law 547 = .ok (.iconst 2, 1) := by decide +kernel
theorem dL_law_548 : decode cL_law 548 = .ok (.iadd, 1) := by decide +kernel
theorem dL_law_549 : decode cL_law 549 = .ok (.iaload, 1) := by decide +kernel
theorem dL_law_550 : decode cL_law 550 = .ok (.aload_n 0, 1) := by decide +kernel
theorem dL_law_551 : decode cL_law 551 = .ok (.iload 4, 2) := by decide +kernel
theorem dL_law_553 : decode cL_law 553 = .ok (.iconst 3, 1) := by decide +kernel
theorem dL_law_554 : decode cL_law 554 = .ok (.iadd, 1) := by decide +kernel
theorem dL_law_555 : decode cL_law 555 = .ok (.iaload, 1) := by decide +kernel
theorem dL_law_556 : decode cL_law 556 = .ok (.invokevirtual 67, 3) := by decide +kernel
theorem dL_law_559 : decode cL_law 559 = .ok (.aload_n 2, 1) := by decide +kernel
theorem dL_law_560 : decode cL_law 560 = .ok (.aload_n 0, 1) := by decide +kernel
theorem dL_law_561 : decode cL_law 561 = .ok (.iload 4, 2) := by decide +kernel
theorem dL_law_563 : decode cL_law 563 = .ok (.iconst 1, 1) := by decide +kernel
theorem dL_law_564 : decode cL_law 564 = .ok (.iadd, 1) := by decide +kernel
theorem dL_law_565 : decode cL_law 565 = .ok (.iaload, 1) := by decide +kernel
theorem dL_law_566 : decode cL_law 566 = .ok (.aload_n 0, 1) := by decide +kernel
theorem dL_law_567 : decode cL_law 567 = .ok (.iload 4, 2) := by decide +kernel
theorem dL_law_569 : decode cL_law 569 = .ok (.iconst 2, 1) := by decide +kernel
theorem dL_law_570 : decode cL_law 570 = .ok (.iadd, 1) := by decide +kernel
theorem dL_law_571 : decode cL_law 571 = .ok (.iaload, 1) := by decide +kernel
theorem dL_law_572 : decode cL_law 572 = .ok (.aload_n 0, 1) := by decide +kernel
theorem dL_law_573 : decode cL_law 573 = .ok (.iload 4, 2) := by decide +kernel
theorem dL_law_575 : decode cL_law 575 = .ok (.iconst 3, 1) := by decide +kernel
theorem dL_law_576 : decode cL_law 576 = .ok (.iadd, 1) := by decide +kernel
theorem dL_law_577 : decode cL_law 577 = .ok (.iaload, 1) := by decide +kernel
theorem dL_law_578 : decode cL_law 578 = .ok (.invokevirtual 70, 3) := by decide +kernel
theorem dL_law_581 : decode cL_law 581 = .ok (.if_icmp .eq 962, 3) := by decide +kernel
theorem dL_law_584 : decode cL_law 584 = .ok (.iconst 0, 1) := by decide +kernel
theorem dL_law_585 : decode cL_law 585 = .ok (.ireturn, 1) := by decide +kernel
theorem dL_law_586 : decode cL_law 586 = .ok (.aload_n 1, 1) := by decide +kernel
theorem dL_law_587 : decode cL_law 587 = .ok (.aload_n 0, 1) := by decide +kernel
theorem dL_law_588 : decode cL_law 588 = .ok (.iload 4, 2) := by decide +kernel
theorem dL_law_590 : decode cL_law 590 = .ok (.iconst 1, 1) := by decide +kernel
theorem dL_law_591 : decode cL_law 591 = .ok (.iadd, 1) := by decide +kernel
theorem dL_law_592 : decode cL_law 592 = .ok (.iaload, 1) := by decide +kernel
theorem dL_law_593 : decode cL_law 593 = .ok (.invokevirtual 71, 3) := by decide +kernel
theorem dL_law_596 : decode cL_law 596 = .ok (.aload_n 2, 1) := by decide +kernel
theorem dL_law_597 : decode cL_law 597 = .ok (.aload_n 0, 1) := by decide +kernel
theorem dL_law_598 : decode cL_law 598 = .ok (.iload 4, 2) := by decide +kernel
theorem dL_law_600 : decode cL_law 600 = .ok (.iconst 1, 1) := by decide +kernel
theorem dL_law_601 : decode cL_law 601 = .ok (.iadd, 1) := by decide +kernel
theorem dL_law_602 : decode cL_law 602 = .ok (.iaload, 1) := by decide +kernel
theorem dL_law_603 : decode cL_law 603 = .ok (.invokevirtual 74, 3) := by decide +kernel
theorem dL_law_606 : decode cL_law 606 = .ok (.if_icmp .eq 937, 3) := by decide +kernel
theorem dL_law_609 : decode cL_law 609 = .ok (.iconst 0, 1) := by decide +kernel
theorem dL_law_610 : decode cL_law 610 = .ok (.ireturn, 1) := by decide +kernel
theorem dL_law_611 : decode cL_law 611 = .ok (.aload_n 1, 1) := by decide +kernel
theorem dL_law_612 : decode cL_law 612 = .ok (.invokevirtual 75, 3) := by decide +kernel
theorem dL_law_615 : decode cL_law 615 = .ok (.aload_n 2, 1) := by decide +kernel
theorem dL_law_616 : decode cL_law 616 = .ok (.invokevirtual 78, 3) := by decide +kernel
theorem dL_law_619 : decode cL_law 619 = .ok (.if_icmp .eq 924, 3) := by decide +kernel
theorem dL_law_622 : decode cL_law 622 = .ok (.iconst 0, 1) := by decide +kernel
theorem dL_law_623 : decode cL_law 623 = .ok (.ireturn, 1) := by decide +kernel
theorem dL_law_624 : decode cL_law 624 = .ok (.aload_n 1, 1) := by decide +kernel
theorem dL_law_625 : decode cL_law 625 = .ok (.invokevirtual 79, 3) := by decide +kernel
theorem dL_law_628 : decode cL_law 628 = .ok (.aload_n 2, 1) := by decide +kernel
theorem dL_law_629 : decode cL_law 629 = .ok (.invokevirtual 82, 3) := by decide +kernel
theorem dL_law_632 : decode cL_law 632 = .ok (.if_icmp .eq 911, 3) := by decide +kernel
theorem dL_law_635 : decode cL_law 635 = .ok (.iconst 0, 1) := by decide +kernel
theorem dL_law_636 : decode cL_law 636 = .ok (.ireturn, 1) := by decide +kernel
theorem dL_law_637 : decode cL_law 637 = .ok (.aload_n 1, 1) := by decide +kernel
theorem dL_law_638 : decode cL_law 638 = .ok (.invokevirtual 83, 3) := by decide +kernel
theorem dL_law_641 : decode cL_law 641 = .ok (.aload_n 2, 1) := by decide +kernel
theorem dL_law_642 : decode cL_law 642 = .ok (.invokevirtual 86, 3) := by decide +kernel
theorem dL_law_645 : decode cL_law 645 = .ok (.if_icmp .eq 898, 3) := by decide +kernel
theorem dL_law_648 : decode cL_law 648 = .ok (.iconst 0, 1) := by decide +kernel
theorem dL_law_649 : decode cL_law 649 = .ok (.ireturn, 1) := by decide +kernel
theorem dL_law_650 : decode cL_law 650 = .ok (.aload_n 1, 1) := by decide +kernel
theorem dL_law_651 : decode cL_law 651 = .ok (.aload_n 0, 1) := by decide +kernel
theorem dL_law_652 : decode cL_law 652 = .ok (.iload 4, 2) := by decide +kernel
theorem dL_law_654 : decode cL_law 654 = .ok (.iconst 1, 1) := by decide +kernel
theorem dL_law_655 : decode cL_law 655 = .ok (.iadd, 1) := by decide +kernel
theorem dL_law_656 : decode cL_law 656 = .ok (.iaload, 1) := by decide +kernel
theorem dL_law_657 : decode cL_law 657 = .ok (.aload_n 0, 1) := by decide +kernel
theorem dL_law_658 : decode cL_law 658 = .ok (.iload 4, 2) := by decide +kernel
theorem dL_law_660 : decode cL_law 660 = .ok (.iconst 2, 1) := by decide +kernel
theorem dL_law_661 : decode cL_law 661 = .ok (.iadd, 1) := by decide +kernel
theorem dL_law_662 : decode cL_law 662 = .ok (.iaload, 1) := by decide +kernel
theorem dL_law_663 : decode cL_law 663 = .ok (.invokevirtual 87, 3) := by decide +kernel
theorem dL_law_666 : decode cL_law 666 = .ok (.aload_n 2, 1) := by decide +kernel
theorem dL_law_667 : decode cL_law 667 = .ok (.aload_n 0, 1) := by decide +kernel
theorem dL_law_668 : decode cL_law 668 = .ok (.iload 4, 2) := by decide +kernel
theorem dL_law_670 : decode cL_law 670 = .ok (.iconst 1, 1) := by decide +kernel
theorem dL_law_671 : decode cL_law 671 = .ok (.iadd, 1) := by decide +kernel
theorem dL_law_672 : decode cL_law 672 = .ok (.iaload, 1) := by decide +kernel
theorem dL_law_673 : decode cL_law 673 = .ok (.aload_n 0, 1) := by decide +kernel
theorem dL_law_674 : decode cL_law 674 = .ok (.iload 4, 2) := by decide +kernel
theorem dL_law_676 : decode cL_law 676 = .ok (.iconst 2, 1) := by decide +kernel
theorem dL_law_677 : decode cL_law 677 = .ok (.iadd, 1) := by decide +kernel
theorem dL_law_678 : decode cL_law 678 = .ok (.iaload, 1) := by decide +kernel
theorem dL_law_679 : decode cL_law 679 = .ok (.invokevirtual 91, 3) := by decide +kernel
theorem dL_law_682 : decode cL_law 682 = .ok (.if_icmp .eq 861, 3) := by decide +kernel
theorem dL_law_685 : decode cL_law 685 = .ok (.iconst 0, 1) := by decide +kernel
theorem dL_law_686 : decode cL_law 686 = .ok (.ireturn, 1) := by decide +kernel
theorem dL_law_687 : decode cL_law 687 = .ok (.aload_n 1, 1) := by decide +kernel
theorem dL_law_688 : decode cL_law 688 = .ok (.invokevirtual 92, 3) := by decide +kernel
theorem dL_law_691 : decode cL_law 691 = .ok (.aload_n 2, 1) := by decide +kernel
theorem dL_law_692 : decode cL_law 692 = .ok (.invokevirtual 95, 3) := by decide +kernel
theorem dL_law_695 : decode cL_law 695 = .ok (.if_icmp .eq 848, 3) := by decide +kernel
theorem dL_law_698 : decode cL_law 698 = .ok (.iconst 0, 1) := by decide +kernel
theorem dL_law_699 : decode cL_law 699 = .ok (.ireturn, 1) := by decide +kernel
theorem dL_law_700 : decode cL_law 700 = .ok (.aload_n 1, 1) := by decide +kernel
theorem dL_law_701 : decode cL_law 701 = .ok (.aload_n 0, 1) := by decide +kernel
theorem dL_law_702 : decode cL_law 702 = .ok (.iload 4, 2) := by decide +kernel
theorem dL_law_704 : decode cL_law 704 = .ok (.iconst 1, 1) := by decide +kernel
theorem dL_law_705 : decode cL_law 705 = .ok (.iadd, 1) := by decide +kernel
theorem dL_law_706 : decode cL_law 706 = .ok (.iaload, 1) := by decide +kernel
theorem dL_law_707 : decode cL_law 707 = .ok (.aload_n 3, 1) := by decide +kernel
theorem dL_law_708 : decode cL_law 708 = .ok (.invokestatic 96, 3) := by decide +kernel
theorem dL_law_711 : decode cL_law 711 = .ok (.istore 5, 2) := by decide +kernel
theorem dL_law_713 : decode cL_law 713 = .ok (.aload_n 2, 1) := by decide +kernel
theorem dL_law_714 : decode cL_law 714 = .ok (.aload_n 0, 1) := by decide +kernel
theorem dL_law_715 : decode cL_law 715 = .ok (.iload 4, 2) := by decide +kernel
theorem dL_law_717 : decode cL_law 717 = .ok (.iconst 1, 1) := by decide +kernel
theorem dL_law_718 : decode cL_law 718 = .ok (.iadd, 1) := by decide +kernel
theorem dL_law_719 : decode cL_law 719 = .ok (.iaload, 1) := by decide +kernel
theorem dL_law_720 : decode cL_law 720 = .ok (.invokevirtual 99, 3) := by decide +kernel
theorem dL_law_723 : decode cL_law 723 = .ok (.istore 6, 2) := by decide +kernel
theorem dL_law_725 : decode cL_law 725 = .ok (.aload_n 2, 1) := by decide +kernel
theorem dL_law_726 : decode cL_law 726 = .ok (.invokevirtual 64, 3) := by decide +kernel
theorem dL_law_729 : decode cL_law 729 = .ok (.iload 5, 2) := by decide +kernel
theorem dL_law_731 : decode cL_law 731 = .ok (.if_icmp .eq 5, 3) := by decide +kernel
theorem dL_law_734 : decode cL_law 734 = .ok (.iconst 0, 1) := by decide +kernel
theorem dL_law_735 : decode cL_law 735 = .ok (.ireturn, 1) := by decide +kernel
theorem dL_law_736 : decode cL_law 736 = .ok (.iload 5, 2) := by decide +kernel
theorem dL_law_738 : decode cL_law 738 = .ok (.ifCond .ne 15, 3) := by decide +kernel
theorem dL_law_741 : decode cL_law 741 = .ok (.aload_n 3, 1) := by decide +kernel
theorem dL_law_742 : decode cL_law 742 = .ok (.iconst 0, 1) := by decide +kernel
theorem dL_law_743 : decode cL_law 743 = .ok (.laload, 1) := by decide +kernel
theorem dL_law_744 : decode cL_law 744 = .ok (.iload 6, 2) := by decide +kernel
theorem dL_law_746 : decode cL_law 746 = .ok (.i2l, 1) := by decide +kernel
theorem dL_law_747 : decode cL_law 747 = .ok (.lcmp, 1) := by decide +kernel
theorem dL_law_748 : decode cL_law 748 = .ok (.ifCond .eq 5, 3) := by decide +kernel
theorem dL_law_751 : decode cL_law 751 = .ok (.iconst 0, 1) := by decide +kernel
theorem dL_law_752 : decode cL_law 752 = .ok (.ireturn, 1) := by decide +kernel
theorem dL_law_753 : decode cL_law 753 = .ok (.goto 790, 3) := by decide +kernel
theorem dL_law_756 : decode cL_law 756 = .ok (.aload_n 1, 1) := by decide +kernel
theorem dL_law_757 : decode cL_law 757 = .ok (.invokevirtual 100, 3) := by decide +kernel
theorem dL_law_760 : decode cL_law 760 = .ok (.aload_n 2, 1) := by decide +kernel
theorem dL_law_761 : decode cL_law 761 = .ok (.invokevirtual 103, 3) := by decide +kernel
theorem dL_law_764 : decode cL_law 764 = .ok (.if_icmp .eq 779, 3) := by decide +kernel
theorem dL_law_767 : decode cL_law 767 = .ok (.iconst 0, 1) := by decide +kernel
theorem dL_law_768 : decode cL_law 768 = .ok (.ireturn, 1) := by decide +kernel
theorem dL_law_769 : decode cL_law 769 = .ok (.aload_n 1, 1) := by decide +kernel
theorem dL_law_770 : decode cL_law 770 = .ok (.invokevirtual 104, 3) := by decide +kernel
theorem dL_law_773 : decode cL_law 773 = .ok (.aload_n 2, 1) := by decide +kernel
theorem dL_law_774 : decode cL_law 774 = .ok (.invokevirtual 107, 3) := by decide +kernel
theorem dL_law_777 : decode cL_law 777 = .ok (.if_icmp .eq 766, 3) := by decide +kernel
theorem dL_law_780 : decode cL_law 780 = .ok (.iconst 0, 1) := by decide +kernel
theorem dL_law_781 : decode cL_law 781 = .ok (.ireturn, 1) := by decide +kernel
theorem dL_law_782 : decode cL_law 782 = .ok (.aload_n 1, 1) := by decide +kernel
theorem dL_law_783 : decode cL_law 783 = .ok (.aload_n 0, 1) := by decide +kernel
theorem dL_law_784 : decode cL_law 784 = .ok (.iload 4, 2) := by decide +kernel
theorem dL_law_786 : decode cL_law 786 = .ok (.iconst 1, 1) := by decide +kernel
theorem dL_law_787 : decode cL_law 787 = .ok (.iadd, 1) := by decide +kernel
theorem dL_law_788 : decode cL_law 788 = .ok (.iaload, 1) := by decide +kernel
theorem dL_law_789 : decode cL_law 789 = .ok (.aload_n 0, 1) := by decide +kernel
theorem dL_law_790 : decode cL_law 790 = .ok (.iload 4, 2) := by decide +kernel
theorem dL_law_792 : decode cL_law 792 = .ok (.iconst 2, 1) := by decide +kernel
theorem dL_law_793 : decode cL_law 793 = .ok (.iadd, 1) := by decide +kernel
theorem dL_law_794 : decode cL_law 794 = .ok (.iaload, 1) := by decide +kernel
theorem dL_law_795 : decode cL_law 795 = .ok (.aload_n 0, 1) := by decide +kernel
theorem dL_law_796 : decode cL_law 796 = .ok (.iload 4, 2) := by decide +kernel
theorem dL_law_798 : decode cL_law 798 = .ok (.iconst 3, 1) := by decide +kernel
theorem dL_law_799 : decode cL_law 799 = .ok (.iadd, 1) := by decide +kernel
theorem dL_law_800 : decode cL_law 800 = .ok (.iaload, 1) := by decide +kernel
theorem dL_law_801 : decode cL_law 801 = .ok (.invokevirtual 108, 3) := by decide +kernel
theorem dL_law_804 : decode cL_law 804 = .ok (.aload_n 2, 1) := by decide +kernel
theorem dL_law_805 : decode cL_law 805 = .ok (.aload_n 0, 1) := by decide +kernel
theorem dL_law_806 : decode cL_law 806 = .ok (.iload 4, 2) := by decide +kernel
theorem dL_law_808 : decode cL_law 808 = .ok (.iconst 1, 1) := by decide +kernel
theorem dL_law_809 : decode cL_law 809 = .ok (.iadd, 1) := by decide +kernel
theorem dL_law_810 : decode cL_law 810 = .ok (.iaload, 1) := by decide +kernel
theorem dL_law_811 : decode cL_law 811 = .ok (.aload_n 0, 1) := by decide +kernel
theorem dL_law_812 : decode cL_law 812 = .ok (.iload 4, 2) := by decide +kernel
theorem dL_law_814 : decode cL_law 814 = .ok (.iconst 2, 1) := by decide +kernel
theorem dL_law_815 : decode cL_law 815 = .ok (.iadd, 1) := by decide +kernel
theorem dL_law_816 : decode cL_law 816 = .ok (.iaload, 1) := by decide +kernel
theorem dL_law_817 : decode cL_law 817 = .ok (.aload_n 0, 1) := by decide +kernel
theorem dL_law_818 : decode cL_law 818 = .ok (.iload 4, 2) := by decide +kernel
theorem dL_law_820 : decode cL_law 820 = .ok (.iconst 3, 1) := by decide +kernel
theorem dL_law_821 : decode cL_law 821 = .ok (.iadd, 1) := by decide +kernel
theorem dL_law_822 : decode cL_law 822 = .ok (.iaload, 1) := by decide +kernel
theorem dL_law_823 : decode cL_law 823 = .ok (.invokevirtual 111, 3) := by decide +kernel
theorem dL_law_826 : decode cL_law 826 = .ok (.if_icmp .eq 717, 3) := by decide +kernel
theorem dL_law_829 : decode cL_law 829 = .ok (.iconst 0, 1) := by decide +kernel
theorem dL_law_830 : decode cL_law 830 = .ok (.ireturn, 1) := by decide +kernel
theorem dL_law_831 : decode cL_law 831 = .ok (.aload_n 1, 1) := by decide +kernel
theorem dL_law_832 : decode cL_law 832 = .ok (.aload_n 0, 1) := by decide +kernel
theorem dL_law_833 : decode cL_law 833 = .ok (.iload 4, 2) := by decide +kernel
theorem dL_law_835 : decode cL_law 835 = .ok (.iconst 1, 1) := by decide +kernel
theorem dL_law_836 : decode cL_law 836 = .ok (.iadd, 1) := by decide +kernel
theorem dL_law_837 : decode cL_law 837 = .ok (.iaload, 1) := by decide +kernel
theorem dL_law_838 : decode cL_law 838 = .ok (.aload_n 0, 1) := by decide +kernel
theorem dL_law_839 : decode cL_law 839 = .ok (.iload 4, 2) := by decide +kernel
theorem dL_law_841 : decode cL_law 841 = .ok (.iconst 2, 1) := by decide +kernel
theorem dL_law_842 : decode cL_law 842 = .ok (.iadd, 1) := by decide +kernel
theorem dL_law_843 : decode cL_law 843 = .ok (.iaload, 1) := by decide +kernel
theorem dL_law_844 : decode cL_law 844 = .ok (.invokevirtual 112, 3) := by decide +kernel
theorem dL_law_847 : decode cL_law 847 = .ok (.aload_n 2, 1) := by decide +kernel
theorem dL_law_848 : decode cL_law 848 = .ok (.aload_n 0, 1) := by decide +kernel
theorem dL_law_849 : decode cL_law 849 = .ok (.iload 4, 2) := by decide +kernel
theorem dL_law_851 : decode cL_law 851 = .ok (.iconst 1, 1) := by decide +kernel
theorem dL_law_852 : decode cL_law 852 = .ok (.iadd, 1) := by decide +kernel
theorem dL_law_853 : decode cL_law 853 = .ok (.iaload, 1) := by decide +kernel
theorem dL_law_854 : decode cL_law 854 = .ok (.aload_n 0, 1) := by decide +kernel
theorem dL_law_855 : decode cL_law 855 = .ok (.iload 4, 2) := by decide +kernel
theorem dL_law_857 : decode cL_law 857 = .ok (.iconst 2, 1) := by decide +kernel
theorem dL_law_858 : decode cL_law 858 = .ok (.iadd, 1) := by decide +kernel
theorem dL_law_859 : decode cL_law 859 = .ok (.iaload, 1) := by decide +kernel
theorem dL_law_860 : decode cL_law 860 = .ok (.invokevirtual 115, 3) := by decide +kernel
theorem dL_law_863 : decode cL_law 863 = .ok (.if_icmp .eq 680, 3) := by decide +kernel
theorem dL_law_866 : decode cL_law 866 = .ok (.iconst 0, 1) := by decide +kernel
theorem dL_law_867 : decode cL_law 867 = .ok (.ireturn, 1) := by decide +kernel
theorem dL_law_868 : decode cL_law 868 = .ok (.aload_n 1, 1) := by decide +kernel
theorem dL_law_869 : decode cL_law 869 = .ok (.aload_n 0, 1) := by decide +kernel
theorem dL_law_870 : decode cL_law 870 = .ok (.iload 4, 2) := by decide +kernel
theorem dL_law_872 : decode cL_law 872 = .ok (.iconst 1, 1) := by decide +kernel
theorem dL_law_873 : decode cL_law 873 = .ok (.iadd, 1) := by decide +kernel
theorem dL_law_874 : decode cL_law 874 = .ok (.iaload, 1) := by decide +kernel
theorem dL_law_875 : decode cL_law 875 = .ok (.aload_n 0, 1) := by decide +kernel
theorem dL_law_876 : decode cL_law 876 = .ok (.iload 4, 2) := by decide +kernel
theorem dL_law_878 : decode cL_law 878 = .ok (.iconst 2, 1) := by decide +kernel
theorem dL_law_879 : decode cL_law 879 = .ok (.iadd, 1) := by decide +kernel
theorem dL_law_880 : decode cL_law 880 = .ok (.iaload, 1) := by decide +kernel
theorem dL_law_881 : decode cL_law 881 = .ok (.aload_n 0, 1) := by decide +kernel
theorem dL_law_882 : decode cL_law 882 = .ok (.iload 4, 2) := by decide +kernel
theorem dL_law_884 : decode cL_law 884 = .ok (.iconst 3, 1) := by decide +kernel
theorem dL_law_885 : decode cL_law 885 = .ok (.iadd, 1) := by decide +kernel
theorem dL_law_886 : decode cL_law 886 = .ok (.iaload, 1) := by decide +kernel
theorem dL_law_887 : decode cL_law 887 = .ok (.invokevirtual 116, 3) := by decide +kernel
theorem dL_law_890 : decode cL_law 890 = .ok (.aload_n 2, 1) := by decide +kernel
theorem dL_law_891 : decode cL_law 891 = .ok (.aload_n 0, 1) := by decide +kernel
theorem dL_law_892 : decode cL_law 892 = .ok (.iload 4, 2) := by decide +kernel
theorem dL_law_894 : decode cL_law 894 = .ok (.iconst 1, 1) := by decide +kernel
theorem dL_law_895 : decode cL_law 895 = .ok (.iadd, 1) := by decide +kernel
theorem dL_law_896 : decode cL_law 896 = .ok (.iaload, 1) := by decide +kernel
theorem dL_law_897 : decode cL_law 897 = .ok (.aload_n 0, 1) := by decide +kernel
theorem dL_law_898 : decode cL_law 898 = .ok (.iload 4, 2) := by decide +kernel
theorem dL_law_900 : decode cL_law 900 = .ok (.iconst 2, 1) := by decide +kernel
theorem dL_law_901 : decode cL_law 901 = .ok (.iadd, 1) := by decide +kernel
theorem dL_law_902 : decode cL_law 902 = .ok (.iaload, 1) := by decide +kernel
theorem dL_law_903 : decode cL_law 903 = .ok (.aload_n 0, 1) := by decide +kernel
theorem dL_law_904 : decode cL_law 904 = .ok (.iload 4, 2) := by decide +kernel
theorem dL_law_906 : decode cL_law 906 = .ok (.iconst 3, 1) := by decide +kernel
theorem dL_law_907 : decode cL_law 907 = .ok (.iadd, 1) := by decide +kernel
theorem dL_law_908 : decode cL_law 908 = .ok (.iaload, 1) := by decide +kernel
theorem dL_law_909 : decode cL_law 909 = .ok (.invokevirtual 119, 3) := by decide +kernel
theorem dL_law_912 : decode cL_law 912 = .ok (.if_icmp .eq 631, 3) := by decide +kernel
theorem dL_law_915 : decode cL_law 915 = .ok (.iconst 0, 1) := by decide +kernel
theorem dL_law_916 : decode cL_law 916 = .ok (.ireturn, 1) := by decide +kernel
theorem dL_law_917 : decode cL_law 917 = .ok (.aload_n 1, 1) := by decide +kernel
theorem dL_law_918 : decode cL_law 918 = .ok (.invokevirtual 120, 3) := by decide +kernel
theorem dL_law_921 : decode cL_law 921 = .ok (.aload_n 2, 1) := by decide +kernel
theorem dL_law_922 : decode cL_law 922 = .ok (.invokevirtual 123, 3) := by decide +kernel
theorem dL_law_925 : decode cL_law 925 = .ok (.if_icmp .eq 618, 3) := by decide +kernel
theorem dL_law_928 : decode cL_law 928 = .ok (.iconst 0, 1) := by decide +kernel
theorem dL_law_929 : decode cL_law 929 = .ok (.ireturn, 1) := by decide +kernel
theorem dL_law_930 : decode cL_law 930 = .ok (.aload_n 1, 1) := by decide +kernel
theorem dL_law_931 : decode cL_law 931 = .ok (.aload_n 0, 1) := by decide +kernel
theorem dL_law_932 : decode cL_law 932 = .ok (.iload 4, 2) := by decide +kernel
theorem dL_law_934 : decode cL_law 934 = .ok (.iconst 1, 1) := by decide +kernel
theorem dL_law_935 : decode cL_law 935 = .ok (.iadd, 1) := by decide +kernel
theorem dL_law_936 : decode cL_law 936 = .ok (.iaload, 1) := by decide +kernel
theorem dL_law_937 : decode cL_law 937 = .ok (.invokevirtual 124, 3) := by decide +kernel
theorem dL_law_940 : decode cL_law 940 = .ok (.aload_n 2, 1) := by decide +kernel
theorem dL_law_941 : decode cL_law 941 = .ok (.aload_n 0, 1) := by decide +kernel
theorem dL_law_942 : decode cL_law 942 = .ok (.iload 4, 2) := by decide +kernel
theorem dL_law_944 : decode cL_law 944 = .ok (.iconst 1, 1) := by decide +kernel
theorem dL_law_945 : decode cL_law 945 = .ok (.iadd, 1) := by decide +kernel
theorem dL_law_946 : decode cL_law 946 = .ok (.iaload, 1) := by decide +kernel
theorem dL_law_947 : decode cL_law 947 = .ok (.invokevirtual 127, 3) := by decide +kernel
theorem dL_law_950 : decode cL_law 950 = .ok (.if_icmp .eq 593, 3) := by decide +kernel
theorem dL_law_953 : decode cL_law 953 = .ok (.iconst 0, 1) := by decide +kernel
theorem dL_law_954 : decode cL_law 954 = .ok (.ireturn, 1) := by decide +kernel
theorem dL_law_955 : decode cL_law 955 = .ok (.aload_n 1, 1) := by decide +kernel
theorem dL_law_956 : decode cL_law 956 = .ok (.aload_n 0, 1) := by decide +kernel
theorem dL_law_957 : decode cL_law 957 = .ok (.iload 4, 2) := by decide +kernel
theorem dL_law_959 : decode cL_law 959 = .ok (.iconst 1, 1) := by decide +kernel
theorem dL_law_960 : decode cL_law 960 = .ok (.iadd, 1) := by decide +kernel
theorem dL_law_961 : decode cL_law 961 = .ok (.iaload, 1) := by decide +kernel
theorem dL_law_962 : decode cL_law 962 = .ok (.invokevirtual 128, 3) := by decide +kernel
theorem dL_law_965 : decode cL_law 965 = .ok (.aload_n 2, 1) := by decide +kernel
theorem dL_law_966 : decode cL_law 966 = .ok (.aload_n 0, 1) := by decide +kernel
theorem dL_law_967 : decode cL_law 967 = .ok (.iload 4, 2) := by decide +kernel
theorem dL_law_969 : decode cL_law 969 = .ok (.iconst 1, 1) := by decide +kernel
theorem dL_law_970 : decode cL_law 970 = .ok (.iadd, 1) := by decide +kernel
theorem dL_law_971 : decode cL_law 971 = .ok (.iaload, 1) := by decide +kernel
theorem dL_law_972 : decode cL_law 972 = .ok (.invokevirtual 131, 3) := by decide +kernel
theorem dL_law_975 : decode cL_law 975 = .ok (.if_icmp .eq 568, 3) := by decide +kernel
theorem dL_law_978 : decode cL_law 978 = .ok (.iconst 0, 1) := by decide +kernel
theorem dL_law_979 : decode cL_law 979 = .ok (.ireturn, 1) := by decide +kernel
theorem dL_law_980 : decode cL_law 980 = .ok (.aload_n 1, 1) := by decide +kernel
theorem dL_law_981 : decode cL_law 981 = .ok (.aload_n 0, 1) := by decide +kernel
theorem dL_law_982 : decode cL_law 982 = .ok (.iload 4, 2) := by decide +kernel
theorem dL_law_984 : decode cL_law 984 = .ok (.iconst 1, 1) := by decide +kernel
theorem dL_law_985 : decode cL_law 985 = .ok (.iadd, 1) := by decide +kernel
theorem dL_law_986 : decode cL_law 986 = .ok (.iaload, 1) := by decide +kernel
theorem dL_law_987 : decode cL_law 987 = .ok (.aload_n 0, 1) := by decide +kernel
theorem dL_law_988 : decode cL_law 988 = .ok (.iload 4, 2) := by decide +kernel
theorem dL_law_990 : decode cL_law 990 = .ok (.iconst 2, 1) := by decide +kernel
theorem dL_law_991 : decode cL_law 991 = .ok (.iadd, 1) := by decide +kernel
theorem dL_law_992 : decode cL_law 992 = .ok (.iaload, 1) := by decide +kernel
theorem dL_law_993 : decode cL_law 993 = .ok (.aload_n 0, 1) := by decide +kernel
theorem dL_law_994 : decode cL_law 994 = .ok (.iload 4, 2) := by decide +kernel
theorem dL_law_996 : decode cL_law 996 = .ok (.iconst 3, 1) := by decide +kernel
theorem dL_law_997 : decode cL_law 997 = .ok (.iadd, 1) := by decide +kernel
theorem dL_law_998 : decode cL_law 998 = .ok (.iaload, 1) := by decide +kernel
theorem dL_law_999 : decode cL_law 999 = .ok (.invokevirtual 132, 3) := by decide +kernel
theorem dL_law_1002 : decode cL_law 1002 = .ok (.aload_n 2, 1) := by decide +kernel
theorem dL_law_1003 : decode cL_law 1003 = .ok (.aload_n 0, 1) := by decide +kernel
theorem dL_law_1004 : decode cL_law 1004 = .ok (.iload 4, 2) := by decide +kernel
theorem dL_law_1006 : decode cL_law 1006 = .ok (.iconst 1, 1) := by decide +kernel
theorem dL_law_1007 : decode cL_law 1007 = .ok (.iadd, 1) := by decide +kernel
theorem dL_law_1008 : decode cL_law 1008 = .ok (.iaload, 1) := by decide +kernel
theorem dL_law_1009 : decode cL_law 1009 = .ok (.aload_n 0, 1) := by decide +kernel
theorem dL_law_1010 : decode cL_law 1010 = .ok (.iload 4, 2) := by decide +kernel
theorem dL_law_1012 : decode cL_law 1012 = .ok (.iconst 2, 1) := by decide +kernel
theorem dL_law_1013 : decode cL_law 1013 = .ok (.iadd, 1) := by decide +kernel
theorem dL_law_1014 : decode cL_law 1014 = .ok (.iaload, 1) := by decide +kernel
theorem dL_law_1015 : decode cL_law 1015 = .ok (.aload_n 0, 1) := by decide +kernel
theorem dL_law_1016 : decode cL_law 1016 = .ok (.iload 4, 2) := by decide +kernel
theorem dL_law_1018 : decode cL_law 1018 = .ok (.iconst 3, 1) := by decide +kernel
theorem dL_law_1019 : decode cL_law 1019 = .ok (.iadd, 1) := by decide +kernel
theorem dL_law_1020 : decode cL_law 1020 = .ok (.iaload, 1) := by decide +kernel
theorem dL_law_1021 : decode cL_law 1021 = .ok (.invokevirtual 135, 3) := by decide +kernel
theorem dL_law_1024 : decode cL_law 1024 = .ok (.if_icmp .eq 519, 3) := by decide +kernel
theorem dL_law_1027 : decode cL_law 1027 = .ok (.iconst 0, 1) := by decide +kernel
theorem dL_law_1028 : decode cL_law 1028 = .ok (.ireturn, 1) := by decide +kernel
theorem dL_law_1029 : decode cL_law 1029 = .ok (.aload_n 1, 1) := by decide +kernel
theorem dL_law_1030 : decode cL_law 1030 = .ok (.aload_n 0, 1) := by decide +kernel
theorem dL_law_1031 : decode cL_law 1031 = .ok (.iload 4, 2) := by decide +kernel
theorem dL_law_1033 : decode cL_law 1033 = .ok (.iconst 1, 1) := by decide +kernel
theorem dL_law_1034 : decode cL_law 1034 = .ok (.iadd, 1) := by decide +kernel
theorem dL_law_1035 : decode cL_law 1035 = .ok (.iaload, 1) := by decide +kernel
theorem dL_law_1036 : decode cL_law 1036 = .ok (.aload_n 0, 1) := by decide +kernel
theorem dL_law_1037 : decode cL_law 1037 = .ok (.iload 4, 2) := by decide +kernel
theorem dL_law_1039 : decode cL_law 1039 = .ok (.iconst 2, 1) := by decide +kernel
theorem dL_law_1040 : decode cL_law 1040 = .ok (.iadd, 1) := by decide +kernel
theorem dL_law_1041 : decode cL_law 1041 = .ok (.iaload, 1) := by decide +kernel
theorem dL_law_1042 : decode cL_law 1042 = .ok (.invokevirtual 136, 3) := by decide +kernel
theorem dL_law_1045 : decode cL_law 1045 = .ok (.aload_n 2, 1) := by decide +kernel
theorem dL_law_1046 : decode cL_law 1046 = .ok (.aload_n 0, 1) := by decide +kernel
theorem dL_law_1047 : decode cL_law 1047 = .ok (.iload 4, 2) := by decide +kernel
theorem dL_law_1049 : decode cL_law 1049 = .ok (.iconst 1, 1) := by decide +kernel
theorem dL_law_1050 : decode cL_law 1050 = .ok (.iadd, 1) := by decide +kernel
theorem dL_law_1051 : decode cL_law 1051 = .ok (.iaload, 1) := by decide +kernel
theorem dL_law_1052 : decode cL_law 1052 = .ok (.aload_n 0, 1) := by decide +kernel
theorem dL_law_1053 : decode cL_law 1053 = .ok (.iload 4, 2) := by decide +kernel
theorem dL_law_1055 : decode cL_law 1055 = .ok (.iconst 2, 1) := by decide +kernel
theorem dL_law_1056 : decode cL_law 1056 = .ok (.iadd, 1) := by decide +kernel
theorem dL_law_1057 : decode cL_law 1057 = .ok (.iaload, 1) := by decide +kernel
theorem dL_law_1058 : decode cL_law 1058 = .ok (.invokevirtual 139, 3) := by decide +kernel
theorem dL_law_1061 : decode cL_law 1061 = .ok (.if_icmp .eq 482, 3) := by decide +kernel
theorem dL_law_1064 : decode cL_law 1064 = .ok (.iconst 0, 1) := by decide +kernel
theorem dL_law_1065 : decode cL_law 1065 = .ok (.ireturn, 1) := by decide +kernel
theorem dL_law_1066 : decode cL_law 1066 = .ok (.aload_n 1, 1) := by decide +kernel
theorem dL_law_1067 : decode cL_law 1067 = .ok (.aload_n 0, 1) := by decide +kernel
theorem dL_law_1068 : decode cL_law 1068 = .ok (.iload 4, 2) := by decide +kernel
theorem dL_law_1070 : decode cL_law 1070 = .ok (.iconst 1, 1) := by decide +kernel
theorem dL_law_1071 : decode cL_law 1071 = .ok (.iadd, 1) := by decide +kernel
theorem dL_law_1072 : decode cL_law 1072 = .ok (.iaload, 1) := by decide +kernel
theorem dL_law_1073 : decode cL_law 1073 = .ok (.invokevirtual 140, 3) := by decide +kernel
theorem dL_law_1076 : decode cL_law 1076 = .ok (.aload_n 2, 1) := by decide +kernel
theorem dL_law_1077 : decode cL_law 1077 = .ok (.aload_n 0, 1) := by decide +kernel
theorem dL_law_1078 : decode cL_law 1078 = .ok (.iload 4, 2) := by decide +kernel
theorem dL_law_1080 : decode cL_law 1080 = .ok (.iconst 1, 1) := by decide +kernel
theorem dL_law_1081 : decode cL_law 1081 = .ok (.iadd, 1) := by decide +kernel
theorem dL_law_1082 : decode cL_law 1082 = .ok (.iaload, 1) := by decide +kernel
theorem dL_law_1083 : decode cL_law 1083 = .ok (.invokevirtual 143, 3) := by decide +kernel
theorem dL_law_1086 : decode cL_law 1086 = .ok (.if_icmp .eq 457, 3) := by decide +kernel
theorem dL_law_1089 : decode cL_law 1089 = .ok (.iconst 0, 1) := by decide +kernel
theorem dL_law_1090 : decode cL_law 1090 = .ok (.ireturn, 1) := by decide +kernel
theorem dL_law_1091 : decode cL_law 1091 = .ok (.aload_n 1, 1) := by decide +kernel
theorem dL_law_1092 : decode cL_law 1092 = .ok (.aload_n 0, 1) := by decide +kernel
theorem dL_law_1093 : decode cL_law 1093 = .ok (.iload 4, 2) := by decide +kernel
theorem dL_law_1095 : decode cL_law 1095 = .ok (.iconst 1, 1) := by decide +kernel
theorem dL_law_1096 : decode cL_law 1096 = .ok (.iadd, 1) := by decide +kernel
theorem dL_law_1097 : decode cL_law 1097 = .ok (.iaload, 1) := by decide +kernel
theorem dL_law_1098 : decode cL_law 1098 = .ok (.aload_n 0, 1) := by decide +kernel
theorem dL_law_1099 : decode cL_law 1099 = .ok (.iload 4, 2) := by decide +kernel
theorem dL_law_1101 : decode cL_law 1101 = .ok (.iconst 2, 1) := by decide +kernel
theorem dL_law_1102 : decode cL_law 1102 = .ok (.iadd, 1) := by decide +kernel
theorem dL_law_1103 : decode cL_law 1103 = .ok (.iaload, 1) := by decide +kernel
theorem dL_law_1104 : decode cL_law 1104 = .ok (.invokevirtual 144, 3) := by decide +kernel
theorem dL_law_1107 : decode cL_law 1107 = .ok (.aload_n 2, 1) := by decide +kernel
theorem dL_law_1108 : decode cL_law 1108 = .ok (.aload_n 0, 1) := by decide +kernel
theorem dL_law_1109 : decode cL_law 1109 = .ok (.iload 4, 2) := by decide +kernel
theorem dL_law_1111 : decode cL_law 1111 = .ok (.iconst 1, 1) := by decide +kernel
theorem dL_law_1112 : decode cL_law 1112 = .ok (.iadd, 1) := by decide +kernel
theorem dL_law_1113 : decode cL_law 1113 = .ok (.iaload, 1) := by decide +kernel
theorem dL_law_1114 : decode cL_law 1114 = .ok (.aload_n 0, 1) := by decide +kernel
theorem dL_law_1115 : decode cL_law 1115 = .ok (.iload 4, 2) := by decide +kernel
theorem dL_law_1117 : decode cL_law 1117 = .ok (.iconst 2, 1) := by decide +kernel
theorem dL_law_1118 : decode cL_law 1118 = .ok (.iadd, 1) := by decide +kernel
theorem dL_law_1119 : decode cL_law 1119 = .ok (.iaload, 1) := by decide +kernel
theorem dL_law_1120 : decode cL_law 1120 = .ok (.invokevirtual 147, 3) := by decide +kernel
theorem dL_law_1123 : decode cL_law 1123 = .ok (.if_icmp .eq 420, 3) := by decide +kernel
theorem dL_law_1126 : decode cL_law 1126 = .ok (.iconst 0, 1) := by decide +kernel
theorem dL_law_1127 : decode cL_law 1127 = .ok (.ireturn, 1) := by decide +kernel
theorem dL_law_1128 : decode cL_law 1128 = .ok (.aload_n 1, 1) := by decide +kernel
theorem dL_law_1129 : decode cL_law 1129 = .ok (.aload_n 0, 1) := by decide +kernel
theorem dL_law_1130 : decode cL_law 1130 = .ok (.iload 4, 2) := by decide +kernel
theorem dL_law_1132 : decode cL_law 1132 = .ok (.iconst 1, 1) := by decide +kernel
theorem dL_law_1133 : decode cL_law 1133 = .ok (.iadd, 1) := by decide +kernel
theorem dL_law_1134 : decode cL_law 1134 = .ok (.iaload, 1) := by decide +kernel
theorem dL_law_1135 : decode cL_law 1135 = .ok (.aload_n 0, 1) := by decide +kernel
theorem dL_law_1136 : decode cL_law 1136 = .ok (.iload 4, 2) := by decide +kernel
theorem dL_law_1138 : decode cL_law 1138 = .ok (.iconst 2, 1) := by decide +kernel
theorem dL_law_1139 : decode cL_law 1139 = .ok (.iadd, 1) := by decide +kernel
theorem dL_law_1140 : decode cL_law 1140 = .ok (.iaload, 1) := by decide +kernel
theorem dL_law_1141 : decode cL_law 1141 = .ok (.invokevirtual 148, 3) := by decide +kernel
theorem dL_law_1144 : decode cL_law 1144 = .ok (.aload_n 2, 1) := by decide +kernel
theorem dL_law_1145 : decode cL_law 1145 = .ok (.aload_n 0, 1) := by decide +kernel
theorem dL_law_1146 : decode cL_law 1146 = .ok (.iload 4, 2) := by decide +kernel
theorem dL_law_1148 : decode cL_law 1148 = .ok (.iconst 1, 1) := by decide +kernel
theorem dL_law_1149 : decode cL_law 1149 = .ok (.iadd, 1) := by decide +kernel
theorem dL_law_1150 : decode cL_law 1150 = .ok (.iaload, 1) := by decide +kernel
theorem dL_law_1151 : decode cL_law 1151 = .ok (.aload_n 0, 1) := by decide +kernel
theorem dL_law_1152 : decode cL_law 1152 = .ok (.iload 4, 2) := by decide +kernel
theorem dL_law_1154 : decode cL_law 1154 = .ok (.iconst 2, 1) := by decide +kernel
theorem dL_law_1155 : decode cL_law 1155 = .ok (.iadd, 1) := by decide +kernel
theorem dL_law_1156 : decode cL_law 1156 = .ok (.iaload, 1) := by decide +kernel
theorem dL_law_1157 : decode cL_law 1157 = .ok (.invokevirtual 151, 3) := by decide +kernel
theorem dL_law_1160 : decode cL_law 1160 = .ok (.if_icmp .eq 383, 3) := by decide +kernel
theorem dL_law_1163 : decode cL_law 1163 = .ok (.iconst 0, 1) := by decide +kernel
theorem dL_law_1164 : decode cL_law 1164 = .ok (.ireturn, 1) := by decide +kernel
theorem dL_law_1165 : decode cL_law 1165 = .ok (.aload_n 1, 1) := by decide +kernel
theorem dL_law_1166 : decode cL_law 1166 = .ok (.invokevirtual 152, 3) := by decide +kernel
theorem dL_law_1169 : decode cL_law 1169 = .ok (.aload_n 2, 1) := by decide +kernel
theorem dL_law_1170 : decode cL_law 1170 = .ok (.invokevirtual 155, 3) := by decide +kernel
theorem dL_law_1173 : decode cL_law 1173 = .ok (.if_icmp .eq 370, 3) := by decide +kernel
theorem dL_law_1176 : decode cL_law 1176 = .ok (.iconst 0, 1) := by decide +kernel
theorem dL_law_1177 : decode cL_law 1177 = .ok (.ireturn, 1) := by decide +kernel
theorem dL_law_1178 : decode cL_law 1178 = .ok (.aload_n 1, 1) := by decide +kernel
theorem dL_law_1179 : decode cL_law 1179 = .ok (.aload_n 0, 1) := by decide +kernel
theorem dL_law_1180 : decode cL_law 1180 = .ok (.iload 4, 2) := by decide +kernel
theorem dL_law_1182 : decode cL_law 1182 = .ok (.iconst 1, 1) := by decide +kernel
theorem dL_law_1183 : decode cL_law 1183 = .ok (.iadd, 1) := by decide +kernel
theorem dL_law_1184 : decode cL_law 1184 = .ok (.iaload, 1) := by decide +kernel
theorem dL_law_1185 : decode cL_law 1185 = .ok (.aload_n 0, 1) := by decide +kernel
theorem dL_law_1186 : decode cL_law 1186 = .ok (.iload 4, 2) := by decide +kernel
theorem dL_law_1188 : decode cL_law 1188 = .ok (.iconst 2, 1) := by decide +kernel
theorem dL_law_1189 : decode cL_law 1189 = .ok (.iadd, 1) := by decide +kernel
theorem dL_law_1190 : decode cL_law 1190 = .ok (.iaload, 1) := by decide +kernel
theorem dL_law_1191 : decode cL_law 1191 = .ok (.aload_n 0, 1) := by decide +kernel
theorem dL_law_1192 : decode cL_law 1192 = .ok (.iload 4, 2) := by decide +kernel
theorem dL_law_1194 : decode cL_law 1194 = .ok (.iconst 3, 1) := by decide +kernel
theorem dL_law_1195 : decode cL_law 1195 = .ok (.iadd, 1) := by decide +kernel
theorem dL_law_1196 : decode cL_law 1196 = .ok (.iaload, 1) := by decide +kernel
theorem dL_law_1197 : decode cL_law 1197 = .ok (.invokevirtual 156, 3) := by decide +kernel
theorem dL_law_1200 : decode cL_law 1200 = .ok (.aload_n 2, 1) := by decide +kernel
theorem dL_law_1201 : decode cL_law 1201 = .ok (.aload_n 0, 1) := by decide +kernel
theorem dL_law_1202 : decode cL_law 1202 = .ok (.iload 4, 2) := by decide +kernel
theorem dL_law_1204 : decode cL_law 1204 = .ok (.iconst 1, 1) := by decide +kernel
theorem dL_law_1205 : decode cL_law 1205 = .ok (.iadd, 1) := by decide +kernel
theorem dL_law_1206 : decode cL_law 1206 = .ok (.iaload, 1) := by decide +kernel
theorem dL_law_1207 : decode cL_law 1207 = .ok (.aload_n 0, 1) := by decide +kernel
theorem dL_law_1208 : decode cL_law 1208 = .ok (.iload 4, 2) := by decide +kernel
theorem dL_law_1210 : decode cL_law 1210 = .ok (.iconst 2, 1) := by decide +kernel
theorem dL_law_1211 : decode cL_law 1211 = .ok (.iadd, 1) := by decide +kernel
theorem dL_law_1212 : decode cL_law 1212 = .ok (.iaload, 1) := by decide +kernel
theorem dL_law_1213 : decode cL_law 1213 = .ok (.aload_n 0, 1) := by decide +kernel
theorem dL_law_1214 : decode cL_law 1214 = .ok (.iload 4, 2) := by decide +kernel
theorem dL_law_1216 : decode cL_law 1216 = .ok (.iconst 3, 1) := by decide +kernel
theorem dL_law_1217 : decode cL_law 1217 = .ok (.iadd, 1) := by decide +kernel
theorem dL_law_1218 : decode cL_law 1218 = .ok (.iaload, 1) := by decide +kernel
theorem dL_law_1219 : decode cL_law 1219 = .ok (.invokevirtual 159, 3) := by decide +kernel
theorem dL_law_1222 : decode cL_law 1222 = .ok (.if_icmp .eq 321, 3) := by decide +kernel
theorem dL_law_1225 : decode cL_law 1225 = .ok (.iconst 0, 1) := by decide +kernel
theorem dL_law_1226 : decode cL_law 1226 = .ok (.ireturn, 1) := by decide +kernel
theorem dL_law_1227 : decode cL_law 1227 = .ok (.aload_n 1, 1) := by decide +kernel
theorem dL_law_1228 : decode cL_law 1228 = .ok (.aload_n 0, 1) := by decide +kernel
theorem dL_law_1229 : decode cL_law 1229 = .ok (.iload 4, 2) := by decide +kernel
theorem dL_law_1231 : decode cL_law 1231 = .ok (.iconst 1, 1) := by decide +kernel
theorem dL_law_1232 : decode cL_law 1232 = .ok (.iadd, 1) := by decide +kernel
theorem dL_law_1233 : decode cL_law 1233 = .ok (.iaload, 1) := by decide +kernel
theorem dL_law_1234 : decode cL_law 1234 = .ok (.aload_n 0, 1) := by decide +kernel
theorem dL_law_1235 : decode cL_law 1235 = .ok (.iload 4, 2) := by decide +kernel
theorem dL_law_1237 : decode cL_law 1237 = .ok (.iconst 2, 1) := by decide +kernel
theorem dL_law_1238 : decode cL_law 1238 = .ok (.iadd, 1) := by decide +kernel
theorem dL_law_1239 : decode cL_law 1239 = .ok (.iaload, 1) := by decide +kernel
theorem dL_law_1240 : decode cL_law 1240 = .ok (.invokevirtual 160, 3) := by decide +kernel
theorem dL_law_1243 : decode cL_law 1243 = .ok (.aload_n 2, 1) := by decide +kernel
theorem dL_law_1244 : decode cL_law 1244 = .ok (.aload_n 0, 1) := by decide +kernel
theorem dL_law_1245 : decode cL_law 1245 = .ok (.iload 4, 2) := by decide +kernel
theorem dL_law_1247 : decode cL_law 1247 = .ok (.iconst 1, 1) := by decide +kernel
theorem dL_law_1248 : decode cL_law 1248 = .ok (.iadd, 1) := by decide +kernel
theorem dL_law_1249 : decode cL_law 1249 = .ok (.iaload, 1) := by decide +kernel
theorem dL_law_1250 : decode cL_law 1250 = .ok (.aload_n 0, 1) := by decide +kernel
theorem dL_law_1251 : decode cL_law 1251 = .ok (.iload 4, 2) := by decide +kernel
theorem dL_law_1253 : decode cL_law 1253 = .ok (.iconst 2, 1) := by decide +kernel
theorem dL_law_1254 : decode cL_law 1254 = .ok (.iadd, 1) := by decide +kernel
theorem dL_law_1255 : decode cL_law 1255 = .ok (.iaload, 1) := by decide +kernel
theorem dL_law_1256 : decode cL_law 1256 = .ok (.invokevirtual 163, 3) := by decide +kernel
theorem dL_law_1259 : decode cL_law 1259 = .ok (.if_icmp .eq 284, 3) := by decide +kernel
theorem dL_law_1262 : decode cL_law 1262 = .ok (.iconst 0, 1) := by decide +kernel
theorem dL_law_1263 : decode cL_law 1263 = .ok (.ireturn, 1) := by decide +kernel
theorem dL_law_1264 : decode cL_law 1264 = .ok (.aload_n 1, 1) := by decide +kernel
theorem dL_law_1265 : decode cL_law 1265 = .ok (.aload_n 0, 1) := by decide +kernel
theorem dL_law_1266 : decode cL_law 1266 = .ok (.iload 4, 2) := by decide +kernel
theorem dL_law_1268 : decode cL_law 1268 = .ok (.iconst 1, 1) := by decide +kernel
theorem dL_law_1269 : decode cL_law 1269 = .ok (.iadd, 1) := by decide +kernel
theorem dL_law_1270 : decode cL_law 1270 = .ok (.iaload, 1) := by decide +kernel
theorem dL_law_1271 : decode cL_law 1271 = .ok (.aload_n 0, 1) := by decide +kernel
theorem dL_law_1272 : decode cL_law 1272 = .ok (.iload 4, 2) := by decide +kernel
theorem dL_law_1274 : decode cL_law 1274 = .ok (.iconst 2, 1) := by decide +kernel
theorem dL_law_1275 : decode cL_law 1275 = .ok (.iadd, 1) := by decide +kernel
theorem dL_law_1276 : decode cL_law 1276 = .ok (.iaload, 1) := by decide +kernel
theorem dL_law_1277 : decode cL_law 1277 = .ok (.aload_n 0, 1) := by decide +kernel
theorem dL_law_1278 : decode cL_law 1278 = .ok (.iload 4, 2) := by decide +kernel
theorem dL_law_1280 : decode cL_law 1280 = .ok (.iconst 3, 1) := by decide +kernel
theorem dL_law_1281 : decode cL_law 1281 = .ok (.iadd, 1) := by decide +kernel
theorem dL_law_1282 : decode cL_law 1282 = .ok (.iaload, 1) := by decide +kernel
theorem dL_law_1283 : decode cL_law 1283 = .ok (.invokevirtual 164, 3) := by decide +kernel
theorem dL_law_1286 : decode cL_law 1286 = .ok (.aload_n 2, 1) := by decide +kernel
theorem dL_law_1287 : decode cL_law 1287 = .ok (.aload_n 0, 1) := by decide +kernel
theorem dL_law_1288 : decode cL_law 1288 = .ok (.iload 4, 2) := by decide +kernel
theorem dL_law_1290 : decode cL_law 1290 = .ok (.iconst 1, 1) := by decide +kernel
theorem dL_law_1291 : decode cL_law 1291 = .ok (.iadd, 1) := by decide +kernel
theorem dL_law_1292 : decode cL_law 1292 = .ok (.iaload, 1) := by decide +kernel
theorem dL_law_1293 : decode cL_law 1293 = .ok (.aload_n 0, 1) := by decide +kernel
theorem dL_law_1294 : decode cL_law 1294 = .ok (.iload 4, 2) := by decide +kernel
theorem dL_law_1296 : decode cL_law 1296 = .ok (.iconst 2, 1) := by decide +kernel
theorem dL_law_1297 : decode cL_law 1297 = .ok (.iadd, 1) := by decide +kernel
theorem dL_law_1298 : decode cL_law 1298 = .ok (.iaload, 1) := by decide +kernel
theorem dL_law_1299 : decode cL_law 1299 = .ok (.aload_n 0, 1) := by decide +kernel
theorem dL_law_1300 : decode cL_law 1300 = .ok (.iload 4, 2) := by decide +kernel
theorem dL_law_1302 : decode cL_law 1302 = .ok (.iconst 3, 1) := by decide +kernel
theorem dL_law_1303 : decode cL_law 1303 = .ok (.iadd, 1) := by decide +kernel
theorem dL_law_1304 : decode cL_law 1304 = .ok (.iaload, 1) := by decide +kernel
theorem dL_law_1305 : decode cL_law 1305 = .ok (.invokevirtual 167, 3) := by decide +kernel
theorem dL_law_1308 : decode cL_law 1308 = .ok (.if_icmp .eq 235, 3) := by decide +kernel
theorem dL_law_1311 : decode cL_law 1311 = .ok (.iconst 0, 1) := by decide +kernel
theorem dL_law_1312 : decode cL_law 1312 = .ok (.ireturn, 1) := by decide +kernel
theorem dL_law_1313 : decode cL_law 1313 = .ok (.aload_n 1, 1) := by decide +kernel
theorem dL_law_1314 : decode cL_law 1314 = .ok (.aload_n 0, 1) := by decide +kernel
theorem dL_law_1315 : decode cL_law 1315 = .ok (.iload 4, 2) := by decide +kernel
theorem dL_law_1317 : decode cL_law 1317 = .ok (.iconst 1, 1) := by decide +kernel
theorem dL_law_1318 : decode cL_law 1318 = .ok (.iadd, 1) := by decide +kernel
theorem dL_law_1319 : decode cL_law 1319 = .ok (.iaload, 1) := by decide +kernel
theorem dL_law_1320 : decode cL_law 1320 = .ok (.aload_n 0, 1) := by decide +kernel
theorem dL_law_1321 : decode cL_law 1321 = .ok (.iload 4, 2) := by decide +kernel
theorem dL_law_1323 : decode cL_law 1323 = .ok (.iconst 2, 1) := by decide +kernel
theorem dL_law_1324 : decode cL_law 1324 = .ok (.iadd, 1) := by decide +kernel
theorem dL_law_1325 : decode cL_law 1325 = .ok (.iaload, 1) := by decide +kernel
theorem dL_law_1326 : decode cL_law 1326 = .ok (.invokevirtual 168, 3) := by decide +kernel
theorem dL_law_1329 : decode cL_law 1329 = .ok (.aload_n 2, 1) := by decide +kernel
theorem dL_law_1330 : decode cL_law 1330 = .ok (.aload_n 0, 1) := by decide +kernel
theorem dL_law_1331 : decode cL_law 1331 = .ok (.iload 4, 2) := by decide +kernel
theorem dL_law_1333 : decode cL_law 1333 = .ok (.iconst 1, 1) := by decide +kernel
theorem dL_law_1334 : decode cL_law 1334 = .ok (.iadd, 1) := by decide +kernel
theorem dL_law_1335 : decode cL_law 1335 = .ok (.iaload, 1) := by decide +kernel
theorem dL_law_1336 : decode cL_law 1336 = .ok (.aload_n 0, 1) := by decide +kernel
theorem dL_law_1337 : decode cL_law 1337 = .ok (.iload 4, 2) := by decide +kernel
theorem dL_law_1339 : decode cL_law 1339 = .ok (.iconst 2, 1) := by decide +kernel
theorem dL_law_1340 : decode cL_law 1340 = .ok (.iadd, 1) := by decide +kernel
theorem dL_law_1341 : decode cL_law 1341 = .ok (.iaload, 1) := by decide +kernel
theorem dL_law_1342 : decode cL_law 1342 = .ok (.invokevirtual 171, 3) := by decide +kernel
theorem dL_law_1345 : decode cL_law 1345 = .ok (.if_icmp .eq 198, 3) := by decide +kernel
theorem dL_law_1348 : decode cL_law 1348 = .ok (.iconst 0, 1) := by decide +kernel
theorem dL_law_1349 : decode cL_law 1349 = .ok (.ireturn, 1) := by decide +kernel
theorem dL_law_1350 : decode cL_law 1350 = .ok (.aload_n 1, 1) := by decide +kernel
theorem dL_law_1351 : decode cL_law 1351 = .ok (.invokevirtual 172, 3) := by decide +kernel
theorem dL_law_1354 : decode cL_law 1354 = .ok (.aload_n 2, 1) := by decide +kernel
theorem dL_law_1355 : decode cL_law 1355 = .ok (.invokevirtual 175, 3) := by decide +kernel
theorem dL_law_1358 : decode cL_law 1358 = .ok (.if_icmp .eq 185, 3) := by decide +kernel
theorem dL_law_1361 : decode cL_law 1361 = .ok (.iconst 0, 1) := by decide +kernel
theorem dL_law_1362 : decode cL_law 1362 = .ok (.ireturn, 1) := by decide +kernel
theorem dL_law_1363 : decode cL_law 1363 = .ok (.aload_n 1, 1) := by decide +kernel
theorem dL_law_1364 : decode cL_law 1364 = .ok (.invokevirtual 176, 3) := by decide +kernel
theorem dL_law_1367 : decode cL_law 1367 = .ok (.aload_n 2, 1) := by decide +kernel
theorem dL_law_1368 : decode cL_law 1368 = .ok (.invokevirtual 179, 3) := by decide +kernel
theorem dL_law_1371 : decode cL_law 1371 = .ok (.if_icmp .eq 172, 3) := by decide +kernel
theorem dL_law_1374 : decode cL_law 1374 = .ok (.iconst 0, 1) := by decide +kernel
theorem dL_law_1375 : decode cL_law 1375 = .ok (.ireturn, 1) := by decide +kernel
theorem dL_law_1376 : decode cL_law 1376 = .ok (.aload_n 1, 1) := by decide +kernel
theorem dL_law_1377 : decode cL_law 1377 = .ok (.aload_n 0, 1) := by decide +kernel
theorem dL_law_1378 : decode cL_law 1378 = .ok (.iload 4, 2) := by decide +kernel
theorem dL_law_1380 : decode cL_law 1380 = .ok (.iconst 1, 1) := by decide +kernel
theorem dL_law_1381 : decode cL_law 1381 = .ok (.iadd, 1) := by decide +kernel
theorem dL_law_1382 : decode cL_law 1382 = .ok (.iaload, 1) := by decide +kernel
theorem dL_law_1383 : decode cL_law 1383 = .ok (.aload_n 0, 1) := by decide +kernel
theorem dL_law_1384 : decode cL_law 1384 = .ok (.iload 4, 2) := by decide +kernel
theorem dL_law_1386 : decode cL_law 1386 = .ok (.iconst 2, 1) := by decide +kernel
theorem dL_law_1387 : decode cL_law 1387 = .ok (.iadd, 1) := by decide +kernel
theorem dL_law_1388 : decode cL_law 1388 = .ok (.iaload, 1) := by decide +kernel
theorem dL_law_1389 : decode cL_law 1389 = .ok (.invokevirtual 180, 3) := by decide +kernel
theorem dL_law_1392 : decode cL_law 1392 = .ok (.aload_n 2, 1) := by decide +kernel
theorem dL_law_1393 : decode cL_law 1393 = .ok (.aload_n 0, 1) := by decide +kernel
theorem dL_law_1394 : decode cL_law 1394 = .ok (.iload 4, 2) := by decide +kernel
theorem dL_law_1396 : decode cL_law 1396 = .ok (.iconst 1, 1) := by decide +kernel
theorem dL_law_1397 : decode cL_law 1397 = .ok (.iadd, 1) := by decide +kernel
theorem dL_law_1398 : decode cL_law 1398 = .ok (.iaload, 1) := by decide +kernel
theorem dL_law_1399 : decode cL_law 1399 = .ok (.aload_n 0, 1) := by decide +kernel
theorem dL_law_1400 : decode cL_law 1400 = .ok (.iload 4, 2) := by decide +kernel
theorem dL_law_1402 : decode cL_law 1402 = .ok (.iconst 2, 1) := by decide +kernel
theorem dL_law_1403 : decode cL_law 1403 = .ok (.iadd, 1) := by decide +kernel
theorem dL_law_1404 : decode cL_law 1404 = .ok (.iaload, 1) := by decide +kernel
theorem dL_law_1405 : decode cL_law 1405 = .ok (.invokevirtual 183, 3) := by decide +kernel
theorem dL_law_1408 : decode cL_law 1408 = .ok (.if_icmp .eq 135, 3) := by decide +kernel
theorem dL_law_1411 : decode cL_law 1411 = .ok (.iconst 0, 1) := by decide +kernel
theorem dL_law_1412 : decode cL_law 1412 = .ok (.ireturn, 1) := by decide +kernel
theorem dL_law_1413 : decode cL_law 1413 = .ok (.aload_n 1, 1) := by decide +kernel
theorem dL_law_1414 : decode cL_law 1414 = .ok (.aload_n 0, 1) := by decide +kernel
theorem dL_law_1415 : decode cL_law 1415 = .ok (.iload 4, 2) := by decide +kernel
theorem dL_law_1417 : decode cL_law 1417 = .ok (.iconst 1, 1) := by decide +kernel
theorem dL_law_1418 : decode cL_law 1418 = .ok (.iadd, 1) := by decide +kernel
theorem dL_law_1419 : decode cL_law 1419 = .ok (.iaload, 1) := by decide +kernel
theorem dL_law_1420 : decode cL_law 1420 = .ok (.invokevirtual 184, 3) := by decide +kernel
theorem dL_law_1423 : decode cL_law 1423 = .ok (.aload_n 2, 1) := by decide +kernel
theorem dL_law_1424 : decode cL_law 1424 = .ok (.aload_n 0, 1) := by decide +kernel
theorem dL_law_1425 : decode cL_law 1425 = .ok (.iload 4, 2) := by decide +kernel
theorem dL_law_1427 : decode cL_law 1427 = .ok (.iconst 1, 1) := by decide +kernel
theorem dL_law_1428 : decode cL_law 1428 = .ok (.iadd, 1) := by decide +kernel
theorem dL_law_1429 : decode cL_law 1429 = .ok (.iaload, 1) := by decide +kernel
theorem dL_law_1430 : decode cL_law 1430 = .ok (.invokevirtual 187, 3) := by decide +kernel
theorem dL_law_1433 : decode cL_law 1433 = .ok (.if_icmp .eq 110, 3) := by decide +kernel
theorem dL_law_1436 : decode cL_law 1436 = .ok (.iconst 0, 1) := by decide +kernel
theorem dL_law_1437 : decode cL_law 1437 = .ok (.ireturn, 1) := by decide +kernel
theorem dL_law_1438 : decode cL_law 1438 = .ok (.aload_n 1, 1) := by decide +kernel
theorem dL_law_1439 : decode cL_law 1439 = .ok (.aload_n 0, 1) := by decide +kernel
theorem dL_law_1440 : decode cL_law 1440 = .ok (.iload 4, 2) := by decide +kernel
theorem dL_law_1442 : decode cL_law 1442 = .ok (.iconst 1, 1) := by decide +kernel
theorem dL_law_1443 : decode cL_law 1443 = .ok (.iadd, 1) := by decide +kernel
theorem dL_law_1444 : decode cL_law 1444 = .ok (.iaload, 1) := by decide +kernel
theorem dL_law_1445 : decode cL_law 1445 = .ok (.invokevirtual 188, 3) := by decide +kernel
theorem dL_law_1448 : decode cL_law 1448 = .ok (.aload_n 2, 1) := by decide +kernel
theorem dL_law_1449 : decode cL_law 1449 = .ok (.aload_n 0, 1) := by decide +kernel
theorem dL_law_1450 : decode cL_law 1450 = .ok (.iload 4, 2) := by decide +kernel
theorem dL_law_1452 : decode cL_law 1452 = .ok (.iconst 1, 1) := by decide +kernel
theorem dL_law_1453 : decode cL_law 1453 = .ok (.iadd, 1) := by decide +kernel
theorem dL_law_1454 : decode cL_law 1454 = .ok (.iaload, 1) := by decide +kernel
theorem dL_law_1455 : decode cL_law 1455 = .ok (.invokevirtual 191, 3) := by decide +kernel
theorem dL_law_1458 : decode cL_law 1458 = .ok (.if_icmp .eq 85, 3) := by decide +kernel
theorem dL_law_1461 : decode cL_law 1461 = .ok (.iconst 0, 1) := by decide +kernel
theorem dL_law_1462 : decode cL_law 1462 = .ok (.ireturn, 1) := by decide +kernel
theorem dL_law_1463 : decode cL_law 1463 = .ok (.aload_n 1, 1) := by decide +kernel
theorem dL_law_1464 : decode cL_law 1464 = .ok (.aload_n 0, 1) := by decide +kernel
theorem dL_law_1465 : decode cL_law 1465 = .ok (.iload 4, 2) := by decide +kernel
theorem dL_law_1467 : decode cL_law 1467 = .ok (.iconst 1, 1) := by decide +kernel
theorem dL_law_1468 : decode cL_law 1468 = .ok (.iadd, 1) := by decide +kernel
theorem dL_law_1469 : decode cL_law 1469 = .ok (.iaload, 1) := by decide +kernel
theorem dL_law_1470 : decode cL_law 1470 = .ok (.invokevirtual 192, 3) := by decide +kernel
theorem dL_law_1473 : decode cL_law 1473 = .ok (.aload_n 2, 1) := by decide +kernel
theorem dL_law_1474 : decode cL_law 1474 = .ok (.aload_n 0, 1) := by decide +kernel
theorem dL_law_1475 : decode cL_law 1475 = .ok (.iload 4, 2) := by decide +kernel
theorem dL_law_1477 : decode cL_law 1477 = .ok (.iconst 1, 1) := by decide +kernel
theorem dL_law_1478 : decode cL_law 1478 = .ok (.iadd, 1) := by decide +kernel
theorem dL_law_1479 : decode cL_law 1479 = .ok (.iaload, 1) := by decide +kernel
theorem dL_law_1480 : decode cL_law 1480 = .ok (.invokevirtual 195, 3) := by decide +kernel
theorem dL_law_1483 : decode cL_law 1483 = .ok (.if_icmp .eq 60, 3) := by decide +kernel
theorem dL_law_1486 : decode cL_law 1486 = .ok (.iconst 0, 1) := by decide +kernel
theorem dL_law_1487 : decode cL_law 1487 = .ok (.ireturn, 1) := by decide +kernel
theorem dL_law_1488 : decode cL_law 1488 = .ok (.aload_n 1, 1) := by decide +kernel
theorem dL_law_1489 : decode cL_law 1489 = .ok (.aload_n 0, 1) := by decide +kernel
theorem dL_law_1490 : decode cL_law 1490 = .ok (.iload 4, 2) := by decide +kernel
theorem dL_law_1492 : decode cL_law 1492 = .ok (.iconst 1, 1) := by decide +kernel
theorem dL_law_1493 : decode cL_law 1493 = .ok (.iadd, 1) := by decide +kernel
theorem dL_law_1494 : decode cL_law 1494 = .ok (.iaload, 1) := by decide +kernel
theorem dL_law_1495 : decode cL_law 1495 = .ok (.aload_n 3, 1) := by decide +kernel
theorem dL_law_1496 : decode cL_law 1496 = .ok (.invokestatic 196, 3) := by decide +kernel
theorem dL_law_1499 : decode cL_law 1499 = .ok (.istore 5, 2) := by decide +kernel
theorem dL_law_1501 : decode cL_law 1501 = .ok (.aload_n 2, 1) := by decide +kernel
theorem dL_law_1502 : decode cL_law 1502 = .ok (.aload_n 0, 1) := by decide +kernel
theorem dL_law_1503 : decode cL_law 1503 = .ok (.iload 4, 2) := by decide +kernel
theorem dL_law_1505 : decode cL_law 1505 = .ok (.iconst 1, 1) := by decide +kernel
theorem dL_law_1506 : decode cL_law 1506 = .ok (.iadd, 1) := by decide +kernel
theorem dL_law_1507 : decode cL_law 1507 = .ok (.iaload, 1) := by decide +kernel
theorem dL_law_1508 : decode cL_law 1508 = .ok (.invokevirtual 198, 3) := by decide +kernel
theorem dL_law_1511 : decode cL_law 1511 = .ok (.lstore 6, 2) := by decide +kernel
theorem dL_law_1513 : decode cL_law 1513 = .ok (.aload_n 2, 1) := by decide +kernel
theorem dL_law_1514 : decode cL_law 1514 = .ok (.invokevirtual 64, 3) := by decide +kernel
theorem dL_law_1517 : decode cL_law 1517 = .ok (.iload 5, 2) := by decide +kernel
theorem dL_law_1519 : decode cL_law 1519 = .ok (.if_icmp .eq 5, 3) := by decide +kernel
theorem dL_law_1522 : decode cL_law 1522 = .ok (.iconst 0, 1) := by decide +kernel
theorem dL_law_1523 : decode cL_law 1523 = .ok (.ireturn, 1) := by decide +kernel
theorem dL_law_1524 : decode cL_law 1524 = .ok (.iload 5, 2) := by decide +kernel
theorem dL_law_1526 : decode cL_law 1526 = .ok (.ifCond .ne 14, 3) := by decide +kernel
theorem dL_law_1529 : decode cL_law 1529 = .ok (.aload_n 3, 1) := by decide +kernel
theorem dL_law_1530 : decode cL_law 1530 = .ok (.iconst 0, 1) := by decide +kernel
theorem dL_law_1531 : decode cL_law 1531 = .ok (.laload, 1) := by decide +kernel
theorem dL_law_1532 : decode cL_law 1532 = .ok (.lload 6, 2) := by decide +kernel
theorem dL_law_1534 : decode cL_law 1534 = .ok (.lcmp, 1) := by decide +kernel
theorem dL_law_1535 : decode cL_law 1535 = .ok (.ifCond .eq 5, 3) := by decide +kernel
theorem dL_law_1538 : decode cL_law 1538 = .ok (.iconst 0, 1) := by decide +kernel
theorem dL_law_1539 : decode cL_law 1539 = .ok (.ireturn, 1) := by decide +kernel
theorem dL_law_1540 : decode cL_law 1540 = .ok (.goto 3, 3) := by decide +kernel
theorem dL_law_1543 : decode cL_law 1543 = .ok (.iinc 4 7, 3) := by decide +kernel
theorem dL_law_1546 : decode cL_law 1546 = .ok (.goto (-1523), 3) := by decide +kernel
theorem dL_law_1549 : decode cL_law 1549 = .ok (.iconst 1, 1) := by decide +kernel
theorem dL_law_1550 : decode cL_law 1550 = .ok (.ireturn, 1) := by decide +kernel
