theorem dX0_init_0 : decode cX0_init 0 = .ok (.aload_n 0, 1) := by decide +kernel
theorem dX0_init_1 : decode cX0_init 1 = .ok (.invokespecial 3, 3) := by decide +kernel
theorem dX0_init_4 : decode cX0_init 4 = .ok (.aload_n 0, 1) := by decide +kernel
theorem dX0_init_5 : decode cX0_init 5 = .ok (.bipush 40, 2) := by decide +kernel
theorem dX0_init_7 : decode cX0_init 7 = .ok (.putfield 9, 3) := by decide +kernel
theorem dX0_init_10 : decode cX0_init 10 = .ok (.aload_n 0, 1) := by decide +kernel
theorem dX0_init_11 : decode cX0_init 11 = .ok (.bipush 20, 2) := by decide +kernel
theorem dX0_init_13 : decode cX0_init 13 = .ok (.putfield 15, 3) := by decide +kernel
theorem dX0_init_16 : decode cX0_init 16 = .ok (.aload_n 0, 1) := by decide +kernel
theorem dX0_init_17 : decode cX0_init 17 = .ok (.iconst 1, 1) := by decide +kernel
theorem dX0_init_18 : decode cX0_init 18 = .ok (.putfield 18, 3) := by decide +kernel
theorem dX0_init_21 : decode cX0_init 21 = .ok (.aload_n 0, 1) := by decide +kernel
theorem dX0_init_22 : decode cX0_init 22 = .ok (.iconst 2, 1) := by decide +kernel
theorem dX0_init_23 : decode cX0_init 23 = .ok (.putfield 21, 3) := by decide +kernel
theorem dX0_init_26 : decode cX0_init 26 = .ok (.aload_n 0, 1) := by decide +kernel
theorem dX0_init_27 : decode cX0_init 27 = .ok (.bipush 10, 2) := by decide +kernel
theorem dX0_init_29 : decode cX0_init 29 = .ok (.putfield 24, 3) := by decide +kernel
theorem dX0_init_32 : decode cX0_init 32 = .ok (.aload_n 0, 1) := by decide +kernel
theorem dX0_init_33 : decode cX0_init 33 = .ok (.bipush 10, 2) := by decide +kernel
theorem dX0_init_35 : decode cX0_init 35 = .ok (.putfield 27, 3) := by decide +kernel
theorem dX0_init_38 : decode cX0_init 38 = .ok (.aload_n 0, 1) := by decide +kernel
theorem dX0_init_39 : decode cX0_init 39 = .ok (.iconst 0, 1) := by decide +kernel
theorem dX0_init_40 : decode cX0_init 40 = .ok (.putfield 30, 3) := by decide +kernel
theorem dX0_init_43 : decode cX0_init 43 = .ok (.aload_n 0, 1) := by decide +kernel
theorem dX0_init_44 : decode cX0_init 44 = .ok (.iconst 3, 1) := by decide +kernel
theorem dX0_init_45 : decode cX0_init 45 = .ok (.newarray .int, 2) := by decide +kernel
theorem dX0_init_47 : decode cX0_init 47 = .ok (.dup, 1) := by decide +kernel
theorem dX0_init_48 : decode cX0_init 48 = .ok (.iconst 0, 1) := by decide +kernel
theorem dX0_init_49 : decode cX0_init 49 = .ok (.sipush 10000, 3) := by decide +kernel
theorem dX0_init_52 : decode cX0_init 52 = .ok (.iastore, 1) := by decide +kernel
theorem dX0_init_53 : decode cX0_init 53 = .ok (.dup, 1) := by decide +kernel
theorem dX0_init_54 : decode cX0_init 54 = .ok (.iconst 1, 1) := by decide +kernel
theorem dX0_init_55 : decode cX0_init 55 = .ok (.bipush 100, 2) := by decide +kernel
theorem dX0_init_57 : decode cX0_init 57 = .ok (.iastore, 1) := by decide +kernel
theorem dX0_init_58 : decode cX0_init 58 = .ok (.dup, 1) := by decide +kernel
theorem dX0_init_59 : decode cX0_init 59 = .ok (.iconst 2, 1) := by decide +kernel
theorem dX0_init_60 : decode cX0_init 60 = .ok (.iconst 1, 1) := by decide +kernel
theorem dX0_init_61 : decode cX0_init 61 = .ok (.iastore, 1) := by decide +kernel
theorem dX0_init_62 : decode cX0_init 62 = .ok (.putfield 33, 3) := by decide +kernel
theorem dX0_init_65 : decode cX0_init 65 = .ok (.aload_n 0, 1) := by decide +kernel
theorem dX0_init_66 : decode cX0_init 66 = .ok (.iconst 3, 1) := by decide +kernel
theorem dX0_init_67 : decode cX0_init 67 = .ok (.newarray .int, 2) := by decide +kernel
theorem dX0_init_69 : decode cX0_init 69 = .ok (.putfield 37, 3) := by decide +kernel
theorem dX0_init_72 : decode cX0_init 72 = .ok (.aload_n 0, 1) := by decide +kernel
theorem dX0_init_73 : decode cX0_init 73 = .ok (.iconst 3, 1) := by decide +kernel
theorem dX0_init_74 : decode cX0_init 74 = .ok (.bipush 70, 2) := by decide +kernel
theorem dX0_init_76 : decode cX0_init 76 = .ok (.multianewarray 40 2, 4) := by decide +kernel
theorem dX0_init_80 : decode cX0_init 80 = .ok (.putfield 42, 3) := by decide +kernel
theorem dX0_init_83 : decode cX0_init 83 = .ok (.aload_n 0, 1) := by decide +kernel
theorem dX0_init_84 : decode cX0_init 84 = .ok (.bipush 12, 2) := by decide +kernel
theorem dX0_init_86 : decode cX0_init 86 = .ok (.newarray .int, 2) := by decide +kernel
theorem dX0_init_88 : decode cX0_init 88 = .ok (.putfield 45, 3) := by decide +kernel
theorem dX0_init_91 : decode cX0_init 91 = .ok (.aload_n 0, 1) := by decide +kernel
theorem dX0_init_92 : decode cX0_init 92 = .ok (.bipush 12, 2) := by decide +kernel
theorem dX0_init_94 : decode cX0_init 94 = .ok (.newarray .int, 2) := by decide +kernel
theorem dX0_init_96 : decode cX0_init 96 = .ok (.putfield 48, 3) := by decide +kernel
theorem dX0_init_99 : decode cX0_init 99 = .ok (.aload_n 0, 1) := by decide +kernel
theorem dX0_init_100 : decode cX0_init 100 = .ok (.bipush 12, 2) := by decide +kernel
theorem dX0_init_102 : decode cX0_init 102 = .ok (.newarray .int, 2) := by decide +kernel
theorem dX0_init_104 : decode cX0_init 104 = .ok (.putfield 51, 3) := by decide +kernel
theorem dX0_init_107 : decode cX0_init 107 = .ok (.return_, 1) := by decide +kernel
theorem dX0_copy_0 : decode cX0_copy 0 = .ok (.aload_n 0, 1) := by decide +kernel
theorem dX0_copy_1 : decode cX0_copy 1 = .ok (.aload_n 1, 1) := by decide +kernel
theorem dX0_copy_2 : decode cX0_copy 2 = .ok (.getfield 9, 3) := by decide +kernel
theorem dX0_copy_5 : decode cX0_copy 5 = .ok (.putfield 9, 3) := by decide +kernel
theorem dX0_copy_8 : decode cX0_copy 8 = .ok (.aload_n 0, 1) := by decide +kernel
theorem dX0_copy_9 : decode cX0_copy 9 = .ok (.aload_n 1, 1) := by decide +kernel
theorem dX0_copy_10 : decode cX0_copy 10 = .ok (.getfield 15, 3) := by decide +kernel
theorem dX0_copy_13 : decode cX0_copy 13 = .ok (.putfield 15, 3) := by decide +kernel
theorem dX0_copy_16 : decode cX0_copy 16 = .ok (.aload_n 0, 1) := by decide +kernel
theorem dX0_copy_17 : decode cX0_copy 17 = .ok (.aload_n 1, 1) := by decide +kernel
theorem dX0_copy_18 : decode cX0_copy 18 = .ok (.getfield 18, 3) := by decide +kernel
theorem dX0_copy_21 : decode cX0_copy 21 = .ok (.putfield 18, 3) := by decide +kernel
theorem dX0_copy_24 : decode cX0_copy 24 = .ok (.aload_n 0, 1) := by decide +kernel
theorem dX0_copy_25 : decode cX0_copy 25 = .ok (.aload_n 1, 1) := by decide +kernel
theorem dX0_copy_26 : decode cX0_copy 26 = .ok (.getfield 21, 3) := by decide +kernel
theorem dX0_copy_29 : decode cX0_copy 29 = .ok (.aload_n 1, 1) := by decide +kernel
theorem dX0_copy_30 : decode cX0_copy 30 = .ok (.getfield 24, 3) := by decide +kernel
theorem dX0_copy_33 : decode cX0_copy 33 = .ok (.aload_n 1, 1) := by decide +kernel
theorem dX0_copy_34 : decode cX0_copy 34 = .ok (.getfield 27, 3) := by decide +kernel
theorem dX0_copy_37 : decode cX0_copy 37 = .ok (.invokevirtual 54, 3) := by decide +kernel
theorem dX0_copy_40 : decode cX0_copy 40 = .ok (.aload_n 1, 1) := by decide +kernel
theorem dX0_copy_41 : decode cX0_copy 41 = .ok (.getfield 33, 3) := by decide +kernel
theorem dX0_copy_44 : decode cX0_copy 44 = .ok (.iconst 0, 1) := by decide +kernel
theorem dX0_copy_45 : decode cX0_copy 45 = .ok (.aload_n 0, 1) := by decide +kernel
theorem dX0_copy_46 : decode cX0_copy 46 = .ok (.getfield 33, 3) := by decide +kernel
theorem dX0_copy_49 : decode cX0_copy 49 = .ok (.iconst 0, 1) := by decide +kernel
theorem dX0_copy_50 : decode cX0_copy 50 = .ok (.iconst 3, 1) := by decide +kernel
theorem dX0_copy_51 : decode cX0_copy 51 = .ok (.invokestatic 58, 3) := by decide +kernel
theorem dX0_copy_54 : decode cX0_copy 54 = .ok (.aload_n 1, 1) := by decide +kernel
theorem dX0_copy_55 : decode cX0_copy 55 = .ok (.getfield 37, 3) := by decide +kernel
theorem dX0_copy_58 : decode cX0_copy 58 = .ok (.iconst 0, 1) := by decide +kernel
theorem dX0_copy_59 : decode cX0_copy 59 = .ok (.aload_n 0, 1) := by decide +kernel
theorem dX0_copy_60 : decode cX0_copy 60 = .ok (.getfield 37, 3) := by decide +kernel
theorem dX0_copy_63 : decode cX0_copy 63 = .ok (.iconst 0, 1) := by decide +kernel
theorem dX0_copy_64 : decode cX0_copy 64 = .ok (.iconst 3, 1) := by decide +kernel
theorem dX0_copy_65 : decode cX0_copy 65 = .ok (.invokestatic 58, 3) := by decide +kernel
theorem dX0_copy_68 : decode cX0_copy 68 = .ok (.iconst 0, 1) := by decide +kernel
theorem dX0_copy_69 : decode cX0_copy 69 = .ok (.istore_n 2, 1) := by decide +kernel
theorem dX0_copy_70 : decode cX0_copy 70 = .ok (.iload_n 2, 1) := by decide +kernel
theorem dX0_copy_71 : decode cX0_copy 71 = .ok (.iconst 3, 1) := by decide +kernel
theorem dX0_copy_72 : decode cX0_copy 72 = .ok (.if_icmp .ge 28, 3) := by decide +kernel
theorem dX0_copy_75 : decode cX0_copy 75 = .ok (.aload_n 1, 1) := by decide +kernel
theorem dX0_copy_76 : decode cX0_copy 76 = .ok (.getfield 42, 3) := by decide +kernel
theorem dX0_copy_79 : decode cX0_copy 79 = .ok (.iload_n 2, 1) := by decide +kernel
theorem dX0_copy_80 : decode cX0_copy 80 = .ok (.aaload, 1) := by decide +kernel
theorem dX0_copy_81 : decode cX0_copy 81 = .ok (.iconst 0, 1) := by decide +kernel
theorem dX0_copy_82 : decode cX0_copy 82 = .ok (.aload_n 0, 1) := by decide +kernel
theorem dX0_copy_83 : decode cX0_copy 83 = .ok (.getfield 42, 3) := by decide +kernel
theorem dX0_copy_86 : decode cX0_copy 86 = .ok (.iload_n 2, 1) := by decide +kernel
theorem dX0_copy_87 : decode cX0_copy 87 = .ok (.aaload, 1) := by decide +kernel
theorem dX0_copy_88 : decode cX0_copy 88 = .ok (.iconst 0, 1) := by decide +kernel
theorem dX0_copy_89 : decode cX0_copy 89 = .ok (.bipush 70, 2) := by decide +kernel
theorem dX0_copy_91 : decode cX0_copy 91 = .ok (.invokestatic 58, 3) := by decide +kernel
theorem dX0_copy_94 : decode cX0_copy 94 = .ok (.iinc 2 1, 3) := by decide +kernel
theorem dX0_copy_97 : decode cX0_copy 97 = .ok (.goto (-27), 3) := by decide +kernel
theorem dX0_copy_100 : decode cX0_copy 100 = .ok (.aload_n 0, 1) := by decide +kernel
theorem dX0_copy_101 : decode cX0_copy 101 = .ok (.aload_n 1, 1) := by decide +kernel
theorem dX0_copy_102 : decode cX0_copy 102 = .ok (.getfield 30, 3) := by decide +kernel
theorem dX0_copy_105 : decode cX0_copy 105 = .ok (.putfield 30, 3) := by decide +kernel
theorem dX0_copy_108 : decode cX0_copy 108 = .ok (.aload_n 1, 1) := by decide +kernel
theorem dX0_copy_109 : decode cX0_copy 109 = .ok (.getfield 45, 3) := by decide +kernel
theorem dX0_copy_112 : decode cX0_copy 112 = .ok (.iconst 0, 1) := by decide +kernel
theorem dX0_copy_113 : decode cX0_copy 113 = .ok (.aload_n 0, 1) := by decide +kernel
theorem dX0_copy_114 : decode cX0_copy 114 = .ok (.getfield 45, 3) := by decide +kernel
theorem dX0_copy_117 : decode cX0_copy 117 = .ok (.iconst 0, 1) := by decide +kernel
theorem dX0_copy_118 : decode cX0_copy 118 = .ok (.bipush 12, 2) := by decide +kernel
theorem dX0_copy_120 : decode cX0_copy 120 = .ok (.invokestatic 58, 3) := by decide +kernel
theorem dX0_copy_123 : decode cX0_copy 123 = .ok (.aload_n 1, 1) := by decide +kernel
theorem dX0_copy_124 : decode cX0_copy 124 = .ok (.getfield 48, 3) := by decide +kernel
theorem dX0_copy_127 : decode cX0_copy 127 = .ok (.iconst 0, 1) := by decide +kernel
theorem dX0_copy_128 : decode cX0_copy 128 = .ok (.aload_n 0, 1) := by decide +kernel
theorem dX0_copy_129 : decode cX0_copy 129 = .ok (.getfield 48, 3) := by decide +kernel
theorem dX0_copy_132 : decode cX0_copy 132 = .ok (.iconst 0, 1) := by decide +kernel
theorem dX0_copy_133 : decode cX0_copy 133 = .ok (.bipush 12, 2) := by decide +kernel
theorem dX0_copy_135 : decode cX0_copy 135 = .ok (.invokestatic 58, 3) := by decide +kernel
theorem dX0_copy_138 : decode cX0_copy 138 = .ok (.aload_n 1, 1) := by decide +kernel
theorem dX0_copy_139 : decode cX0_copy 139 = .ok (.getfield 51, 3) := by decide +kernel
theorem dX0_copy_142 : decode cX0_copy 142 = .ok (.iconst 0, 1) := by decide +kernel
theorem dX0_copy_143 : decode cX0_copy 143 = .ok (.aload_n 0, 1) := by decide +kernel
theorem dX0_copy_144 : decode cX0_copy 144 = .ok (.getfield 51, 3) := by decide +kernel
theorem dX0_copy_147 : decode cX0_copy 147 = .ok (.iconst 0, 1) := by decide +kernel
theorem dX0_copy_148 : decode cX0_copy 148 = .ok (.bipush 12, 2) := by decide +kernel
theorem dX0_copy_150 : decode cX0_copy 150 = .ok (.invokestatic 58, 3) := by decide +kernel
theorem dX0_copy_153 : decode cX0_copy 153 = .ok (.return_, 1) := by decide +kernel
theorem dX0_measure_0 : decode cX0_measure 0 = .ok (.iload_n 1, 1) := by decide +kernel
theorem dX0_measure_1 : decode cX0_measure 1 = .ok (.ifCond .ne 10, 3) := by decide +kernel
theorem dX0_measure_4 : decode cX0_measure 4 = .ok (.aload_n 0, 1) := by decide +kernel
theorem dX0_measure_5 : decode cX0_measure 5 = .ok (.getfield 9, 3) := by decide +kernel
theorem dX0_measure_8 : decode cX0_measure 8 = .ok (.goto 19, 3) := by decide +kernel
theorem dX0_measure_11 : decode cX0_measure 11 = .ok (.iload_n 1, 1) := by decide +kernel
theorem dX0_measure_12 : decode cX0_measure 12 = .ok (.iconst 1, 1) := by decide +kernel
theorem dX0_measure_13 : decode cX0_measure 13 = .ok (.if_icmp .ne 10, 3) := by decide +kernel
theorem dX0_measure_16 : decode cX0_measure 16 = .ok (.aload_n 0, 1) := by decide +kernel
theorem dX0_measure_17 : decode cX0_measure 17 = .ok (.getfield 15, 3) := by decide +kernel
theorem dX0_measure_20 : decode cX0_measure 20 = .ok (.goto 7, 3) := by decide +kernel
theorem dX0_measure_23 : decode cX0_measure 23 = .ok (.aload_n 0, 1) := by decide +kernel
theorem dX0_measure_24 : decode cX0_measure 24 = .ok (.getfield 18, 3) := by decide +kernel
theorem dX0_measure_27 : decode cX0_measure 27 = .ok (.ireturn, 1) := by decide +kernel
theorem dX0_setMeasure_0 : decode cX0_setMeasure 0 = .ok (.iload_n 1, 1) := by decide +kernel
theorem dX0_setMeasure_1 : decode cX0_setMeasure 1 = .ok (.ifCond .ne 11, 3) := by decide +kernel
theorem dX0_setMeasure_4 : decode cX0_setMeasure 4 = .ok (.aload_n 0, 1) := by decide +kernel
theorem dX0_setMeasure_5 : decode cX0_setMeasure 5 = .ok (.iload_n 2, 1) := by decide +kernel
theorem dX0_setMeasure_6 : decode cX0_setMeasure 6 = .ok (.putfield 9, 3) := by decide +kernel
theorem dX0_setMeasure_9 : decode cX0_setMeasure 9 = .ok (.goto 21, 3) := by decide +kernel
theorem dX0_setMeasure_12 : decode cX0_setMeasure 12 = .ok (.iload_n 1, 1) := by decide +kernel
theorem dX0_setMeasure_13 : decode cX0_setMeasure 13 = .ok (.iconst 1, 1) := by decide +kernel
theorem dX0_setMeasure_14 : decode cX0_setMeasure 14 = .ok (.if_icmp .ne 11, 3) := by decide +kernel
theorem dX0_setMeasure_17 : decode cX0_setMeasure 17 = .ok (.aload_n 0, 1) := by decide +kernel
theorem dX0_setMeasure_18 : decode cX0_setMeasure 18 = .ok (.iload_n 2, 1) := by decide +kernel
theorem dX0_setMeasure_19 : decode cX0_setMeasure 19 = .ok (.putfield 15, 3) := by decide +kernel
theorem dX0_setMeasure_22 : decode cX0_setMeasure 22 = .ok (.goto 8, 3) := by decide +kernel
theorem dX0_setMeasure_25 : decode cX0_setMeasure 25 = .ok (.aload_n 0, 1) := by decide +kernel
theorem dX0_setMeasure_26 : decode cX0_setMeasure 26 = .ok (.iload_n 2, 1) := by decide +kernel
theorem dX0_setMeasure_27 : decode cX0_setMeasure 27 = .ok (.putfield 18, 3) := by decide +kernel
theorem dX0_setMeasure_30 : decode cX0_setMeasure 30 = .ok (.return_, 1) := by decide +kernel
theorem dX0_allows_0 : decode cX0_allows 0 = .ok (.iload_n 1, 1) := by decide +kernel
theorem dX0_allows_1 : decode cX0_allows 1 = .ok (.ifCond .lt 65, 3) := by decide +kernel
theorem dX0_allows_4 : decode cX0_allows 4 = .ok (.iload_n 1, 1) := by decide +kernel
theorem dX0_allows_5 : decode cX0_allows 5 = .ok (.bipush 9, 2) := by decide +kernel
theorem dX0_allows_7 : decode cX0_allows 7 = .ok (.if_icmp .gt 59, 3) := by decide +kernel
theorem dX0_allows_10 : decode cX0_allows 10 = .ok (.iload_n 1, 1) := by decide +kernel
theorem dX0_allows_11 : decode cX0_allows 11 = .ok (.aload_n 0, 1) := by decide +kernel
theorem dX0_allows_12 : decode cX0_allows 12 = .ok (.getfield 15, 3) := by decide +kernel
theorem dX0_allows_15 : decode cX0_allows 15 = .ok (.if_icmp .ge 51, 3) := by decide +kernel
theorem dX0_allows_18 : decode cX0_allows 18 = .ok (.iload_n 2, 1) := by decide +kernel
theorem dX0_allows_19 : decode cX0_allows 19 = .ok (.bipush 9, 2) := by decide +kernel
theorem dX0_allows_21 : decode cX0_allows 21 = .ok (.if_icmp .lt 45, 3) := by decide +kernel
theorem dX0_allows_24 : decode cX0_allows 24 = .ok (.iload_n 2, 1) := by decide +kernel
theorem dX0_allows_25 : decode cX0_allows 25 = .ok (.bipush 40, 2) := by decide +kernel
theorem dX0_allows_27 : decode cX0_allows 27 = .ok (.if_icmp .gt 39, 3) := by decide +kernel
theorem dX0_allows_30 : decode cX0_allows 30 = .ok (.iload_n 3, 1) := by decide +kernel
theorem dX0_allows_31 : decode cX0_allows 31 = .ok (.bipush 9, 2) := by decide +kernel
theorem dX0_allows_33 : decode cX0_allows 33 = .ok (.if_icmp .lt 33, 3) := by decide +kernel
theorem dX0_allows_36 : decode cX0_allows 36 = .ok (.iload_n 3, 1) := by decide +kernel
theorem dX0_allows_37 : decode cX0_allows 37 = .ok (.bipush 40, 2) := by decide +kernel
theorem dX0_allows_39 : decode cX0_allows 39 = .ok (.if_icmp .gt 27, 3) := by decide +kernel
theorem dX0_allows_42 : decode cX0_allows 42 = .ok (.iload_n 2, 1) := by decide +kernel
theorem dX0_allows_43 : decode cX0_allows 43 = .ok (.iload_n 3, 1) := by decide +kernel
theorem dX0_allows_44 : decode cX0_allows 44 = .ok (.iadd, 1) := by decide +kernel
theorem dX0_allows_45 : decode cX0_allows 45 = .ok (.aload_n 0, 1) := by decide +kernel
theorem dX0_allows_46 : decode cX0_allows 46 = .ok (.getfield 9, 3) := by decide +kernel
theorem dX0_allows_49 : decode cX0_allows 49 = .ok (.bipush 9, 2) := by decide +kernel
theorem dX0_allows_51 : decode cX0_allows 51 = .ok (.isub, 1) := by decide +kernel
theorem dX0_allows_52 : decode cX0_allows 52 = .ok (.iconst 2, 1) := by decide +kernel
theorem dX0_allows_53 : decode cX0_allows 53 = .ok (.aload_n 0, 1) := by decide +kernel
theorem dX0_allows_54 : decode cX0_allows 54 = .ok (.getfield 18, 3) := by decide +kernel
theorem dX0_allows_57 : decode cX0_allows 57 = .ok (.imul, 1) := by decide +kernel
theorem dX0_allows_58 : decode cX0_allows 58 = .ok (.isub, 1) := by decide +kernel
theorem dX0_allows_59 : decode cX0_allows 59 = .ok (.if_icmp .gt 7, 3) := by decide +kernel
theorem dX0_allows_62 : decode cX0_allows 62 = .ok (.iconst 1, 1) := by decide +kernel
theorem dX0_allows_63 : decode cX0_allows 63 = .ok (.goto 4, 3) := by decide +kernel
theorem dX0_allows_66 : decode cX0_allows 66 = .ok (.iconst 0, 1) := by decide +kernel
theorem dX0_allows_67 : decode cX0_allows 67 = .ok (.ireturn, 1) := by decide +kernel
theorem dX0_allowsItsPlan_0 : decode cX0_allowsItsPlan 0 = .ok (.aload_n 0, 1) := by decide +kernel
theorem dX0_allowsItsPlan_1 : decode cX0_allowsItsPlan 1 = .ok (.aload_n 0, 1) := by decide +kernel
theorem dX0_allowsItsPlan_2 : decode cX0_allowsItsPlan 2 = .ok (.getfield 21, 3) := by decide +kernel
theorem dX0_allowsItsPlan_5 : decode cX0_allowsItsPlan 5 = .ok (.aload_n 0, 1) := by decide +kernel
theorem dX0_allowsItsPlan_6 : decode cX0_allowsItsPlan 6 = .ok (.getfield 24, 3) := by decide +kernel
theorem dX0_allowsItsPlan_9 : decode cX0_allowsItsPlan 9 = .ok (.aload_n 0, 1) := by decide +kernel
theorem dX0_allowsItsPlan_10 : decode cX0_allowsItsPlan 10 = .ok (.getfield 27, 3) := by decide +kernel
theorem dX0_allowsItsPlan_13 : decode cX0_allowsItsPlan 13 = .ok (.invokevirtual 64, 3) := by decide +kernel
theorem dX0_allowsItsPlan_16 : decode cX0_allowsItsPlan 16 = .ok (.ireturn, 1) := by decide +kernel
theorem dX0_hasPlan_0 : decode cX0_hasPlan 0 = .ok (.aload_n 0, 1) := by decide +kernel
theorem dX0_hasPlan_1 : decode cX0_hasPlan 1 = .ok (.getfield 21, 3) := by decide +kernel
theorem dX0_hasPlan_4 : decode cX0_hasPlan 4 = .ok (.iload_n 1, 1) := by decide +kernel
theorem dX0_hasPlan_5 : decode cX0_hasPlan 5 = .ok (.if_icmp .ne 23, 3) := by decide +kernel
theorem dX0_hasPlan_8 : decode cX0_hasPlan 8 = .ok (.aload_n 0, 1) := by decide +kernel
theorem dX0_hasPlan_9 : decode cX0_hasPlan 9 = .ok (.getfield 24, 3) := by decide +kernel
theorem dX0_hasPlan_12 : decode cX0_hasPlan 12 = .ok (.iload_n 2, 1) := by decide +kernel
theorem dX0_hasPlan_13 : decode cX0_hasPlan 13 = .ok (.if_icmp .ne 15, 3) := by decide +kernel
theorem dX0_hasPlan_16 : decode cX0_hasPlan 16 = .ok (.aload_n 0, 1) := by decide +kernel
theorem dX0_hasPlan_17 : decode cX0_hasPlan 17 = .ok (.getfield 27, 3) := by decide +kernel
theorem dX0_hasPlan_20 : decode cX0_hasPlan 20 = .ok (.iload_n 3, 1) := by decide +kernel
theorem dX0_hasPlan_21 : decode cX0_hasPlan 21 = .ok (.if_icmp .ne 7, 3) := by decide +kernel
theorem dX0_hasPlan_24 : decode cX0_hasPlan 24 = .ok (.iconst 1, 1) := by decide +kernel
theorem dX0_hasPlan_25 : decode cX0_hasPlan 25 = .ok (.goto 4, 3) := by decide +kernel
theorem dX0_hasPlan_28 : decode cX0_hasPlan 28 = .ok (.iconst 0, 1) := by decide +kernel
theorem dX0_hasPlan_29 : decode cX0_hasPlan 29 = .ok (.ireturn, 1) := by decide +kernel
theorem dX0_plan_0 : decode cX0_plan 0 = .ok (.aload_n 0, 1) := by decide +kernel
theorem dX0_plan_1 : decode cX0_plan 1 = .ok (.iload_n 1, 1) := by decide +kernel
theorem dX0_plan_2 : decode cX0_plan 2 = .ok (.putfield 21, 3) := by decide +kernel
theorem dX0_plan_5 : decode cX0_plan 5 = .ok (.aload_n 0, 1) := by decide +kernel
theorem dX0_plan_6 : decode cX0_plan 6 = .ok (.iload_n 2, 1) := by decide +kernel
theorem dX0_plan_7 : decode cX0_plan 7 = .ok (.putfield 24, 3) := by decide +kernel
theorem dX0_plan_10 : decode cX0_plan 10 = .ok (.aload_n 0, 1) := by decide +kernel
theorem dX0_plan_11 : decode cX0_plan 11 = .ok (.iload_n 3, 1) := by decide +kernel
theorem dX0_plan_12 : decode cX0_plan 12 = .ok (.putfield 27, 3) := by decide +kernel
theorem dX0_plan_15 : decode cX0_plan 15 = .ok (.return_, 1) := by decide +kernel
theorem dX0_toNextPlan_0 : decode cX0_toNextPlan 0 = .ok (.aload_n 0, 1) := by decide +kernel
theorem dX0_toNextPlan_1 : decode cX0_toNextPlan 1 = .ok (.aload_n 0, 1) := by decide +kernel
theorem dX0_toNextPlan_2 : decode cX0_toNextPlan 2 = .ok (.getfield 21, 3) := by decide +kernel
theorem dX0_toNextPlan_5 : decode cX0_toNextPlan 5 = .ok (.aload_n 0, 1) := by decide +kernel
theorem dX0_toNextPlan_6 : decode cX0_toNextPlan 6 = .ok (.getfield 24, 3) := by decide +kernel
theorem dX0_toNextPlan_9 : decode cX0_toNextPlan 9 = .ok (.aload_n 0, 1) := by decide +kernel
theorem dX0_toNextPlan_10 : decode cX0_toNextPlan 10 = .ok (.getfield 27, 3) := by decide +kernel
theorem dX0_toNextPlan_13 : decode cX0_toNextPlan 13 = .ok (.iload_n 2, 1) := by decide +kernel
theorem dX0_toNextPlan_14 : decode cX0_toNextPlan 14 = .ok (.iadd, 1) := by decide +kernel
theorem dX0_toNextPlan_15 : decode cX0_toNextPlan 15 = .ok (.invokevirtual 64, 3) := by decide +kernel
theorem dX0_toNextPlan_18 : decode cX0_toNextPlan 18 = .ok (.ifCond .eq 15, 3) := by decide +kernel
theorem dX0_toNextPlan_21 : decode cX0_toNextPlan 21 = .ok (.aload_n 0, 1) := by decide +kernel
theorem dX0_toNextPlan_22 : decode cX0_toNextPlan 22 = .ok (.dup, 1) := by decide +kernel
theorem dX0_toNextPlan_23 : decode cX0_toNextPlan 23 = .ok (.getfield 27, 3) := by decide +kernel
theorem dX0_toNextPlan_26 : decode cX0_toNextPlan 26 = .ok (.iload_n 2, 1) := by decide +kernel
theorem dX0_toNextPlan_27 : decode cX0_toNextPlan 27 = .ok (.iadd, 1) := by decide +kernel
theorem dX0_toNextPlan_28 : decode cX0_toNextPlan 28 = .ok (.putfield 27, 3) := by decide +kernel
theorem dX0_toNextPlan_31 : decode cX0_toNextPlan 31 = .ok (.iconst 1, 1) := by decide +kernel
theorem dX0_toNextPlan_32 : decode cX0_toNextPlan 32 = .ok (.ireturn, 1) := by decide +kernel
theorem dX0_toNextPlan_33 : decode cX0_toNextPlan 33 = .ok (.aload_n 0, 1) := by decide +kernel
theorem dX0_toNextPlan_34 : decode cX0_toNextPlan 34 = .ok (.aload_n 0, 1) := by decide +kernel
theorem dX0_toNextPlan_35 : decode cX0_toNextPlan 35 = .ok (.getfield 21, 3) := by decide +kernel
theorem dX0_toNextPlan_38 : decode cX0_toNextPlan 38 = .ok (.aload_n 0, 1) := by decide +kernel
theorem dX0_toNextPlan_39 : decode cX0_toNextPlan 39 = .ok (.getfield 24, 3) := by decide +kernel
theorem dX0_toNextPlan_42 : decode cX0_toNextPlan 42 = .ok (.iload_n 2, 1) := by decide +kernel
theorem dX0_toNextPlan_43 : decode cX0_toNextPlan 43 = .ok (.iadd, 1) := by decide +kernel
theorem dX0_toNextPlan_44 : decode cX0_toNextPlan 44 = .ok (.bipush 9, 2) := by decide +kernel
theorem dX0_toNextPlan_46 : decode cX0_toNextPlan 46 = .ok (.invokevirtual 64, 3) := by decide +kernel
theorem dX0_toNextPlan_49 : decode cX0_toNextPlan 49 = .ok (.ifCond .eq 21, 3) := by decide +kernel
theorem dX0_toNextPlan_52 : decode cX0_toNextPlan 52 = .ok (.aload_n 0, 1) := by decide +kernel
theorem dX0_toNextPlan_53 : decode cX0_toNextPlan 53 = .ok (.aload_n 0, 1) := by decide +kernel
theorem dX0_toNextPlan_54 : decode cX0_toNextPlan 54 = .ok (.getfield 21, 3) := by decide +kernel
theorem dX0_toNextPlan_57 : decode cX0_toNextPlan 57 = .ok (.aload_n 0, 1) := by decide +kernel
theorem dX0_toNextPlan_58 : decode cX0_toNextPlan 58 = .ok (.getfield 24, 3) := by decide +kernel
theorem dX0_toNextPlan_61 : decode cX0_toNextPlan 61 = .ok (.iload_n 2, 1) := by decide +kernel
theorem dX0_toNextPlan_62 : decode cX0_toNextPlan 62 = .ok (.iadd, 1) := by decide +kernel
theorem dX0_toNextPlan_63 : decode cX0_toNextPlan 63 = .ok (.bipush 9, 2) := by decide +kernel
theorem dX0_toNextPlan_65 : decode cX0_toNextPlan 65 = .ok (.invokevirtual 54, 3) := by decide +kernel
theorem dX0_toNextPlan_68 : decode cX0_toNextPlan 68 = .ok (.iconst 1, 1) := by decide +kernel
theorem dX0_toNextPlan_69 : decode cX0_toNextPlan 69 = .ok (.ireturn, 1) := by decide +kernel
theorem dX0_toNextPlan_70 : decode cX0_toNextPlan 70 = .ok (.aload_n 0, 1) := by decide +kernel
theorem dX0_toNextPlan_71 : decode cX0_toNextPlan 71 = .ok (.getfield 21, 3) := by decide +kernel
theorem dX0_toNextPlan_74 : decode cX0_toNextPlan 74 = .ok (.iload_n 1, 1) := by decide +kernel
theorem dX0_toNextPlan_75 : decode cX0_toNextPlan 75 = .ok (.if_icmp .ge 36, 3) := by decide +kernel
theorem dX0_toNextPlan_78 : decode cX0_toNextPlan 78 = .ok (.aload_n 0, 1) := by decide +kernel
theorem dX0_toNextPlan_79 : decode cX0_toNextPlan 79 = .ok (.aload_n 0, 1) := by decide +kernel
theorem dX0_toNextPlan_80 : decode cX0_toNextPlan 80 = .ok (.getfield 21, 3) := by decide +kernel
theorem dX0_toNextPlan_83 : decode cX0_toNextPlan 83 = .ok (.iconst 1, 1) := by decide +kernel
theorem dX0_toNextPlan_84 : decode cX0_toNextPlan 84 = .ok (.iadd, 1) := by decide +kernel
theorem dX0_toNextPlan_85 : decode cX0_toNextPlan 85 = .ok (.bipush 9, 2) := by decide +kernel
theorem dX0_toNextPlan_87 : decode cX0_toNextPlan 87 = .ok (.bipush 9, 2) := by decide +kernel
theorem dX0_toNextPlan_89 : decode cX0_toNextPlan 89 = .ok (.invokevirtual 64, 3) := by decide +kernel
theorem dX0_toNextPlan_92 : decode cX0_toNextPlan 92 = .ok (.ifCond .eq 19, 3) := by decide +kernel
theorem dX0_toNextPlan_95 : decode cX0_toNextPlan 95 = .ok (.aload_n 0, 1) := by decide +kernel
theorem dX0_toNextPlan_96 : decode cX0_toNextPlan 96 = .ok (.aload_n 0, 1) := by decide +kernel
theorem dX0_toNextPlan_97 : decode cX0_toNextPlan 97 = .ok (.getfield 21, 3) := by decide +kernel
theorem dX0_toNextPlan_100 : decode cX0_toNextPlan 100 = .ok (.iconst 1, 1) := by decide +kernel
theorem dX0_toNextPlan_101 : decode cX0_toNextPlan 101 = .ok (.iadd, 1) := by decide +kernel
theorem dX0_toNextPlan_102 : decode cX0_toNextPlan 102 = .ok (.bipush 9, 2) := by decide +kernel
theorem dX0_toNextPlan_104 : decode cX0_toNextPlan 104 = .ok (.bipush 9, 2) := by decide +kernel
theorem dX0_toNextPlan_106 : decode cX0_toNextPlan 106 = .ok (.invokevirtual 54, 3) := by decide +kernel
theorem dX0_toNextPlan_109 : decode cX0_toNextPlan 109 = .ok (.iconst 1, 1) := by decide +kernel
theorem dX0_toNextPlan_110 : decode cX0_toNextPlan 110 = .ok (.ireturn, 1) := by decide +kernel
theorem dX0_toNextPlan_111 : decode cX0_toNextPlan 111 = .ok (.iconst 0, 1) := by decide +kernel
theorem dX0_toNextPlan_112 : decode cX0_toNextPlan 112 = .ok (.ireturn, 1) := by decide +kernel
theorem dX0_pageOf_0 : decode cX0_pageOf 0 = .ok (.aload_n 0, 1) := by decide +kernel
theorem dX0_pageOf_1 : decode cX0_pageOf 1 = .ok (.getfield 15, 3) := by decide +kernel
theorem dX0_pageOf_4 : decode cX0_pageOf 4 = .ok (.ifCond .le 12, 3) := by decide +kernel
theorem dX0_pageOf_7 : decode cX0_pageOf 7 = .ok (.iload_n 1, 1) := by decide +kernel
theorem dX0_pageOf_8 : decode cX0_pageOf 8 = .ok (.aload_n 0, 1) := by decide +kernel
theorem dX0_pageOf_9 : decode cX0_pageOf 9 = .ok (.getfield 15, 3) := by decide +kernel
theorem dX0_pageOf_12 : decode cX0_pageOf 12 = .ok (.idiv, 1) := by decide +kernel
theorem dX0_pageOf_13 : decode cX0_pageOf 13 = .ok (.goto 4, 3) := by decide +kernel
theorem dX0_pageOf_16 : decode cX0_pageOf 16 = .ok (.iconst 0, 1) := by decide +kernel
theorem dX0_pageOf_17 : decode cX0_pageOf 17 = .ok (.ireturn, 1) := by decide +kernel
theorem dX0_hasWord_0 : decode cX0_hasWord 0 = .ok (.iload_n 1, 1) := by decide +kernel
theorem dX0_hasWord_1 : decode cX0_hasWord 1 = .ok (.invokestatic 68, 3) := by decide +kernel
theorem dX0_hasWord_4 : decode cX0_hasWord 4 = .ok (.ifCond .eq 21, 3) := by decide +kernel
theorem dX0_hasWord_7 : decode cX0_hasWord 7 = .ok (.iload_n 2, 1) := by decide +kernel
theorem dX0_hasWord_8 : decode cX0_hasWord 8 = .ok (.ifCond .lt 17, 3) := by decide +kernel
theorem dX0_hasWord_11 : decode cX0_hasWord 11 = .ok (.iload_n 2, 1) := by decide +kernel
theorem dX0_hasWord_12 : decode cX0_hasWord 12 = .ok (.aload_n 0, 1) := by decide +kernel
theorem dX0_hasWord_13 : decode cX0_hasWord 13 = .ok (.getfield 37, 3) := by decide +kernel
theorem dX0_hasWord_16 : decode cX0_hasWord 16 = .ok (.iload_n 1, 1) := by decide +kernel
theorem dX0_hasWord_17 : decode cX0_hasWord 17 = .ok (.iaload, 1) := by decide +kernel
theorem dX0_hasWord_18 : decode cX0_hasWord 18 = .ok (.if_icmp .ge 7, 3) := by decide +kernel
theorem dX0_hasWord_21 : decode cX0_hasWord 21 = .ok (.iconst 1, 1) := by decide +kernel
theorem dX0_hasWord_22 : decode cX0_hasWord 22 = .ok (.goto 4, 3) := by decide +kernel
theorem dX0_hasWord_25 : decode cX0_hasWord 25 = .ok (.iconst 0, 1) := by decide +kernel
theorem dX0_hasWord_26 : decode cX0_hasWord 26 = .ok (.ireturn, 1) := by decide +kernel
theorem dX0_setSize_0 : decode cX0_setSize 0 = .ok (.aload_n 0, 1) := by decide +kernel
theorem dX0_setSize_1 : decode cX0_setSize 1 = .ok (.iload_n 1, 1) := by decide +kernel
theorem dX0_setSize_2 : decode cX0_setSize 2 = .ok (.iload_n 2, 1) := by decide +kernel
theorem dX0_setSize_3 : decode cX0_setSize 3 = .ok (.invokevirtual 72, 3) := by decide +kernel
theorem dX0_setSize_6 : decode cX0_setSize 6 = .ok (.ifCond .eq 15, 3) := by decide +kernel
theorem dX0_setSize_9 : decode cX0_setSize 9 = .ok (.aload_n 0, 1) := by decide +kernel
theorem dX0_setSize_10 : decode cX0_setSize 10 = .ok (.getfield 42, 3) := by decide +kernel
theorem dX0_setSize_13 : decode cX0_setSize 13 = .ok (.iload_n 1, 1) := by decide +kernel
theorem dX0_setSize_14 : decode cX0_setSize 14 = .ok (.aaload, 1) := by decide +kernel
theorem dX0_setSize_15 : decode cX0_setSize 15 = .ok (.iload_n 2, 1) := by decide +kernel
theorem dX0_setSize_16 : decode cX0_setSize 16 = .ok (.iaload, 1) := by decide +kernel
theorem dX0_setSize_17 : decode cX0_setSize 17 = .ok (.iload_n 3, 1) := by decide +kernel
theorem dX0_setSize_18 : decode cX0_setSize 18 = .ok (.if_icmp .ne 5, 3) := by decide +kernel
theorem dX0_setSize_21 : decode cX0_setSize 21 = .ok (.iconst 0, 1) := by decide +kernel
theorem dX0_setSize_22 : decode cX0_setSize 22 = .ok (.ireturn, 1) := by decide +kernel
theorem dX0_setSize_23 : decode cX0_setSize 23 = .ok (.aload_n 0, 1) := by decide +kernel
theorem dX0_setSize_24 : decode cX0_setSize 24 = .ok (.getfield 42, 3) := by decide +kernel
theorem dX0_setSize_27 : decode cX0_setSize 27 = .ok (.iload_n 1, 1) := by decide +kernel
theorem dX0_setSize_28 : decode cX0_setSize 28 = .ok (.aaload, 1) := by decide +kernel
theorem dX0_setSize_29 : decode cX0_setSize 29 = .ok (.iload_n 2, 1) := by decide +kernel
theorem dX0_setSize_30 : decode cX0_setSize 30 = .ok (.iload_n 3, 1) := by decide +kernel
theorem dX0_setSize_31 : decode cX0_setSize 31 = .ok (.iastore, 1) := by decide +kernel
theorem dX0_setSize_32 : decode cX0_setSize 32 = .ok (.iconst 1, 1) := by decide +kernel
theorem dX0_setSize_33 : decode cX0_setSize 33 = .ok (.ireturn, 1) := by decide +kernel
theorem dX0_put_0 : decode cX0_put 0 = .ok (.iload_n 1, 1) := by decide +kernel
theorem dX0_put_1 : decode cX0_put 1 = .ok (.invokestatic 68, 3) := by decide +kernel
theorem dX0_put_4 : decode cX0_put 4 = .ok (.ifCond .eq 28, 3) := by decide +kernel
theorem dX0_put_7 : decode cX0_put 7 = .ok (.iload_n 2, 1) := by decide +kernel
theorem dX0_put_8 : decode cX0_put 8 = .ok (.ifCond .lt 24, 3) := by decide +kernel
theorem dX0_put_11 : decode cX0_put 11 = .ok (.iload_n 2, 1) := by decide +kernel
theorem dX0_put_12 : decode cX0_put 12 = .ok (.aload_n 0, 1) := by decide +kernel
theorem dX0_put_13 : decode cX0_put 13 = .ok (.getfield 37, 3) := by decide +kernel
theorem dX0_put_16 : decode cX0_put 16 = .ok (.iload_n 1, 1) := by decide +kernel
theorem dX0_put_17 : decode cX0_put 17 = .ok (.iaload, 1) := by decide +kernel
theorem dX0_put_18 : decode cX0_put 18 = .ok (.if_icmp .gt 14, 3) := by decide +kernel
theorem dX0_put_21 : decode cX0_put 21 = .ok (.aload_n 0, 1) := by decide +kernel
theorem dX0_put_22 : decode cX0_put 22 = .ok (.getfield 37, 3) := by decide +kernel
theorem dX0_put_25 : decode cX0_put 25 = .ok (.iload_n 1, 1) := by decide +kernel
theorem dX0_put_26 : decode cX0_put 26 = .ok (.iaload, 1) := by decide +kernel
theorem dX0_put_27 : decode cX0_put 27 = .ok (.bipush 70, 2) := by decide +kernel
theorem dX0_put_29 : decode cX0_put 29 = .ok (.if_icmp .lt 4, 3) := by decide +kernel
theorem dX0_put_32 : decode cX0_put 32 = .ok (.return_, 1) := by decide +kernel
theorem dX0_put_33 : decode cX0_put 33 = .ok (.aload_n 0, 1) := by decide +kernel
theorem dX0_put_34 : decode cX0_put 34 = .ok (.getfield 42, 3) := by decide +kernel
theorem dX0_put_37 : decode cX0_put 37 = .ok (.iload_n 1, 1) := by decide +kernel
theorem dX0_put_38 : decode cX0_put 38 = .ok (.aaload, 1) := by decide +kernel
theorem dX0_put_39 : decode cX0_put 39 = .ok (.astore 4, 2) := by decide +kernel
theorem dX0_put_41 : decode cX0_put 41 = .ok (.aload_n 0, 1) := by decide +kernel
theorem dX0_put_42 : decode cX0_put 42 = .ok (.getfield 37, 3) := by decide +kernel
theorem dX0_put_45 : decode cX0_put 45 = .ok (.iload_n 1, 1) := by decide +kernel
theorem dX0_put_46 : decode cX0_put 46 = .ok (.iaload, 1) := by decide +kernel
theorem dX0_put_47 : decode cX0_put 47 = .ok (.istore 5, 2) := by decide +kernel
theorem dX0_put_49 : decode cX0_put 49 = .ok (.iload 5, 2) := by decide +kernel
theorem dX0_put_51 : decode cX0_put 51 = .ok (.iload_n 2, 1) := by decide +kernel
theorem dX0_put_52 : decode cX0_put 52 = .ok (.if_icmp .le 21, 3) := by decide +kernel
theorem dX0_put_55 : decode cX0_put 55 = .ok (.aload 4, 2) := by decide +kernel
theorem dX0_put_57 : decode cX0_put 57 = .ok (.iload 5, 2) := by decide +kernel
theorem dX0_put_59 : decode cX0_put 59 = .ok (.aload 4, 2) := by decide +kernel
theorem dX0_put_61 : decode cX0_put 61 = .ok (.iload 5, 2) := by decide +kernel
theorem dX0_put_63 : decode cX0_put 63 = .ok (.iconst 1, 1) := by decide +kernel
theorem dX0_put_64 : decode cX0_put 64 = .ok (.isub, 1) := by decide +kernel
theorem dX0_put_65 : decode cX0_put 65 = .ok (.iaload, 1) := by decide +kernel
theorem dX0_put_66 : decode cX0_put 66 = .ok (.iastore, 1) := by decide +kernel
theorem dX0_put_67 : decode cX0_put 67 = .ok (.iinc 5 (-1), 3) := by decide +kernel
theorem dX0_put_70 : decode cX0_put 70 = .ok (.goto (-21), 3) := by decide +kernel
theorem dX0_put_73 : decode cX0_put 73 = .ok (.aload 4, 2) := by decide +kernel
theorem dX0_put_75 : decode cX0_put 75 = .ok (.iload_n 2, 1) := by decide +kernel
theorem dX0_put_76 : decode cX0_put 76 = .ok (.iload_n 3, 1) := by decide +kernel
theorem dX0_put_77 : decode cX0_put 77 = .ok (.iastore, 1) := by decide +kernel
theorem dX0_put_78 : decode cX0_put 78 = .ok (.aload_n 0, 1) := by decide +kernel
theorem dX0_put_79 : decode cX0_put 79 = .ok (.getfield 37, 3) := by decide +kernel
theorem dX0_put_82 : decode cX0_put 82 = .ok (.iload_n 1, 1) := by decide +kernel
theorem dX0_put_83 : decode cX0_put 83 = .ok (.dup2, 1) := by decide +kernel
theorem dX0_put_84 : decode cX0_put 84 = .ok (.iaload, 1) := by decide +kernel
theorem dX0_put_85 : decode cX0_put 85 = .ok (.iconst 1, 1) := by decide +kernel
theorem dX0_put_86 : decode cX0_put 86 = .ok (.iadd, 1) := by decide +kernel
theorem dX0_put_87 : decode cX0_put 87 = .ok (.iastore, 1) := by decide +kernel
theorem dX0_put_88 : decode cX0_put 88 = .ok (.aload_n 0, 1) := by decide +kernel
theorem dX0_put_89 : decode cX0_put 89 = .ok (.iload_n 1, 1) := by decide +kernel
theorem dX0_put_90 : decode cX0_put 90 = .ok (.iload_n 2, 1) := by decide +kernel
theorem dX0_put_91 : decode cX0_put 91 = .ok (.iconst 1, 1) := by decide +kernel
theorem dX0_put_92 : decode cX0_put 92 = .ok (.invokevirtual 76, 3) := by decide +kernel
theorem dX0_put_95 : decode cX0_put 95 = .ok (.return_, 1) := by decide +kernel
theorem dX0_drop_0 : decode cX0_drop 0 = .ok (.aload_n 0, 1) := by decide +kernel
theorem dX0_drop_1 : decode cX0_drop 1 = .ok (.iload_n 1, 1) := by decide +kernel
theorem dX0_drop_2 : decode cX0_drop 2 = .ok (.iload_n 2, 1) := by decide +kernel
theorem dX0_drop_3 : decode cX0_drop 3 = .ok (.invokevirtual 72, 3) := by decide +kernel
theorem dX0_drop_6 : decode cX0_drop 6 = .ok (.ifCond .ne 4, 3) := by decide +kernel
theorem dX0_drop_9 : decode cX0_drop 9 = .ok (.return_, 1) := by decide +kernel
theorem dX0_drop_10 : decode cX0_drop 10 = .ok (.aload_n 0, 1) := by decide +kernel
theorem dX0_drop_11 : decode cX0_drop 11 = .ok (.getfield 42, 3) := by decide +kernel
theorem dX0_drop_14 : decode cX0_drop 14 = .ok (.iload_n 1, 1) := by decide +kernel
theorem dX0_drop_15 : decode cX0_drop 15 = .ok (.aaload, 1) := by decide +kernel
theorem dX0_drop_16 : decode cX0_drop 16 = .ok (.astore_n 3, 1) := by decide +kernel
theorem dX0_drop_17 : decode cX0_drop 17 = .ok (.iload_n 2, 1) := by decide +kernel
theorem dX0_drop_18 : decode cX0_drop 18 = .ok (.iconst 1, 1) := by decide +kernel
theorem dX0_drop_19 : decode cX0_drop 19 = .ok (.iadd, 1) := by decide +kernel
theorem dX0_drop_20 : decode cX0_drop 20 = .ok (.istore 4, 2) := by decide +kernel
theorem dX0_drop_22 : decode cX0_drop 22 = .ok (.iload 4, 2) := by decide +kernel
theorem dX0_drop_24 : decode cX0_drop 24 = .ok (.aload_n 0, 1) := by decide +kernel
theorem dX0_drop_25 : decode cX0_drop 25 = .ok (.getfield 37, 3) := by decide +kernel
theorem dX0_drop_28 : decode cX0_drop 28 = .ok (.iload_n 1, 1) := by decide +kernel
theorem dX0_drop_29 : decode cX0_drop 29 = .ok (.iaload, 1) := by decide +kernel
theorem dX0_drop_30 : decode cX0_drop 30 = .ok (.if_icmp .ge 19, 3) := by decide +kernel
theorem dX0_drop_33 : decode cX0_drop 33 = .ok (.aload_n 3, 1) := by decide +kernel
theorem dX0_drop_34 : decode cX0_drop 34 = .ok (.iload 4, 2) := by decide +kernel
theorem dX0_drop_36 : decode cX0_drop 36 = .ok (.iconst 1, 1) := by decide +kernel
theorem dX0_drop_37 : decode cX0_drop 37 = .ok (.isub, 1) := by decide +kernel
theorem dX0_drop_38 : decode cX0_drop 38 = .ok (.aload_n 3, 1) := by decide +kernel
theorem dX0_drop_39 : decode cX0_drop 39 = .ok (.iload 4, 2) := by decide +kernel
theorem dX0_drop_41 : decode cX0_drop 41 = .ok (.iaload, 1) := by decide +kernel
theorem dX0_drop_42 : decode cX0_drop 42 = .ok (.iastore, 1) := by decide +kernel
theorem dX0_drop_43 : decode cX0_drop 43 = .ok (.iinc 4 1, 3) := by decide +kernel
theorem dX0_drop_46 : decode cX0_drop 46 = .ok (.goto (-24), 3) := by decide +kernel
theorem dX0_drop_49 : decode cX0_drop 49 = .ok (.aload_n 0, 1) := by decide +kernel
theorem dX0_drop_50 : decode cX0_drop 50 = .ok (.getfield 37, 3) := by decide +kernel
theorem dX0_drop_53 : decode cX0_drop 53 = .ok (.iload_n 1, 1) := by decide +kernel
theorem dX0_drop_54 : decode cX0_drop 54 = .ok (.dup2, 1) := by decide +kernel
theorem dX0_drop_55 : decode cX0_drop 55 = .ok (.iaload, 1) := by decide +kernel
theorem dX0_drop_56 : decode cX0_drop 56 = .ok (.iconst 1, 1) := by decide +kernel
theorem dX0_drop_57 : decode cX0_drop 57 = .ok (.isub, 1) := by decide +kernel
theorem dX0_drop_58 : decode cX0_drop 58 = .ok (.iastore, 1) := by decide +kernel
theorem dX0_drop_59 : decode cX0_drop 59 = .ok (.aload_n 0, 1) := by decide +kernel
theorem dX0_drop_60 : decode cX0_drop 60 = .ok (.getfield 30, 3) := by decide +kernel
theorem dX0_drop_63 : decode cX0_drop 63 = .ok (.iconst 1, 1) := by decide +kernel
theorem dX0_drop_64 : decode cX0_drop 64 = .ok (.isub, 1) := by decide +kernel
theorem dX0_drop_65 : decode cX0_drop 65 = .ok (.istore 4, 2) := by decide +kernel
theorem dX0_drop_67 : decode cX0_drop 67 = .ok (.iload 4, 2) := by decide +kernel
theorem dX0_drop_69 : decode cX0_drop 69 = .ok (.ifCond .lt 26, 3) := by decide +kernel
theorem dX0_drop_72 : decode cX0_drop 72 = .ok (.aload_n 0, 1) := by decide +kernel
theorem dX0_drop_73 : decode cX0_drop 73 = .ok (.iload 4, 2) := by decide +kernel
theorem dX0_drop_75 : decode cX0_drop 75 = .ok (.iload_n 1, 1) := by decide +kernel
theorem dX0_drop_76 : decode cX0_drop 76 = .ok (.iload_n 2, 1) := by decide +kernel
theorem dX0_drop_77 : decode cX0_drop 77 = .ok (.invokevirtual 79, 3) := by decide +kernel
theorem dX0_drop_80 : decode cX0_drop 80 = .ok (.ifCond .eq 9, 3) := by decide +kernel
theorem dX0_drop_83 : decode cX0_drop 83 = .ok (.aload_n 0, 1) := by decide +kernel
theorem dX0_drop_84 : decode cX0_drop 84 = .ok (.iload 4, 2) := by decide +kernel
theorem dX0_drop_86 : decode cX0_drop 86 = .ok (.invokevirtual 82, 3) := by decide +kernel
theorem dX0_drop_89 : decode cX0_drop 89 = .ok (.iinc 4 (-1), 3) := by decide +kernel
theorem dX0_drop_92 : decode cX0_drop 92 = .ok (.goto (-25), 3) := by decide +kernel
theorem dX0_drop_95 : decode cX0_drop 95 = .ok (.aload_n 0, 1) := by decide +kernel
theorem dX0_drop_96 : decode cX0_drop 96 = .ok (.iload_n 1, 1) := by decide +kernel
theorem dX0_drop_97 : decode cX0_drop 97 = .ok (.iload_n 2, 1) := by decide +kernel
theorem dX0_drop_98 : decode cX0_drop 98 = .ok (.iconst (-1), 1) := by decide +kernel
theorem dX0_drop_99 : decode cX0_drop 99 = .ok (.invokevirtual 76, 3) := by decide +kernel
theorem dX0_drop_102 : decode cX0_drop 102 = .ok (.return_, 1) := by decide +kernel
theorem dX0_swap_0 : decode cX0_swap 0 = .ok (.iconst 0, 1) := by decide +kernel
theorem dX0_swap_1 : decode cX0_swap 1 = .ok (.istore_n 1, 1) := by decide +kernel
theorem dX0_swap_2 : decode cX0_swap 2 = .ok (.iload_n 1, 1) := by decide +kernel
theorem dX0_swap_3 : decode cX0_swap 3 = .ok (.bipush 70, 2) := by decide +kernel
theorem dX0_swap_5 : decode cX0_swap 5 = .ok (.if_icmp .ge 43, 3) := by decide +kernel
theorem dX0_swap_8 : decode cX0_swap 8 = .ok (.aload_n 0, 1) := by decide +kernel
theorem dX0_swap_9 : decode cX0_swap 9 = .ok (.getfield 42, 3) := by decide +kernel
theorem dX0_swap_12 : decode cX0_swap 12 = .ok (.iconst 1, 1) := by decide +kernel
theorem dX0_swap_13 : decode cX0_swap 13 = .ok (.aaload, 1) := by decide +kernel
theorem dX0_swap_14 : decode cX0_swap 14 = .ok (.iload_n 1, 1) := by decide +kernel
theorem dX0_swap_15 : decode cX0_swap 15 = .ok (.iaload, 1) := by decide +kernel
theorem dX0_swap_16 : decode cX0_swap 16 = .ok (.istore_n 2, 1) := by decide +kernel
theorem dX0_swap_17 : decode cX0_swap 17 = .ok (.aload_n 0, 1) := by decide +kernel
theorem dX0_swap_18 : decode cX0_swap 18 = .ok (.getfield 42, 3) := by decide +kernel
theorem dX0_swap_21 : decode cX0_swap 21 = .ok (.iconst 1, 1) := by decide +kernel
theorem dX0_swap_22 : decode cX0_swap 22 = .ok (.aaload, 1) := by decide +kernel
theorem dX0_swap_23 : decode cX0_swap 23 = .ok (.iload_n 1, 1) := by decide +kernel
theorem dX0_swap_24 : decode cX0_swap 24 = .ok (.aload_n 0, 1) := by decide +kernel
theorem dX0_swap_25 : decode cX0_swap 25 = .ok (.getfield 42, 3) := by decide +kernel
theorem dX0_swap_28 : decode cX0_swap 28 = .ok (.iconst 2, 1) := by decide +kernel
theorem dX0_swap_29 : decode cX0_swap 29 = .ok (.aaload, 1) := by decide +kernel
theorem dX0_swap_30 : decode cX0_swap 30 = .ok (.iload_n 1, 1) := by decide +kernel
theorem dX0_swap_31 : decode cX0_swap 31 = .ok (.iaload, 1) := by decide +kernel
theorem dX0_swap_32 : decode cX0_swap 32 = .ok (.iastore, 1) := by decide +kernel
theorem dX0_swap_33 : decode cX0_swap 33 = .ok (.aload_n 0, 1) := by decide +kernel
theorem dX0_swap_34 : decode cX0_swap 34 = .ok (.getfield 42, 3) := by decide +kernel
theorem dX0_swap_37 : decode cX0_swap 37 = .ok (.iconst 2, 1) := by decide +kernel
theorem dX0_swap_38 : decode cX0_swap 38 = .ok (.aaload, 1) := by decide +kernel
theorem dX0_swap_39 : decode cX0_swap 39 = .ok (.iload_n 1, 1) := by decide +kernel
theorem dX0_swap_40 : decode cX0_swap 40 = .ok (.iload_n 2, 1) := by decide +kernel
theorem dX0_swap_41 : decode cX0_swap 41 = .ok (.iastore, 1) := by decide +kernel
theorem dX0_swap_42 : decode cX0_swap 42 = .ok (.iinc 1 1, 3) := by decide +kernel
theorem dX0_swap_45 : decode cX0_swap 45 = .ok (.goto (-43), 3) := by decide +kernel
theorem dX0_swap_48 : decode cX0_swap 48 = .ok (.aload_n 0, 1) := by decide +kernel
theorem dX0_swap_49 : decode cX0_swap 49 = .ok (.getfield 37, 3) := by decide +kernel
theorem dX0_swap_52 : decode cX0_swap 52 = .ok (.iconst 1, 1) := by decide +kernel
theorem dX0_swap_53 : decode cX0_swap 53 = .ok (.iaload, 1) := by decide +kernel
theorem dX0_swap_54 : decode cX0_swap 54 = .ok (.istore_n 1, 1) := by decide +kernel
theorem dX0_swap_55 : decode cX0_swap 55 = .ok (.aload_n 0, 1) := by decide +kernel
theorem dX0_swap_56 : decode cX0_swap 56 = .ok (.getfield 37, 3) := by decide +kernel
theorem dX0_swap_59 : decode cX0_swap 59 = .ok (.iconst 1, 1) := by decide +kernel
theorem dX0_swap_60 : decode cX0_swap 60 = .ok (.aload_n 0, 1) := by decide +kernel
theorem dX0_swap_61 : decode cX0_swap 61 = .ok (.getfield 37, 3) := by decide +kernel
theorem dX0_swap_64 : decode cX0_swap 64 = .ok (.iconst 2, 1) := by decide +kernel
theorem dX0_swap_65 : decode cX0_swap 65 = .ok (.iaload, 1) := by decide +kernel
theorem dX0_swap_66 : decode cX0_swap 66 = .ok (.iastore, 1) := by decide +kernel
theorem dX0_swap_67 : decode cX0_swap 67 = .ok (.aload_n 0, 1) := by decide +kernel
theorem dX0_swap_68 : decode cX0_swap 68 = .ok (.getfield 37, 3) := by decide +kernel
theorem dX0_swap_71 : decode cX0_swap 71 = .ok (.iconst 2, 1) := by decide +kernel
theorem dX0_swap_72 : decode cX0_swap 72 = .ok (.iload_n 1, 1) := by decide +kernel
theorem dX0_swap_73 : decode cX0_swap 73 = .ok (.iastore, 1) := by decide +kernel
theorem dX0_swap_74 : decode cX0_swap 74 = .ok (.iconst 0, 1) := by decide +kernel
theorem dX0_swap_75 : decode cX0_swap 75 = .ok (.istore_n 2, 1) := by decide +kernel
theorem dX0_swap_76 : decode cX0_swap 76 = .ok (.iload_n 2, 1) := by decide +kernel
theorem dX0_swap_77 : decode cX0_swap 77 = .ok (.aload_n 0, 1) := by decide +kernel
theorem dX0_swap_78 : decode cX0_swap 78 = .ok (.getfield 30, 3) := by decide +kernel
theorem dX0_swap_81 : decode cX0_swap 81 = .ok (.if_icmp .ge 30, 3) := by decide +kernel
theorem dX0_swap_84 : decode cX0_swap 84 = .ok (.aload_n 0, 1) := by decide +kernel
theorem dX0_swap_85 : decode cX0_swap 85 = .ok (.getfield 45, 3) := by decide +kernel
theorem dX0_swap_88 : decode cX0_swap 88 = .ok (.iload_n 2, 1) := by decide +kernel
theorem dX0_swap_89 : decode cX0_swap 89 = .ok (.aload_n 0, 1) := by decide +kernel
theorem dX0_swap_90 : decode cX0_swap 90 = .ok (.getfield 45, 3) := by decide +kernel
theorem dX0_swap_93 : decode cX0_swap 93 = .ok (.iload_n 2, 1) := by decide +kernel
theorem dX0_swap_94 : decode cX0_swap 94 = .ok (.iaload, 1) := by decide +kernel
theorem dX0_swap_95 : decode cX0_swap 95 = .ok (.iconst 1, 1) := by decide +kernel
theorem dX0_swap_96 : decode cX0_swap 96 = .ok (.if_icmp .ne 7, 3) := by decide +kernel
theorem dX0_swap_99 : decode cX0_swap 99 = .ok (.iconst 2, 1) := by decide +kernel
theorem dX0_swap_100 : decode cX0_swap 100 = .ok (.goto 4, 3) := by decide +kernel
theorem dX0_swap_103 : decode cX0_swap 103 = .ok (.iconst 1, 1) := by decide +kernel
theorem dX0_swap_104 : decode cX0_swap 104 = .ok (.iastore, 1) := by decide +kernel
theorem dX0_swap_105 : decode cX0_swap 105 = .ok (.iinc 2 1, 3) := by decide +kernel
theorem dX0_swap_108 : decode cX0_swap 108 = .ok (.goto (-32), 3) := by decide +kernel
theorem dX0_swap_111 : decode cX0_swap 111 = .ok (.return_, 1) := by decide +kernel
theorem dX0_isTieOf_0 : decode cX0_isTieOf 0 = .ok (.iload_n 2, 1) := by decide +kernel
theorem dX0_isTieOf_1 : decode cX0_isTieOf 1 = .ok (.ifCond .ne 21, 3) := by decide +kernel
theorem dX0_isTieOf_4 : decode cX0_isTieOf 4 = .ok (.aload_n 0, 1) := by decide +kernel
theorem dX0_isTieOf_5 : decode cX0_isTieOf 5 = .ok (.getfield 51, 3) := by decide +kernel
theorem dX0_isTieOf_8 : decode cX0_isTieOf 8 = .ok (.iload_n 1, 1) := by decide +kernel
theorem dX0_isTieOf_9 : decode cX0_isTieOf 9 = .ok (.iaload, 1) := by decide +kernel
theorem dX0_isTieOf_10 : decode cX0_isTieOf 10 = .ok (.iload_n 3, 1) := by decide +kernel
theorem dX0_isTieOf_11 : decode cX0_isTieOf 11 = .ok (.if_icmp .ne 7, 3) := by decide +kernel
theorem dX0_isTieOf_14 : decode cX0_isTieOf 14 = .ok (.iconst 1, 1) := by decide +kernel
theorem dX0_isTieOf_15 : decode cX0_isTieOf 15 = .ok (.goto 32, 3) := by decide +kernel
theorem dX0_isTieOf_18 : decode cX0_isTieOf 18 = .ok (.iconst 0, 1) := by decide +kernel
theorem dX0_isTieOf_19 : decode cX0_isTieOf 19 = .ok (.goto 28, 3) := by decide +kernel
theorem dX0_isTieOf_22 : decode cX0_isTieOf 22 = .ok (.aload_n 0, 1) := by decide +kernel
theorem dX0_isTieOf_23 : decode cX0_isTieOf 23 = .ok (.getfield 45, 3) := by decide +kernel
theorem dX0_isTieOf_26 : decode cX0_isTieOf 26 = .ok (.iload_n 1, 1) := by decide +kernel
theorem dX0_isTieOf_27 : decode cX0_isTieOf 27 = .ok (.iaload, 1) := by decide +kernel
theorem dX0_isTieOf_28 : decode cX0_isTieOf 28 = .ok (.iload_n 2, 1) := by decide +kernel
theorem dX0_isTieOf_29 : decode cX0_isTieOf 29 = .ok (.if_icmp .ne 17, 3) := by decide +kernel
theorem dX0_isTieOf_32 : decode cX0_isTieOf 32 = .ok (.aload_n 0, 1) := by decide +kernel
theorem dX0_isTieOf_33 : decode cX0_isTieOf 33 = .ok (.getfield 48, 3) := by decide +kernel
theorem dX0_isTieOf_36 : decode cX0_isTieOf 36 = .ok (.iload_n 1, 1) := by decide +kernel
theorem dX0_isTieOf_37 : decode cX0_isTieOf 37 = .ok (.iaload, 1) := by decide +kernel
theorem dX0_isTieOf_38 : decode cX0_isTieOf 38 = .ok (.iload_n 3, 1) := by decide +kernel
theorem dX0_isTieOf_39 : decode cX0_isTieOf 39 = .ok (.if_icmp .ne 7, 3) := by decide +kernel
theorem dX0_isTieOf_42 : decode cX0_isTieOf 42 = .ok (.iconst 1, 1) := by decide +kernel
theorem dX0_isTieOf_43 : decode cX0_isTieOf 43 = .ok (.goto 4, 3) := by decide +kernel
theorem dX0_isTieOf_46 : decode cX0_isTieOf 46 = .ok (.iconst 0, 1) := by decide +kernel
theorem dX0_isTieOf_47 : decode cX0_isTieOf 47 = .ok (.ireturn, 1) := by decide +kernel
theorem dX0_isTied_0 : decode cX0_isTied 0 = .ok (.iconst 0, 1) := by decide +kernel
theorem dX0_isTied_1 : decode cX0_isTied 1 = .ok (.istore_n 3, 1) := by decide +kernel
theorem dX0_isTied_2 : decode cX0_isTied 2 = .ok (.iload_n 3, 1) := by decide +kernel
theorem dX0_isTied_3 : decode cX0_isTied 3 = .ok (.aload_n 0, 1) := by decide +kernel
theorem dX0_isTied_4 : decode cX0_isTied 4 = .ok (.getfield 30, 3) := by decide +kernel
theorem dX0_isTied_7 : decode cX0_isTied 7 = .ok (.if_icmp .ge 21, 3) := by decide +kernel
theorem dX0_isTied_10 : decode cX0_isTied 10 = .ok (.aload_n 0, 1) := by decide +kernel
theorem dX0_isTied_11 : decode cX0_isTied 11 = .ok (.iload_n 3, 1) := by decide +kernel
theorem dX0_isTied_12 : decode cX0_isTied 12 = .ok (.iload_n 1, 1) := by decide +kernel
theorem dX0_isTied_13 : decode cX0_isTied 13 = .ok (.iload_n 2, 1) := by decide +kernel
theorem dX0_isTied_14 : decode cX0_isTied 14 = .ok (.invokevirtual 79, 3) := by decide +kernel
theorem dX0_isTied_17 : decode cX0_isTied 17 = .ok (.ifCond .eq 5, 3) := by decide +kernel
theorem dX0_isTied_20 : decode cX0_isTied 20 = .ok (.iconst 1, 1) := by decide +kernel
theorem dX0_isTied_21 : decode cX0_isTied 21 = .ok (.ireturn, 1) := by decide +kernel
theorem dX0_isTied_22 : decode cX0_isTied 22 = .ok (.iinc 3 1, 3) := by decide +kernel
theorem dX0_isTied_25 : decode cX0_isTied 25 = .ok (.goto (-23), 3) := by decide +kernel
theorem dX0_isTied_28 : decode cX0_isTied 28 = .ok (.iconst 0, 1) := by decide +kernel
theorem dX0_isTied_29 : decode cX0_isTied 29 = .ok (.ireturn, 1) := by decide +kernel
theorem dX0_addTie_0 : decode cX0_addTie 0 = .ok (.aload_n 0, 1) := by decide +kernel
theorem dX0_addTie_1 : decode cX0_addTie 1 = .ok (.getfield 30, 3) := by decide +kernel
theorem dX0_addTie_4 : decode cX0_addTie 4 = .ok (.bipush 12, 2) := by decide +kernel
theorem dX0_addTie_6 : decode cX0_addTie 6 = .ok (.if_icmp .lt 4, 3) := by decide +kernel
theorem dX0_addTie_9 : decode cX0_addTie 9 = .ok (.return_, 1) := by decide +kernel
theorem dX0_addTie_10 : decode cX0_addTie 10 = .ok (.aload_n 0, 1) := by decide +kernel
theorem dX0_addTie_11 : decode cX0_addTie 11 = .ok (.getfield 45, 3) := by decide +kernel
theorem dX0_addTie_14 : decode cX0_addTie 14 = .ok (.aload_n 0, 1) := by decide +kernel
theorem dX0_addTie_15 : decode cX0_addTie 15 = .ok (.getfield 30, 3) := by decide +kernel
theorem dX0_addTie_18 : decode cX0_addTie 18 = .ok (.iload_n 1, 1) := by decide +kernel
theorem dX0_addTie_19 : decode cX0_addTie 19 = .ok (.iastore, 1) := by decide +kernel
theorem dX0_addTie_20 : decode cX0_addTie 20 = .ok (.aload_n 0, 1) := by decide +kernel
theorem dX0_addTie_21 : decode cX0_addTie 21 = .ok (.getfield 48, 3) := by decide +kernel
theorem dX0_addTie_24 : decode cX0_addTie 24 = .ok (.aload_n 0, 1) := by decide +kernel
theorem dX0_addTie_25 : decode cX0_addTie 25 = .ok (.getfield 30, 3) := by decide +kernel
theorem dX0_addTie_28 : decode cX0_addTie 28 = .ok (.iload_n 2, 1) := by decide +kernel
theorem dX0_addTie_29 : decode cX0_addTie 29 = .ok (.iastore, 1) := by decide +kernel
theorem dX0_addTie_30 : decode cX0_addTie 30 = .ok (.aload_n 0, 1) := by decide +kernel
theorem dX0_addTie_31 : decode cX0_addTie 31 = .ok (.getfield 51, 3) := by decide +kernel
theorem dX0_addTie_34 : decode cX0_addTie 34 = .ok (.aload_n 0, 1) := by decide +kernel
theorem dX0_addTie_35 : decode cX0_addTie 35 = .ok (.getfield 30, 3) := by decide +kernel
theorem dX0_addTie_38 : decode cX0_addTie 38 = .ok (.iload_n 3, 1) := by decide +kernel
theorem dX0_addTie_39 : decode cX0_addTie 39 = .ok (.iastore, 1) := by decide +kernel
theorem dX0_addTie_40 : decode cX0_addTie 40 = .ok (.aload_n 0, 1) := by decide +kernel
theorem dX0_addTie_41 : decode cX0_addTie 41 = .ok (.dup, 1) := by decide +kernel
theorem dX0_addTie_42 : decode cX0_addTie 42 = .ok (.getfield 30, 3) := by decide +kernel
theorem dX0_addTie_45 : decode cX0_addTie 45 = .ok (.iconst 1, 1) := by decide +kernel
theorem dX0_addTie_46 : decode cX0_addTie 46 = .ok (.iadd, 1) := by decide +kernel
theorem dX0_addTie_47 : decode cX0_addTie 47 = .ok (.putfield 30, 3) := by decide +kernel
theorem dX0_addTie_50 : decode cX0_addTie 50 = .ok (.return_, 1) := by decide +kernel
theorem dX0_dropTie_0 : decode cX0_dropTie 0 = .ok (.iload_n 1, 1) := by decide +kernel
theorem dX0_dropTie_1 : decode cX0_dropTie 1 = .ok (.iconst 1, 1) := by decide +kernel
theorem dX0_dropTie_2 : decode cX0_dropTie 2 = .ok (.iadd, 1) := by decide +kernel
theorem dX0_dropTie_3 : decode cX0_dropTie 3 = .ok (.istore_n 2, 1) := by decide +kernel
theorem dX0_dropTie_4 : decode cX0_dropTie 4 = .ok (.iload_n 2, 1) := by decide +kernel
theorem dX0_dropTie_5 : decode cX0_dropTie 5 = .ok (.aload_n 0, 1) := by decide +kernel
theorem dX0_dropTie_6 : decode cX0_dropTie 6 = .ok (.getfield 30, 3) := by decide +kernel
theorem dX0_dropTie_9 : decode cX0_dropTie 9 = .ok (.if_icmp .ge 51, 3) := by decide +kernel
theorem dX0_dropTie_12 : decode cX0_dropTie 12 = .ok (.aload_n 0, 1) := by decide +kernel
theorem dX0_dropTie_13 : decode cX0_dropTie 13 = .ok (.getfield 45, 3) := by decide +kernel
theorem dX0_dropTie_16 : decode cX0_dropTie 16 = .ok (.iload_n 2, 1) := by decide +kernel
theorem dX0_dropTie_17 : decode cX0_dropTie 17 = .ok (.iconst 1, 1) := by decide +kernel
theorem dX0_dropTie_18 : decode cX0_dropTie 18 = .ok (.isub, 1) := by decide +kernel
theorem dX0_dropTie_19 : decode cX0_dropTie 19 = .ok (.aload_n 0, 1) := by decide +kernel
theorem dX0_dropTie_20 : decode cX0_dropTie 20 = .ok (.getfield 45, 3) := by decide +kernel
theorem dX0_dropTie_23 : decode cX0_dropTie 23 = .ok (.iload_n 2, 1) := by decide +kernel
theorem dX0_dropTie_24 : decode cX0_dropTie 24 = .ok (.iaload, 1) := by decide +kernel
theorem dX0_dropTie_25 : decode cX0_dropTie 25 = .ok (.iastore, 1) := by decide +kernel
theorem dX0_dropTie_26 : decode cX0_dropTie 26 = .ok (.aload_n 0, 1) := by decide +kernel
theorem dX0_dropTie_27 : decode cX0_dropTie 27 = .ok (.getfield 48, 3) := by decide +kernel
theorem dX0_dropTie_30 : decode cX0_dropTie 30 = .ok (.iload_n 2, 1) := by decide +kernel
theorem dX0_dropTie_31 : decode cX0_dropTie 31 = .ok (.iconst 1, 1) := by decide +kernel
theorem dX0_dropTie_32 : decode cX0_dropTie 32 = .ok (.isub, 1) := by decide +kernel
theorem dX0_dropTie_33 : decode cX0_dropTie 33 = .ok (.aload_n 0, 1) := by decide +kernel
theorem dX0_dropTie_34 : decode cX0_dropTie 34 = .ok (.getfield 48, 3) := by decide +kernel
theorem dX0_dropTie_37 : decode cX0_dropTie 37 = .ok (.iload_n 2, 1) := by decide +kernel
theorem dX0_dropTie_38 : decode cX0_dropTie 38 = .ok (.iaload, 1) := by decide +kernel
theorem dX0_dropTie_39 : decode cX0_dropTie 39 = .ok (.iastore, 1) := by decide +kernel
theorem dX0_dropTie_40 : decode cX0_dropTie 40 = .ok (.aload_n 0, 1) := by decide +kernel
theorem dX0_dropTie_41 : decode cX0_dropTie 41 = .ok (.getfield 51, 3) := by decide +kernel
theorem dX0_dropTie_44 : decode cX0_dropTie 44 = .ok (.iload_n 2, 1) := by decide +kernel
theorem dX0_dropTie_45 : decode cX0_dropTie 45 = .ok (.iconst 1, 1) := by decide +kernel
theorem dX0_dropTie_46 : decode cX0_dropTie 46 = .ok (.isub, 1) := by decide +kernel
theorem dX0_dropTie_47 : decode cX0_dropTie 47 = .ok (.aload_n 0, 1) := by decide +kernel
theorem dX0_dropTie_48 : decode cX0_dropTie 48 = .ok (.getfield 51, 3) := by decide +kernel
theorem dX0_dropTie_51 : decode cX0_dropTie 51 = .ok (.iload_n 2, 1) := by decide +kernel
theorem dX0_dropTie_52 : decode cX0_dropTie 52 = .ok (.iaload, 1) := by decide +kernel
theorem dX0_dropTie_53 : decode cX0_dropTie 53 = .ok (.iastore, 1) := by decide +kernel
theorem dX0_dropTie_54 : decode cX0_dropTie 54 = .ok (.iinc 2 1, 3) := by decide +kernel
theorem dX0_dropTie_57 : decode cX0_dropTie 57 = .ok (.goto (-53), 3) := by decide +kernel
theorem dX0_dropTie_60 : decode cX0_dropTie 60 = .ok (.aload_n 0, 1) := by decide +kernel
theorem dX0_dropTie_61 : decode cX0_dropTie 61 = .ok (.dup, 1) := by decide +kernel
theorem dX0_dropTie_62 : decode cX0_dropTie 62 = .ok (.getfield 30, 3) := by decide +kernel
theorem dX0_dropTie_65 : decode cX0_dropTie 65 = .ok (.iconst 1, 1) := by decide +kernel
theorem dX0_dropTie_66 : decode cX0_dropTie 66 = .ok (.isub, 1) := by decide +kernel
theorem dX0_dropTie_67 : decode cX0_dropTie 67 = .ok (.putfield 30, 3) := by decide +kernel
theorem dX0_dropTie_70 : decode cX0_dropTie 70 = .ok (.return_, 1) := by decide +kernel
theorem dX0_dropTiesOf_0 : decode cX0_dropTiesOf 0 = .ok (.aload_n 0, 1) := by decide +kernel
theorem dX0_dropTiesOf_1 : decode cX0_dropTiesOf 1 = .ok (.getfield 30, 3) := by decide +kernel
theorem dX0_dropTiesOf_4 : decode cX0_dropTiesOf 4 = .ok (.iconst 1, 1) := by decide +kernel
theorem dX0_dropTiesOf_5 : decode cX0_dropTiesOf 5 = .ok (.isub, 1) := by decide +kernel
theorem dX0_dropTiesOf_6 : decode cX0_dropTiesOf 6 = .ok (.istore_n 2, 1) := by decide +kernel
theorem dX0_dropTiesOf_7 : decode cX0_dropTiesOf 7 = .ok (.iload_n 2, 1) := by decide +kernel
theorem dX0_dropTiesOf_8 : decode cX0_dropTiesOf 8 = .ok (.ifCond .lt 28, 3) := by decide +kernel
theorem dX0_dropTiesOf_11 : decode cX0_dropTiesOf 11 = .ok (.iload_n 1, 1) := by decide +kernel
theorem dX0_dropTiesOf_12 : decode cX0_dropTiesOf 12 = .ok (.ifCond .eq 13, 3) := by decide +kernel
theorem dX0_dropTiesOf_15 : decode cX0_dropTiesOf 15 = .ok (.aload_n 0, 1) := by decide +kernel
theorem dX0_dropTiesOf_16 : decode cX0_dropTiesOf 16 = .ok (.getfield 45, 3) := by decide +kernel
theorem dX0_dropTiesOf_19 : decode cX0_dropTiesOf 19 = .ok (.iload_n 2, 1) := by decide +kernel
theorem dX0_dropTiesOf_20 : decode cX0_dropTiesOf 20 = .ok (.iaload, 1) := by decide +kernel
theorem dX0_dropTiesOf_21 : decode cX0_dropTiesOf 21 = .ok (.iload_n 1, 1) := by decide +kernel
theorem dX0_dropTiesOf_22 : decode cX0_dropTiesOf 22 = .ok (.if_icmp .ne 8, 3) := by decide +kernel
theorem dX0_dropTiesOf_25 : decode cX0_dropTiesOf 25 = .ok (.aload_n 0, 1) := by decide +kernel
theorem dX0_dropTiesOf_26 : decode cX0_dropTiesOf 26 = .ok (.iload_n 2, 1) := by decide +kernel
theorem dX0_dropTiesOf_27 : decode cX0_dropTiesOf 27 = .ok (.invokevirtual 82, 3) := by decide +kernel
theorem dX0_dropTiesOf_30 : decode cX0_dropTiesOf 30 = .ok (.iinc 2 (-1), 3) := by decide +kernel
theorem dX0_dropTiesOf_33 : decode cX0_dropTiesOf 33 = .ok (.goto (-26), 3) := by decide +kernel
theorem dX0_dropTiesOf_36 : decode cX0_dropTiesOf 36 = .ok (.return_, 1) := by decide +kernel
theorem dX0_moveTies_0 : decode cX0_moveTies 0 = .ok (.iconst 0, 1) := by decide +kernel
theorem dX0_moveTies_1 : decode cX0_moveTies 1 = .ok (.istore 4, 2) := by decide +kernel
theorem dX0_moveTies_3 : decode cX0_moveTies 3 = .ok (.iload 4, 2) := by decide +kernel
theorem dX0_moveTies_5 : decode cX0_moveTies 5 = .ok (.aload_n 0, 1) := by decide +kernel
theorem dX0_moveTies_6 : decode cX0_moveTies 6 = .ok (.getfield 30, 3) := by decide +kernel
theorem dX0_moveTies_9 : decode cX0_moveTies 9 = .ok (.if_icmp .ge 79, 3) := by decide +kernel
theorem dX0_moveTies_12 : decode cX0_moveTies 12 = .ok (.iload_n 1, 1) := by decide +kernel
theorem dX0_moveTies_13 : decode cX0_moveTies 13 = .ok (.ifCond .ne 32, 3) := by decide +kernel
theorem dX0_moveTies_16 : decode cX0_moveTies 16 = .ok (.aload_n 0, 1) := by decide +kernel
theorem dX0_moveTies_17 : decode cX0_moveTies 17 = .ok (.getfield 51, 3) := by decide +kernel
theorem dX0_moveTies_20 : decode cX0_moveTies 20 = .ok (.iload 4, 2) := by decide +kernel
theorem dX0_moveTies_22 : decode cX0_moveTies 22 = .ok (.dup2, 1) := by decide +kernel
theorem dX0_moveTies_23 : decode cX0_moveTies 23 = .ok (.iaload, 1) := by decide +kernel
theorem dX0_moveTies_24 : decode cX0_moveTies 24 = .ok (.aload_n 0, 1) := by decide +kernel
theorem dX0_moveTies_25 : decode cX0_moveTies 25 = .ok (.getfield 51, 3) := by decide +kernel
theorem dX0_moveTies_28 : decode cX0_moveTies 28 = .ok (.iload 4, 2) := by decide +kernel
theorem dX0_moveTies_30 : decode cX0_moveTies 30 = .ok (.iaload, 1) := by decide +kernel
theorem dX0_moveTies_31 : decode cX0_moveTies 31 = .ok (.iload_n 2, 1) := by decide +kernel
theorem dX0_moveTies_32 : decode cX0_moveTies 32 = .ok (.if_icmp .lt 7, 3) := by decide +kernel
theorem dX0_moveTies_35 : decode cX0_moveTies 35 = .ok (.iload_n 3, 1) := by decide +kernel
theorem dX0_moveTies_36 : decode cX0_moveTies 36 = .ok (.goto 4, 3) := by decide +kernel
theorem dX0_moveTies_39 : decode cX0_moveTies 39 = .ok (.iconst 0, 1) := by decide +kernel
theorem dX0_moveTies_40 : decode cX0_moveTies 40 = .ok (.iadd, 1) := by decide +kernel
theorem dX0_moveTies_41 : decode cX0_moveTies 41 = .ok (.iastore, 1) := by decide +kernel
theorem dX0_moveTies_42 : decode cX0_moveTies 42 = .ok (.goto 40, 3) := by decide +kernel
theorem dX0_moveTies_45 : decode cX0_moveTies 45 = .ok (.aload_n 0, 1) := by decide +kernel
theorem dX0_moveTies_46 : decode cX0_moveTies 46 = .ok (.getfield 45, 3) := by decide +kernel
theorem dX0_moveTies_49 : decode cX0_moveTies 49 = .ok (.iload 4, 2) := by decide +kernel
theorem dX0_moveTies_51 : decode cX0_moveTies 51 = .ok (.iaload, 1) := by decide +kernel
theorem dX0_moveTies_52 : decode cX0_moveTies 52 = .ok (.iload_n 1, 1) := by decide +kernel
theorem dX0_moveTies_53 : decode cX0_moveTies 53 = .ok (.if_icmp .ne 29, 3) := by decide +kernel
theorem dX0_moveTies_56 : decode cX0_moveTies 56 = .ok (.aload_n 0, 1) := by decide +kernel
theorem dX0_moveTies_57 : decode cX0_moveTies 57 = .ok (.getfield 48, 3) := by decide +kernel
theorem dX0_moveTies_60 : decode cX0_moveTies 60 = .ok (.iload 4, 2) := by decide +kernel
theorem dX0_moveTies_62 : decode cX0_moveTies 62 = .ok (.dup2, 1) := by decide +kernel
theorem dX0_moveTies_63 : decode cX0_moveTies 63 = .ok (.iaload, 1) := by decide +kernel
theorem dX0_moveTies_64 : decode cX0_moveTies 64 = .ok (.aload_n 0, 1) := by decide +kernel
theorem dX0_moveTies_65 : decode cX0_moveTies 65 = .ok (.getfield 48, 3) := by decide +kernel
theorem dX0_moveTies_68 : decode cX0_moveTies 68 = .ok (.iload 4, 2) := by decide +kernel
theorem dX0_moveTies_70 : decode cX0_moveTies 70 = .ok (.iaload, 1) := by decide +kernel
theorem dX0_moveTies_71 : decode cX0_moveTies 71 = .ok (.iload_n 2, 1) := by decide +kernel
theorem dX0_moveTies_72 : decode cX0_moveTies 72 = .ok (.if_icmp .lt 7, 3) := by decide +kernel
theorem dX0_moveTies_75 : decode cX0_moveTies 75 = .ok (.iload_n 3, 1) := by decide +kernel
theorem dX0_moveTies_76 : decode cX0_moveTies 76 = .ok (.goto 4, 3) := by decide +kernel
theorem dX0_moveTies_79 : decode cX0_moveTies 79 = .ok (.iconst 0, 1) := by decide +kernel
theorem dX0_moveTies_80 : decode cX0_moveTies 80 = .ok (.iadd, 1) := by decide +kernel
theorem dX0_moveTies_81 : decode cX0_moveTies 81 = .ok (.iastore, 1) := by decide +kernel
theorem dX0_moveTies_82 : decode cX0_moveTies 82 = .ok (.iinc 4 1, 3) := by decide +kernel
theorem dX0_moveTies_85 : decode cX0_moveTies 85 = .ok (.goto (-82), 3) := by decide +kernel
theorem dX0_moveTies_88 : decode cX0_moveTies 88 = .ok (.return_, 1) := by decide +kernel
theorem dX1_init_0 : decode cX1_init 0 = .ok (.aload_n 0, 1) := by decide +kernel
theorem dX1_init_1 : decode cX1_init 1 = .ok (.invokespecial 3, 3) := by decide +kernel
theorem dX1_init_4 : decode cX1_init 4 = .ok (.aload_n 0, 1) := by decide +kernel
theorem dX1_init_5 : decode cX1_init 5 = .ok (.bipush 8, 2) := by decide +kernel
theorem dX1_init_7 : decode cX1_init 7 = .ok (.anewarray 11, 3) := by decide +kernel
theorem dX1_init_10 : decode cX1_init 10 = .ok (.putfield 13, 3) := by decide +kernel
theorem dX1_init_13 : decode cX1_init 13 = .ok (.aload_n 0, 1) := by decide +kernel
theorem dX1_init_14 : decode cX1_init 14 = .ok (.iconst 0, 1) := by decide +kernel
theorem dX1_init_15 : decode cX1_init 15 = .ok (.putfield 17, 3) := by decide +kernel
theorem dX1_init_18 : decode cX1_init 18 = .ok (.aload_n 0, 1) := by decide +kernel
theorem dX1_init_19 : decode cX1_init 19 = .ok (.iconst 0, 1) := by decide +kernel
theorem dX1_init_20 : decode cX1_init 20 = .ok (.putfield 21, 3) := by decide +kernel
theorem dX1_init_23 : decode cX1_init 23 = .ok (.iconst 0, 1) := by decide +kernel
theorem dX1_init_24 : decode cX1_init 24 = .ok (.istore_n 1, 1) := by decide +kernel
theorem dX1_init_25 : decode cX1_init 25 = .ok (.iload_n 1, 1) := by decide +kernel
theorem dX1_init_26 : decode cX1_init 26 = .ok (.bipush 8, 2) := by decide +kernel
theorem dX1_init_28 : decode cX1_init 28 = .ok (.if_icmp .ge 22, 3) := by decide +kernel
theorem dX1_init_31 : decode cX1_init 31 = .ok (.aload_n 0, 1) := by decide +kernel
theorem dX1_init_32 : decode cX1_init 32 = .ok (.getfield 13, 3) := by decide +kernel
theorem dX1_init_35 : decode cX1_init 35 = .ok (.iload_n 1, 1) := by decide +kernel
theorem dX1_init_36 : decode cX1_init 36 = .ok (.new 11, 3) := by decide +kernel
theorem dX1_init_39 : decode cX1_init 39 = .ok (.dup, 1) := by decide +kernel
theorem dX1_init_40 : decode cX1_init 40 = .ok (.invokespecial 24, 3) := by decide +kernel
theorem dX1_init_43 : decode cX1_init 43 = .ok (.aastore, 1) := by decide +kernel
theorem dX1_init_44 : decode cX1_init 44 = .ok (.iinc 1 1, 3) := by decide +kernel
theorem dX1_init_47 : decode cX1_init 47 = .ok (.goto (-22), 3) := by decide +kernel
theorem dX1_init_50 : decode cX1_init 50 = .ok (.return_, 1) := by decide +kernel
theorem dX1_mark_0 : decode cX1_mark 0 = .ok (.aload_n 0, 1) := by decide +kernel
theorem dX1_mark_1 : decode cX1_mark 1 = .ok (.getfield 13, 3) := by decide +kernel
theorem dX1_mark_4 : decode cX1_mark 4 = .ok (.aload_n 0, 1) := by decide +kernel
theorem dX1_mark_5 : decode cX1_mark 5 = .ok (.getfield 17, 3) := by decide +kernel
theorem dX1_mark_8 : decode cX1_mark 8 = .ok (.aaload, 1) := by decide +kernel
theorem dX1_mark_9 : decode cX1_mark 9 = .ok (.aload_n 1, 1) := by decide +kernel
theorem dX1_mark_10 : decode cX1_mark 10 = .ok (.invokevirtual 25, 3) := by decide +kernel
theorem dX1_mark_13 : decode cX1_mark 13 = .ok (.return_, 1) := by decide +kernel
theorem dX1_remember_0 : decode cX1_remember 0 = .ok (.aload_n 0, 1) := by decide +kernel
theorem dX1_remember_1 : decode cX1_remember 1 = .ok (.aload_n 0, 1) := by decide +kernel
theorem dX1_remember_2 : decode cX1_remember 2 = .ok (.getfield 17, 3) := by decide +kernel
theorem dX1_remember_5 : decode cX1_remember 5 = .ok (.iconst 1, 1) := by decide +kernel
theorem dX1_remember_6 : decode cX1_remember 6 = .ok (.iadd, 1) := by decide +kernel
theorem dX1_remember_7 : decode cX1_remember 7 = .ok (.bipush 8, 2) := by decide +kernel
theorem dX1_remember_9 : decode cX1_remember 9 = .ok (.if_icmp .ge 12, 3) := by decide +kernel
theorem dX1_remember_12 : decode cX1_remember 12 = .ok (.aload_n 0, 1) := by decide +kernel
theorem dX1_remember_13 : decode cX1_remember 13 = .ok (.getfield 17, 3) := by decide +kernel
theorem dX1_remember_16 : decode cX1_remember 16 = .ok (.iconst 1, 1) := by decide +kernel
theorem dX1_remember_17 : decode cX1_remember 17 = .ok (.iadd, 1) := by decide +kernel
theorem dX1_remember_18 : decode cX1_remember 18 = .ok (.goto 4, 3) := by decide +kernel
theorem dX1_remember_21 : decode cX1_remember 21 = .ok (.iconst 0, 1) := by decide +kernel
theorem dX1_remember_22 : decode cX1_remember 22 = .ok (.putfield 17, 3) := by decide +kernel
theorem dX1_remember_25 : decode cX1_remember 25 = .ok (.aload_n 0, 1) := by decide +kernel
theorem dX1_remember_26 : decode cX1_remember 26 = .ok (.aload_n 0, 1) := by decide +kernel
theorem dX1_remember_27 : decode cX1_remember 27 = .ok (.getfield 21, 3) := by decide +kernel
theorem dX1_remember_30 : decode cX1_remember 30 = .ok (.iconst 1, 1) := by decide +kernel
theorem dX1_remember_31 : decode cX1_remember 31 = .ok (.iadd, 1) := by decide +kernel
theorem dX1_remember_32 : decode cX1_remember 32 = .ok (.bipush 7, 2) := by decide +kernel
theorem dX1_remember_34 : decode cX1_remember 34 = .ok (.invokestatic 29, 3) := by decide +kernel
theorem dX1_remember_37 : decode cX1_remember 37 = .ok (.putfield 21, 3) := by decide +kernel
theorem dX1_remember_40 : decode cX1_remember 40 = .ok (.return_, 1) := by decide +kernel
theorem dX1_takeBack_0 : decode cX1_takeBack 0 = .ok (.aload_n 0, 1) := by decide +kernel
theorem dX1_takeBack_1 : decode cX1_takeBack 1 = .ok (.getfield 21, 3) := by decide +kernel
theorem dX1_takeBack_4 : decode cX1_takeBack 4 = .ok (.ifCond .ne 5, 3) := by decide +kernel
theorem dX1_takeBack_7 : decode cX1_takeBack 7 = .ok (.iconst 0, 1) := by decide +kernel
theorem dX1_takeBack_8 : decode cX1_takeBack 8 = .ok (.ireturn, 1) := by decide +kernel
theorem dX1_takeBack_9 : decode cX1_takeBack 9 = .ok (.aload_n 0, 1) := by decide +kernel
theorem dX1_takeBack_10 : decode cX1_takeBack 10 = .ok (.aload_n 0, 1) := by decide +kernel
theorem dX1_takeBack_11 : decode cX1_takeBack 11 = .ok (.getfield 17, 3) := by decide +kernel
theorem dX1_takeBack_14 : decode cX1_takeBack 14 = .ok (.ifCond .le 12, 3) := by decide +kernel
theorem dX1_takeBack_17 : decode cX1_takeBack 17 = .ok (.aload_n 0, 1) := by decide +kernel
theorem dX1_takeBack_18 : decode cX1_takeBack 18 = .ok (.getfield 17, 3) := by decide +kernel
theorem dX1_takeBack_21 : decode cX1_takeBack 21 = .ok (.iconst 1, 1) := by decide +kernel
theorem dX1_takeBack_22 : decode cX1_takeBack 22 = .ok (.isub, 1) := by decide +kernel
theorem dX1_takeBack_23 : decode cX1_takeBack 23 = .ok (.goto 5, 3) := by decide +kernel
theorem dX1_takeBack_26 : decode cX1_takeBack 26 = .ok (.bipush 7, 2) := by decide +kernel
theorem dX1_takeBack_28 : decode cX1_takeBack 28 = .ok (.putfield 17, 3) := by decide +kernel
theorem dX1_takeBack_31 : decode cX1_takeBack 31 = .ok (.aload_n 0, 1) := by decide +kernel
theorem dX1_takeBack_32 : decode cX1_takeBack 32 = .ok (.dup, 1) := by decide +kernel
theorem dX1_takeBack_33 : decode cX1_takeBack 33 = .ok (.getfield 21, 3) := by decide +kernel
theorem dX1_takeBack_36 : decode cX1_takeBack 36 = .ok (.iconst 1, 1) := by decide +kernel
theorem dX1_takeBack_37 : decode cX1_takeBack 37 = .ok (.isub, 1) := by decide +kernel
theorem dX1_takeBack_38 : decode cX1_takeBack 38 = .ok (.putfield 21, 3) := by decide +kernel
theorem dX1_takeBack_41 : decode cX1_takeBack 41 = .ok (.aload_n 1, 1) := by decide +kernel
theorem dX1_takeBack_42 : decode cX1_takeBack 42 = .ok (.aload_n 0, 1) := by decide +kernel
theorem dX1_takeBack_43 : decode cX1_takeBack 43 = .ok (.getfield 13, 3) := by decide +kernel
theorem dX1_takeBack_46 : decode cX1_takeBack 46 = .ok (.aload_n 0, 1) := by decide +kernel
theorem dX1_takeBack_47 : decode cX1_takeBack 47 = .ok (.getfield 17, 3) := by decide +kernel
theorem dX1_takeBack_50 : decode cX1_takeBack 50 = .ok (.aaload, 1) := by decide +kernel
theorem dX1_takeBack_51 : decode cX1_takeBack 51 = .ok (.invokevirtual 25, 3) := by decide +kernel
theorem dX1_takeBack_54 : decode cX1_takeBack 54 = .ok (.iconst 1, 1) := by decide +kernel
theorem dX1_takeBack_55 : decode cX1_takeBack 55 = .ok (.ireturn, 1) := by decide +kernel
theorem dX1_forget_0 : decode cX1_forget 0 = .ok (.aload_n 0, 1) := by decide +kernel
theorem dX1_forget_1 : decode cX1_forget 1 = .ok (.iconst 0, 1) := by decide +kernel
theorem dX1_forget_2 : decode cX1_forget 2 = .ok (.putfield 21, 3) := by decide +kernel
theorem dX1_forget_5 : decode cX1_forget 5 = .ok (.return_, 1) := by decide +kernel
theorem dX2_init_0 : decode cX2_init 0 = .ok (.aload_n 0, 1) := by decide +kernel
theorem dX2_init_1 : decode cX2_init 1 = .ok (.invokespecial 1, 3) := by decide +kernel
theorem dX2_init_4 : decode cX2_init 4 = .ok (.aload_n 0, 1) := by decide +kernel
theorem dX2_init_5 : decode cX2_init 5 = .ok (.bipush 60, 2) := by decide +kernel
theorem dX2_init_7 : decode cX2_init 7 = .ok (.newarray .long, 2) := by decide +kernel
theorem dX2_init_9 : decode cX2_init 9 = .ok (.putfield 9, 3) := by decide +kernel
theorem dX2_init_12 : decode cX2_init 12 = .ok (.aload_n 0, 1) := by decide +kernel
theorem dX2_init_13 : decode cX2_init 13 = .ok (.iconst 0, 1) := by decide +kernel
theorem dX2_init_14 : decode cX2_init 14 = .ok (.putfield 13, 3) := by decide +kernel
theorem dX2_init_17 : decode cX2_init 17 = .ok (.return_, 1) := by decide +kernel
theorem dX2_clear_0 : decode cX2_clear 0 = .ok (.aload_n 0, 1) := by decide +kernel
theorem dX2_clear_1 : decode cX2_clear 1 = .ok (.iconst 0, 1) := by decide +kernel
theorem dX2_clear_2 : decode cX2_clear 2 = .ok (.putfield 13, 3) := by decide +kernel
theorem dX2_clear_5 : decode cX2_clear 5 = .ok (.return_, 1) := by decide +kernel
theorem dX2_tell_0 : decode cX2_tell 0 = .ok (.aload_n 0, 1) := by decide +kernel
theorem dX2_tell_1 : decode cX2_tell 1 = .ok (.getfield 9, 3) := by decide +kernel
theorem dX2_tell_4 : decode cX2_tell 4 = .ok (.iconst 0, 1) := by decide +kernel
theorem dX2_tell_5 : decode cX2_tell 5 = .ok (.lload_n 1, 1) := by decide +kernel
theorem dX2_tell_6 : decode cX2_tell 6 = .ok (.lastore, 1) := by decide +kernel
theorem dX2_tell_7 : decode cX2_tell 7 = .ok (.aload_n 0, 1) := by decide +kernel
theorem dX2_tell_8 : decode cX2_tell 8 = .ok (.iconst 1, 1) := by decide +kernel
theorem dX2_tell_9 : decode cX2_tell 9 = .ok (.putfield 13, 3) := by decide +kernel
theorem dX2_tell_12 : decode cX2_tell 12 = .ok (.return_, 1) := by decide +kernel
theorem dX2_tell__0 : decode cX2_tell_ 0 = .ok (.aload_n 0, 1) := by decide +kernel
theorem dX2_tell__1 : decode cX2_tell_ 1 = .ok (.lload_n 1, 1) := by decide +kernel
theorem dX2_tell__2 : decode cX2_tell_ 2 = .ok (.invokevirtual 17, 3) := by decide +kernel
theorem dX2_tell__5 : decode cX2_tell_ 5 = .ok (.aload_n 0, 1) := by decide +kernel
theorem dX2_tell__6 : decode cX2_tell_ 6 = .ok (.getfield 9, 3) := by decide +kernel
theorem dX2_tell__9 : decode cX2_tell_ 9 = .ok (.iconst 1, 1) := by decide +kernel
theorem dX2_tell__10 : decode cX2_tell_ 10 = .ok (.lload_n 3, 1) := by decide +kernel
theorem dX2_tell__11 : decode cX2_tell_ 11 = .ok (.lastore, 1) := by decide +kernel
theorem dX2_tell__12 : decode cX2_tell_ 12 = .ok (.aload_n 0, 1) := by decide +kernel
theorem dX2_tell__13 : decode cX2_tell_ 13 = .ok (.iconst 2, 1) := by decide +kernel
theorem dX2_tell__14 : decode cX2_tell_ 14 = .ok (.putfield 13, 3) := by decide +kernel
theorem dX2_tell__17 : decode cX2_tell_ 17 = .ok (.return_, 1) := by decide +kernel
theorem dX2_tell___0 : decode cX2_tell__ 0 = .ok (.aload_n 0, 1) := by decide +kernel
theorem dX2_tell___1 : decode cX2_tell__ 1 = .ok (.lload_n 1, 1) := by decide +kernel
theorem dX2_tell___2 : decode cX2_tell__ 2 = .ok (.lload_n 3, 1) := by decide +kernel
theorem dX2_tell___3 : decode cX2_tell__ 3 = .ok (.invokevirtual 21, 3) := by decide +kernel
theorem dX2_tell___6 : decode cX2_tell__ 6 = .ok (.aload_n 0, 1) := by decide +kernel
theorem dX2_tell___7 : decode cX2_tell__ 7 = .ok (.getfield 9, 3) := by decide +kernel
theorem dX2_tell___10 : decode cX2_tell__ 10 = .ok (.iconst 2, 1) := by decide +kernel
theorem dX2_tell___11 : decode cX2_tell__ 11 = .ok (.lload 5, 2) := by decide +kernel
theorem dX2_tell___13 : decode cX2_tell__ 13 = .ok (.lastore, 1) := by decide +kernel
theorem dX2_tell___14 : decode cX2_tell__ 14 = .ok (.aload_n 0, 1) := by decide +kernel
theorem dX2_tell___15 : decode cX2_tell__ 15 = .ok (.iconst 3, 1) := by decide +kernel
theorem dX2_tell___16 : decode cX2_tell__ 16 = .ok (.putfield 13, 3) := by decide +kernel
theorem dX2_tell___19 : decode cX2_tell__ 19 = .ok (.return_, 1) := by decide +kernel
theorem dX2_tell____0 : decode cX2_tell___ 0 = .ok (.aload_n 0, 1) := by decide +kernel
theorem dX2_tell____1 : decode cX2_tell___ 1 = .ok (.lload_n 1, 1) := by decide +kernel
theorem dX2_tell____2 : decode cX2_tell___ 2 = .ok (.lload_n 3, 1) := by decide +kernel
theorem dX2_tell____3 : decode cX2_tell___ 3 = .ok (.lload 5, 2) := by decide +kernel
theorem dX2_tell____5 : decode cX2_tell___ 5 = .ok (.invokevirtual 24, 3) := by decide +kernel
theorem dX2_tell____8 : decode cX2_tell___ 8 = .ok (.aload_n 0, 1) := by decide +kernel
theorem dX2_tell____9 : decode cX2_tell___ 9 = .ok (.getfield 9, 3) := by decide +kernel
theorem dX2_tell____12 : decode cX2_tell___ 12 = .ok (.iconst 3, 1) := by decide +kernel
theorem dX2_tell____13 : decode cX2_tell___ 13 = .ok (.lload 7, 2) := by decide +kernel
theorem dX2_tell____15 : decode cX2_tell___ 15 = .ok (.lastore, 1) := by decide +kernel
theorem dX2_tell____16 : decode cX2_tell___ 16 = .ok (.aload_n 0, 1) := by decide +kernel
theorem dX2_tell____17 : decode cX2_tell___ 17 = .ok (.iconst 4, 1) := by decide +kernel
theorem dX2_tell____18 : decode cX2_tell___ 18 = .ok (.putfield 13, 3) := by decide +kernel
theorem dX2_tell____21 : decode cX2_tell___ 21 = .ok (.return_, 1) := by decide +kernel
theorem dX2_noughts_0 : decode cX2_noughts 0 = .ok (.aload_n 0, 1) := by decide +kernel
theorem dX2_noughts_1 : decode cX2_noughts 1 = .ok (.iconst 0, 1) := by decide +kernel
theorem dX2_noughts_2 : decode cX2_noughts 2 = .ok (.iload_n 1, 1) := by decide +kernel
theorem dX2_noughts_3 : decode cX2_noughts 3 = .ok (.bipush 60, 2) := by decide +kernel
theorem dX2_noughts_5 : decode cX2_noughts 5 = .ok (.invokestatic 27, 3) := by decide +kernel
theorem dX2_noughts_8 : decode cX2_noughts 8 = .ok (.invokestatic 33, 3) := by decide +kernel
theorem dX2_noughts_11 : decode cX2_noughts 11 = .ok (.putfield 13, 3) := by decide +kernel
theorem dX2_noughts_14 : decode cX2_noughts 14 = .ok (.iconst 0, 1) := by decide +kernel
theorem dX2_noughts_15 : decode cX2_noughts 15 = .ok (.istore_n 2, 1) := by decide +kernel
theorem dX2_noughts_16 : decode cX2_noughts 16 = .ok (.iload_n 2, 1) := by decide +kernel
theorem dX2_noughts_17 : decode cX2_noughts 17 = .ok (.aload_n 0, 1) := by decide +kernel
theorem dX2_noughts_18 : decode cX2_noughts 18 = .ok (.getfield 13, 3) := by decide +kernel
theorem dX2_noughts_21 : decode cX2_noughts 21 = .ok (.if_icmp .ge 16, 3) := by decide +kernel
theorem dX2_noughts_24 : decode cX2_noughts 24 = .ok (.aload_n 0, 1) := by decide +kernel
theorem dX2_noughts_25 : decode cX2_noughts 25 = .ok (.getfield 9, 3) := by decide +kernel
theorem dX2_noughts_28 : decode cX2_noughts 28 = .ok (.iload_n 2, 1) := by decide +kernel
theorem dX2_noughts_29 : decode cX2_noughts 29 = .ok (.lconst 0, 1) := by decide +kernel
theorem dX2_noughts_30 : decode cX2_noughts 30 = .ok (.lastore, 1) := by decide +kernel
theorem dX2_noughts_31 : decode cX2_noughts 31 = .ok (.iinc 2 1, 3) := by decide +kernel
theorem dX2_noughts_34 : decode cX2_noughts 34 = .ok (.goto (-18), 3) := by decide +kernel
theorem dX2_noughts_37 : decode cX2_noughts 37 = .ok (.return_, 1) := by decide +kernel
theorem dX2_put_0 : decode cX2_put 0 = .ok (.iconst 0, 1) := by decide +kernel
theorem dX2_put_1 : decode cX2_put 1 = .ok (.iload_n 1, 1) := by decide +kernel
theorem dX2_put_2 : decode cX2_put 2 = .ok (.invokestatic 33, 3) := by decide +kernel
theorem dX2_put_5 : decode cX2_put 5 = .ok (.istore 4, 2) := by decide +kernel
theorem dX2_put_7 : decode cX2_put 7 = .ok (.iload 4, 2) := by decide +kernel
theorem dX2_put_9 : decode cX2_put 9 = .ok (.iload_n 1, 1) := by decide +kernel
theorem dX2_put_10 : decode cX2_put 10 = .ok (.iload_n 2, 1) := by decide +kernel
theorem dX2_put_11 : decode cX2_put 11 = .ok (.iadd, 1) := by decide +kernel
theorem dX2_put_12 : decode cX2_put 12 = .ok (.if_icmp .ge 27, 3) := by decide +kernel
theorem dX2_put_15 : decode cX2_put 15 = .ok (.iload 4, 2) := by decide +kernel
theorem dX2_put_17 : decode cX2_put 17 = .ok (.aload_n 0, 1) := by decide +kernel
theorem dX2_put_18 : decode cX2_put 18 = .ok (.getfield 13, 3) := by decide +kernel
theorem dX2_put_21 : decode cX2_put 21 = .ok (.if_icmp .ge 18, 3) := by decide +kernel
theorem dX2_put_24 : decode cX2_put 24 = .ok (.aload_n 0, 1) := by decide +kernel
theorem dX2_put_25 : decode cX2_put 25 = .ok (.getfield 9, 3) := by decide +kernel
theorem dX2_put_28 : decode cX2_put 28 = .ok (.iload 4, 2) := by decide +kernel
theorem dX2_put_30 : decode cX2_put 30 = .ok (.iload_n 3, 1) := by decide +kernel
theorem dX2_put_31 : decode cX2_put 31 = .ok (.i2l, 1) := by decide +kernel
theorem dX2_put_32 : decode cX2_put 32 = .ok (.lastore, 1) := by decide +kernel
theorem dX2_put_33 : decode cX2_put 33 = .ok (.iinc 4 1, 3) := by decide +kernel
theorem dX2_put_36 : decode cX2_put 36 = .ok (.goto (-29), 3) := by decide +kernel
theorem dX2_put_39 : decode cX2_put 39 = .ok (.return_, 1) := by decide +kernel
theorem dX3_init_0 : decode cX3_init 0 = .ok (.aload_n 0, 1) := by decide +kernel
theorem dX3_init_1 : decode cX3_init 1 = .ok (.invokespecial 3, 3) := by decide +kernel
theorem dX3_init_4 : decode cX3_init 4 = .ok (.aload_n 0, 1) := by decide +kernel
theorem dX3_init_5 : decode cX3_init 5 = .ok (.iconst 0, 1) := by decide +kernel
theorem dX3_init_6 : decode cX3_init 6 = .ok (.putfield 9, 3) := by decide +kernel
theorem dX3_init_9 : decode cX3_init 9 = .ok (.aload_n 0, 1) := by decide +kernel
theorem dX3_init_10 : decode cX3_init 10 = .ok (.iconst 0, 1) := by decide +kernel
theorem dX3_init_11 : decode cX3_init 11 = .ok (.putfield 15, 3) := by decide +kernel
theorem dX3_init_14 : decode cX3_init 14 = .ok (.aload_n 0, 1) := by decide +kernel
theorem dX3_init_15 : decode cX3_init 15 = .ok (.iconst 0, 1) := by decide +kernel
theorem dX3_init_16 : decode cX3_init 16 = .ok (.putfield 18, 3) := by decide +kernel
theorem dX3_init_19 : decode cX3_init 19 = .ok (.aload_n 0, 1) := by decide +kernel
theorem dX3_init_20 : decode cX3_init 20 = .ok (.iconst 0, 1) := by decide +kernel
theorem dX3_init_21 : decode cX3_init 21 = .ok (.putfield 21, 3) := by decide +kernel
theorem dX3_init_24 : decode cX3_init 24 = .ok (.aload_n 0, 1) := by decide +kernel
theorem dX3_init_25 : decode cX3_init 25 = .ok (.iconst 0, 1) := by decide +kernel
theorem dX3_init_26 : decode cX3_init 26 = .ok (.putfield 24, 3) := by decide +kernel
theorem dX3_init_29 : decode cX3_init 29 = .ok (.return_, 1) := by decide +kernel
theorem dX3_note_0 : decode cX3_note 0 = .ok (.aload_n 0, 1) := by decide +kernel
theorem dX3_note_1 : decode cX3_note 1 = .ok (.aload_n 1, 1) := by decide +kernel
theorem dX3_note_2 : decode cX3_note 2 = .ok (.getfield 27, 3) := by decide +kernel
theorem dX3_note_5 : decode cX3_note 5 = .ok (.putfield 9, 3) := by decide +kernel
theorem dX3_note_8 : decode cX3_note 8 = .ok (.aload_n 0, 1) := by decide +kernel
theorem dX3_note_9 : decode cX3_note 9 = .ok (.aload_n 1, 1) := by decide +kernel
theorem dX3_note_10 : decode cX3_note 10 = .ok (.getfield 30, 3) := by decide +kernel
theorem dX3_note_13 : decode cX3_note 13 = .ok (.putfield 15, 3) := by decide +kernel
theorem dX3_note_16 : decode cX3_note 16 = .ok (.aload_n 0, 1) := by decide +kernel
theorem dX3_note_17 : decode cX3_note 17 = .ok (.aload_n 1, 1) := by decide +kernel
theorem dX3_note_18 : decode cX3_note 18 = .ok (.getfield 31, 3) := by decide +kernel
theorem dX3_note_21 : decode cX3_note 21 = .ok (.putfield 18, 3) := by decide +kernel
theorem dX3_note_24 : decode cX3_note 24 = .ok (.aload_n 0, 1) := by decide +kernel
theorem dX3_note_25 : decode cX3_note 25 = .ok (.iload_n 2, 1) := by decide +kernel
theorem dX3_note_26 : decode cX3_note 26 = .ok (.putfield 21, 3) := by decide +kernel
theorem dX3_note_29 : decode cX3_note 29 = .ok (.return_, 1) := by decide +kernel
theorem dX3_findBest_0 : decode cX3_findBest 0 = .ok (.aload_n 0, 1) := by decide +kernel
theorem dX3_findBest_1 : decode cX3_findBest 1 = .ok (.iconst 0, 1) := by decide +kernel
theorem dX3_findBest_2 : decode cX3_findBest 2 = .ok (.putfield 24, 3) := by decide +kernel
theorem dX3_findBest_5 : decode cX3_findBest 5 = .ok (.aload_n 1, 1) := by decide +kernel
theorem dX3_findBest_6 : decode cX3_findBest 6 = .ok (.iconst 0, 1) := by decide +kernel
theorem dX3_findBest_7 : decode cX3_findBest 7 = .ok (.bipush 9, 2) := by decide +kernel
theorem dX3_findBest_9 : decode cX3_findBest 9 = .ok (.bipush 9, 2) := by decide +kernel
theorem dX3_findBest_11 : decode cX3_findBest 11 = .ok (.invokevirtual 32, 3) := by decide +kernel
theorem dX3_findBest_14 : decode cX3_findBest 14 = .ok (.iconst 1, 1) := by decide +kernel
theorem dX3_findBest_15 : decode cX3_findBest 15 = .ok (.istore 5, 2) := by decide +kernel
theorem dX3_findBest_17 : decode cX3_findBest 17 = .ok (.iconst 0, 1) := by decide +kernel
theorem dX3_findBest_18 : decode cX3_findBest 18 = .ok (.istore 6, 2) := by decide +kernel
theorem dX3_findBest_20 : decode cX3_findBest 20 = .ok (.iload 5, 2) := by decide +kernel
theorem dX3_findBest_22 : decode cX3_findBest 22 = .ok (.ifCond .eq 71, 3) := by decide +kernel
theorem dX3_findBest_25 : decode cX3_findBest 25 = .ok (.iload 6, 2) := by decide +kernel
theorem dX3_findBest_27 : decode cX3_findBest 27 = .ok (.sipush 10240, 3) := by decide +kernel
theorem dX3_findBest_30 : decode cX3_findBest 30 = .ok (.if_icmp .ge 63, 3) := by decide +kernel
theorem dX3_findBest_33 : decode cX3_findBest 33 = .ok (.aload_n 2, 1) := by decide +kernel
theorem dX3_findBest_34 : decode cX3_findBest 34 = .ok (.aload_n 1, 1) := by decide +kernel
theorem dX3_findBest_35 : decode cX3_findBest 35 = .ok (.invokevirtual 36, 3) := by decide +kernel
theorem dX3_findBest_38 : decode cX3_findBest 38 = .ok (.aload_n 2, 1) := by decide +kernel
theorem dX3_findBest_39 : decode cX3_findBest 39 = .ok (.aload_n 1, 1) := by decide +kernel
theorem dX3_findBest_40 : decode cX3_findBest 40 = .ok (.invokevirtual 42, 3) := by decide +kernel
theorem dX3_findBest_43 : decode cX3_findBest 43 = .ok (.istore 7, 2) := by decide +kernel
theorem dX3_findBest_45 : decode cX3_findBest 45 = .ok (.aload_n 0, 1) := by decide +kernel
theorem dX3_findBest_46 : decode cX3_findBest 46 = .ok (.getfield 24, 3) := by decide +kernel
theorem dX3_findBest_49 : decode cX3_findBest 49 = .ok (.ifCond .eq 12, 3) := by decide +kernel
theorem dX3_findBest_52 : decode cX3_findBest 52 = .ok (.iload 7, 2) := by decide +kernel
theorem dX3_findBest_54 : decode cX3_findBest 54 = .ok (.aload_n 0, 1) := by decide +kernel
theorem dX3_findBest_55 : decode cX3_findBest 55 = .ok (.getfield 21, 3) := by decide +kernel
theorem dX3_findBest_58 : decode cX3_findBest 58 = .ok (.if_icmp .ge 10, 3) := by decide +kernel
theorem dX3_findBest_61 : decode cX3_findBest 61 = .ok (.aload_n 0, 1) := by decide +kernel
theorem dX3_findBest_62 : decode cX3_findBest 62 = .ok (.aload_n 1, 1) := by decide +kernel
theorem dX3_findBest_63 : decode cX3_findBest 63 = .ok (.iload 7, 2) := by decide +kernel
theorem dX3_findBest_65 : decode cX3_findBest 65 = .ok (.invokevirtual 46, 3) := by decide +kernel
theorem dX3_findBest_68 : decode cX3_findBest 68 = .ok (.aload_n 0, 1) := by decide +kernel
theorem dX3_findBest_69 : decode cX3_findBest 69 = .ok (.dup, 1) := by decide +kernel
theorem dX3_findBest_70 : decode cX3_findBest 70 = .ok (.getfield 24, 3) := by decide +kernel
theorem dX3_findBest_73 : decode cX3_findBest 73 = .ok (.iconst 1, 1) := by decide +kernel
theorem dX3_findBest_74 : decode cX3_findBest 74 = .ok (.iadd, 1) := by decide +kernel
theorem dX3_findBest_75 : decode cX3_findBest 75 = .ok (.putfield 24, 3) := by decide +kernel
theorem dX3_findBest_78 : decode cX3_findBest 78 = .ok (.aload_n 1, 1) := by decide +kernel
theorem dX3_findBest_79 : decode cX3_findBest 79 = .ok (.iload_n 3, 1) := by decide +kernel
theorem dX3_findBest_80 : decode cX3_findBest 80 = .ok (.iload 4, 2) := by decide +kernel
theorem dX3_findBest_82 : decode cX3_findBest 82 = .ok (.invokevirtual 50, 3) := by decide +kernel
theorem dX3_findBest_85 : decode cX3_findBest 85 = .ok (.istore 5, 2) := by decide +kernel
theorem dX3_findBest_87 : decode cX3_findBest 87 = .ok (.iinc 6 1, 3) := by decide +kernel
theorem dX3_findBest_90 : decode cX3_findBest 90 = .ok (.goto (-70), 3) := by decide +kernel
theorem dX3_findBest_93 : decode cX3_findBest 93 = .ok (.return_, 1) := by decide +kernel
theorem dX3_findNear_0 : decode cX3_findNear 0 = .ok (.aload_n 0, 1) := by decide +kernel
theorem dX3_findNear_1 : decode cX3_findNear 1 = .ok (.iconst 0, 1) := by decide +kernel
theorem dX3_findNear_2 : decode cX3_findNear 2 = .ok (.putfield 24, 3) := by decide +kernel
theorem dX3_findNear_5 : decode cX3_findNear 5 = .ok (.aload_n 1, 1) := by decide +kernel
theorem dX3_findNear_6 : decode cX3_findNear 6 = .ok (.iconst 0, 1) := by decide +kernel
theorem dX3_findNear_7 : decode cX3_findNear 7 = .ok (.bipush 9, 2) := by decide +kernel
theorem dX3_findNear_9 : decode cX3_findNear 9 = .ok (.bipush 9, 2) := by decide +kernel
theorem dX3_findNear_11 : decode cX3_findNear 11 = .ok (.invokevirtual 32, 3) := by decide +kernel
theorem dX3_findNear_14 : decode cX3_findNear 14 = .ok (.iconst 1, 1) := by decide +kernel
theorem dX3_findNear_15 : decode cX3_findNear 15 = .ok (.istore 6, 2) := by decide +kernel
theorem dX3_findNear_17 : decode cX3_findNear 17 = .ok (.iconst 0, 1) := by decide +kernel
theorem dX3_findNear_18 : decode cX3_findNear 18 = .ok (.istore 7, 2) := by decide +kernel
theorem dX3_findNear_20 : decode cX3_findNear 20 = .ok (.iload 6, 2) := by decide +kernel
theorem dX3_findNear_22 : decode cX3_findNear 22 = .ok (.ifCond .eq 64, 3) := by decide +kernel
theorem dX3_findNear_25 : decode cX3_findNear 25 = .ok (.iload 7, 2) := by decide +kernel
theorem dX3_findNear_27 : decode cX3_findNear 27 = .ok (.sipush 10240, 3) := by decide +kernel
theorem dX3_findNear_30 : decode cX3_findNear 30 = .ok (.if_icmp .ge 56, 3) := by decide +kernel
theorem dX3_findNear_33 : decode cX3_findNear 33 = .ok (.aload_n 2, 1) := by decide +kernel
theorem dX3_findNear_34 : decode cX3_findNear 34 = .ok (.aload_n 1, 1) := by decide +kernel
theorem dX3_findNear_35 : decode cX3_findNear 35 = .ok (.invokevirtual 36, 3) := by decide +kernel
theorem dX3_findNear_38 : decode cX3_findNear 38 = .ok (.aload_n 2, 1) := by decide +kernel
theorem dX3_findNear_39 : decode cX3_findNear 39 = .ok (.aload_n 1, 1) := by decide +kernel
theorem dX3_findNear_40 : decode cX3_findNear 40 = .ok (.invokevirtual 54, 3) := by decide +kernel
theorem dX3_findNear_43 : decode cX3_findNear 43 = .ok (.iload 5, 2) := by decide +kernel
theorem dX3_findNear_45 : decode cX3_findNear 45 = .ok (.if_icmp .gt 26, 3) := by decide +kernel
theorem dX3_findNear_48 : decode cX3_findNear 48 = .ok (.aload_n 0, 1) := by decide +kernel
theorem dX3_findNear_49 : decode cX3_findNear 49 = .ok (.getfield 24, 3) := by decide +kernel
theorem dX3_findNear_52 : decode cX3_findNear 52 = .ok (.ifCond .ne 9, 3) := by decide +kernel
theorem dX3_findNear_55 : decode cX3_findNear 55 = .ok (.aload_n 0, 1) := by decide +kernel
theorem dX3_findNear_56 : decode cX3_findNear 56 = .ok (.aload_n 1, 1) := by decide +kernel
theorem dX3_findNear_57 : decode cX3_findNear 57 = .ok (.iconst 0, 1) := by decide +kernel
theorem dX3_findNear_58 : decode cX3_findNear 58 = .ok (.invokevirtual 46, 3) := by decide +kernel
theorem dX3_findNear_61 : decode cX3_findNear 61 = .ok (.aload_n 0, 1) := by decide +kernel
theorem dX3_findNear_62 : decode cX3_findNear 62 = .ok (.dup, 1) := by decide +kernel
theorem dX3_findNear_63 : decode cX3_findNear 63 = .ok (.getfield 24, 3) := by decide +kernel
theorem dX3_findNear_66 : decode cX3_findNear 66 = .ok (.iconst 1, 1) := by decide +kernel
theorem dX3_findNear_67 : decode cX3_findNear 67 = .ok (.iadd, 1) := by decide +kernel
theorem dX3_findNear_68 : decode cX3_findNear 68 = .ok (.putfield 24, 3) := by decide +kernel
theorem dX3_findNear_71 : decode cX3_findNear 71 = .ok (.aload_n 1, 1) := by decide +kernel
theorem dX3_findNear_72 : decode cX3_findNear 72 = .ok (.iload_n 3, 1) := by decide +kernel
theorem dX3_findNear_73 : decode cX3_findNear 73 = .ok (.iload 4, 2) := by decide +kernel
theorem dX3_findNear_75 : decode cX3_findNear 75 = .ok (.invokevirtual 50, 3) := by decide +kernel
theorem dX3_findNear_78 : decode cX3_findNear 78 = .ok (.istore 6, 2) := by decide +kernel
theorem dX3_findNear_80 : decode cX3_findNear 80 = .ok (.iinc 7 1, 3) := by decide +kernel
theorem dX3_findNear_83 : decode cX3_findNear 83 = .ok (.goto (-63), 3) := by decide +kernel
theorem dX3_findNear_86 : decode cX3_findNear 86 = .ok (.return_, 1) := by decide +kernel
theorem dX3_climb_0 : decode cX3_climb 0 = .ok (.aload_n 2, 1) := by decide +kernel
theorem dX3_climb_1 : decode cX3_climb 1 = .ok (.aload_n 1, 1) := by decide +kernel
theorem dX3_climb_2 : decode cX3_climb 2 = .ok (.invokevirtual 36, 3) := by decide +kernel
theorem dX3_climb_5 : decode cX3_climb 5 = .ok (.aload_n 0, 1) := by decide +kernel
theorem dX3_climb_6 : decode cX3_climb 6 = .ok (.aload_n 1, 1) := by decide +kernel
theorem dX3_climb_7 : decode cX3_climb 7 = .ok (.aload_n 2, 1) := by decide +kernel
theorem dX3_climb_8 : decode cX3_climb 8 = .ok (.aload_n 1, 1) := by decide +kernel
theorem dX3_climb_9 : decode cX3_climb 9 = .ok (.invokevirtual 42, 3) := by decide +kernel
theorem dX3_climb_12 : decode cX3_climb 12 = .ok (.invokevirtual 46, 3) := by decide +kernel
theorem dX3_climb_15 : decode cX3_climb 15 = .ok (.iconst 0, 1) := by decide +kernel
theorem dX3_climb_16 : decode cX3_climb 16 = .ok (.istore_n 3, 1) := by decide +kernel
theorem dX3_climb_17 : decode cX3_climb 17 = .ok (.iload_n 3, 1) := by decide +kernel
theorem dX3_climb_18 : decode cX3_climb 18 = .ok (.sipush 10240, 3) := by decide +kernel
theorem dX3_climb_21 : decode cX3_climb 21 = .ok (.if_icmp .ge 20, 3) := by decide +kernel
theorem dX3_climb_24 : decode cX3_climb 24 = .ok (.aload_n 0, 1) := by decide +kernel
theorem dX3_climb_25 : decode cX3_climb 25 = .ok (.aload_n 1, 1) := by decide +kernel
theorem dX3_climb_26 : decode cX3_climb 26 = .ok (.aload_n 2, 1) := by decide +kernel
theorem dX3_climb_27 : decode cX3_climb 27 = .ok (.invokevirtual 57, 3) := by decide +kernel
theorem dX3_climb_30 : decode cX3_climb 30 = .ok (.ifCond .ne 5, 3) := by decide +kernel
theorem dX3_climb_33 : decode cX3_climb 33 = .ok (.iload_n 3, 1) := by decide +kernel
theorem dX3_climb_34 : decode cX3_climb 34 = .ok (.ireturn, 1) := by decide +kernel
theorem dX3_climb_35 : decode cX3_climb 35 = .ok (.iinc 3 1, 3) := by decide +kernel
theorem dX3_climb_38 : decode cX3_climb 38 = .ok (.goto (-21), 3) := by decide +kernel
theorem dX3_climb_41 : decode cX3_climb 41 = .ok (.sipush 10240, 3) := by decide +kernel
theorem dX3_climb_44 : decode cX3_climb 44 = .ok (.ireturn, 1) := by decide +kernel
theorem dX3_findBetter_0 : decode cX3_findBetter 0 = .ok (.aload_n 0, 1) := by decide +kernel
theorem dX3_findBetter_1 : decode cX3_findBetter 1 = .ok (.getfield 9, 3) := by decide +kernel
theorem dX3_findBetter_4 : decode cX3_findBetter 4 = .ok (.istore_n 3, 1) := by decide +kernel
theorem dX3_findBetter_5 : decode cX3_findBetter 5 = .ok (.aload_n 0, 1) := by decide +kernel
theorem dX3_findBetter_6 : decode cX3_findBetter 6 = .ok (.getfield 15, 3) := by decide +kernel
theorem dX3_findBetter_9 : decode cX3_findBetter 9 = .ok (.istore 4, 2) := by decide +kernel
theorem dX3_findBetter_11 : decode cX3_findBetter 11 = .ok (.aload_n 0, 1) := by decide +kernel
theorem dX3_findBetter_12 : decode cX3_findBetter 12 = .ok (.getfield 18, 3) := by decide +kernel
theorem dX3_findBetter_15 : decode cX3_findBetter 15 = .ok (.istore 5, 2) := by decide +kernel
theorem dX3_findBetter_17 : decode cX3_findBetter 17 = .ok (.iconst 0, 1) := by decide +kernel
theorem dX3_findBetter_18 : decode cX3_findBetter 18 = .ok (.istore 6, 2) := by decide +kernel
theorem dX3_findBetter_20 : decode cX3_findBetter 20 = .ok (.iconst 0, 1) := by decide +kernel
theorem dX3_findBetter_21 : decode cX3_findBetter 21 = .ok (.istore 7, 2) := by decide +kernel
theorem dX3_findBetter_23 : decode cX3_findBetter 23 = .ok (.iload 7, 2) := by decide +kernel
theorem dX3_findBetter_25 : decode cX3_findBetter 25 = .ok (.bipush 6, 2) := by decide +kernel
theorem dX3_findBetter_27 : decode cX3_findBetter 27 = .ok (.if_icmp .ge 98, 3) := by decide +kernel
theorem dX3_findBetter_30 : decode cX3_findBetter 30 = .ok (.iload_n 3, 1) := by decide +kernel
theorem dX3_findBetter_31 : decode cX3_findBetter 31 = .ok (.getstatic 61, 3) := by decide +kernel
theorem dX3_findBetter_34 : decode cX3_findBetter 34 = .ok (.iload 7, 2) := by decide +kernel
theorem dX3_findBetter_36 : decode cX3_findBetter 36 = .ok (.iaload, 1) := by decide +kernel
theorem dX3_findBetter_37 : decode cX3_findBetter 37 = .ok (.iadd, 1) := by decide +kernel
theorem dX3_findBetter_38 : decode cX3_findBetter 38 = .ok (.istore 8, 2) := by decide +kernel
theorem dX3_findBetter_40 : decode cX3_findBetter 40 = .ok (.iload 4, 2) := by decide +kernel
theorem dX3_findBetter_42 : decode cX3_findBetter 42 = .ok (.getstatic 65, 3) := by decide +kernel
theorem dX3_findBetter_45 : decode cX3_findBetter 45 = .ok (.iload 7, 2) := by decide +kernel
theorem dX3_findBetter_47 : decode cX3_findBetter 47 = .ok (.iaload, 1) := by decide +kernel
theorem dX3_findBetter_48 : decode cX3_findBetter 48 = .ok (.iadd, 1) := by decide +kernel
theorem dX3_findBetter_49 : decode cX3_findBetter 49 = .ok (.istore 9, 2) := by decide +kernel
theorem dX3_findBetter_51 : decode cX3_findBetter 51 = .ok (.iload 5, 2) := by decide +kernel
theorem dX3_findBetter_53 : decode cX3_findBetter 53 = .ok (.getstatic 68, 3) := by decide +kernel
theorem dX3_findBetter_56 : decode cX3_findBetter 56 = .ok (.iload 7, 2) := by decide +kernel
theorem dX3_findBetter_58 : decode cX3_findBetter 58 = .ok (.iaload, 1) := by decide +kernel
theorem dX3_findBetter_59 : decode cX3_findBetter 59 = .ok (.iadd, 1) := by decide +kernel
theorem dX3_findBetter_60 : decode cX3_findBetter 60 = .ok (.istore 10, 2) := by decide +kernel
theorem dX3_findBetter_62 : decode cX3_findBetter 62 = .ok (.aload_n 1, 1) := by decide +kernel
theorem dX3_findBetter_63 : decode cX3_findBetter 63 = .ok (.iload 8, 2) := by decide +kernel
theorem dX3_findBetter_65 : decode cX3_findBetter 65 = .ok (.iload 9, 2) := by decide +kernel
theorem dX3_findBetter_67 : decode cX3_findBetter 67 = .ok (.iload 10, 2) := by decide +kernel
theorem dX3_findBetter_69 : decode cX3_findBetter 69 = .ok (.invokevirtual 71, 3) := by decide +kernel
theorem dX3_findBetter_72 : decode cX3_findBetter 72 = .ok (.ifCond .ne 6, 3) := by decide +kernel
theorem dX3_findBetter_75 : decode cX3_findBetter 75 = .ok (.goto 44, 3) := by decide +kernel
theorem dX3_findBetter_78 : decode cX3_findBetter 78 = .ok (.aload_n 1, 1) := by decide +kernel
theorem dX3_findBetter_79 : decode cX3_findBetter 79 = .ok (.iload 8, 2) := by decide +kernel
theorem dX3_findBetter_81 : decode cX3_findBetter 81 = .ok (.iload 9, 2) := by decide +kernel
theorem dX3_findBetter_83 : decode cX3_findBetter 83 = .ok (.iload 10, 2) := by decide +kernel
theorem dX3_findBetter_85 : decode cX3_findBetter 85 = .ok (.invokevirtual 32, 3) := by decide +kernel
theorem dX3_findBetter_88 : decode cX3_findBetter 88 = .ok (.aload_n 2, 1) := by decide +kernel
theorem dX3_findBetter_89 : decode cX3_findBetter 89 = .ok (.aload_n 1, 1) := by decide +kernel
theorem dX3_findBetter_90 : decode cX3_findBetter 90 = .ok (.invokevirtual 36, 3) := by decide +kernel
theorem dX3_findBetter_93 : decode cX3_findBetter 93 = .ok (.aload_n 2, 1) := by decide +kernel
theorem dX3_findBetter_94 : decode cX3_findBetter 94 = .ok (.aload_n 1, 1) := by decide +kernel
theorem dX3_findBetter_95 : decode cX3_findBetter 95 = .ok (.invokevirtual 42, 3) := by decide +kernel
theorem dX3_findBetter_98 : decode cX3_findBetter 98 = .ok (.istore 11, 2) := by decide +kernel
theorem dX3_findBetter_100 : decode cX3_findBetter 100 = .ok (.iload 11, 2) := by decide +kernel
theorem dX3_findBetter_102 : decode cX3_findBetter 102 = .ok (.aload_n 0, 1) := by decide +kernel
theorem dX3_findBetter_103 : decode cX3_findBetter 103 = .ok (.getfield 21, 3) := by decide +kernel
theorem dX3_findBetter_106 : decode cX3_findBetter 106 = .ok (.if_icmp .ge 13, 3) := by decide +kernel
theorem dX3_findBetter_109 : decode cX3_findBetter 109 = .ok (.aload_n 0, 1) := by decide +kernel
theorem dX3_findBetter_110 : decode cX3_findBetter 110 = .ok (.aload_n 1, 1) := by decide +kernel
theorem dX3_findBetter_111 : decode cX3_findBetter 111 = .ok (.iload 11, 2) := by decide +kernel
theorem dX3_findBetter_113 : decode cX3_findBetter 113 = .ok (.invokevirtual 46, 3) := by decide +kernel
theorem dX3_findBetter_116 : decode cX3_findBetter 116 = .ok (.iconst 1, 1) := by decide +kernel
theorem dX3_findBetter_117 : decode cX3_findBetter 117 = .ok (.istore 6, 2) := by decide +kernel
theorem dX3_findBetter_119 : decode cX3_findBetter 119 = .ok (.iinc 7 1, 3) := by decide +kernel
theorem dX3_findBetter_122 : decode cX3_findBetter 122 = .ok (.goto (-99), 3) := by decide +kernel
theorem dX3_findBetter_125 : decode cX3_findBetter 125 = .ok (.iload 6, 2) := by decide +kernel
theorem dX3_findBetter_127 : decode cX3_findBetter 127 = .ok (.ireturn, 1) := by decide +kernel
theorem dX4_init_0 : decode cX4_init 0 = .ok (.aload_n 0, 1) := by decide +kernel
theorem dX4_init_1 : decode cX4_init 1 = .ok (.invokespecial 3, 3) := by decide +kernel
theorem dX4_init_4 : decode cX4_init 4 = .ok (.aload_n 0, 1) := by decide +kernel
theorem dX4_init_5 : decode cX4_init 5 = .ok (.iconst 0, 1) := by decide +kernel
theorem dX4_init_6 : decode cX4_init 6 = .ok (.putfield 9, 3) := by decide +kernel
theorem dX4_init_9 : decode cX4_init 9 = .ok (.aload_n 0, 1) := by decide +kernel
theorem dX4_init_10 : decode cX4_init 10 = .ok (.iconst 3, 1) := by decide +kernel
theorem dX4_init_11 : decode cX4_init 11 = .ok (.newarray .int, 2) := by decide +kernel
theorem dX4_init_13 : decode cX4_init 13 = .ok (.putfield 15, 3) := by decide +kernel
theorem dX4_init_16 : decode cX4_init 16 = .ok (.aload_n 0, 1) := by decide +kernel
theorem dX4_init_17 : decode cX4_init 17 = .ok (.iconst 3, 1) := by decide +kernel
theorem dX4_init_18 : decode cX4_init 18 = .ok (.newarray .int, 2) := by decide +kernel
theorem dX4_init_20 : decode cX4_init 20 = .ok (.putfield 19, 3) := by decide +kernel
theorem dX4_init_23 : decode cX4_init 23 = .ok (.aload_n 0, 1) := by decide +kernel
theorem dX4_init_24 : decode cX4_init 24 = .ok (.iconst 3, 1) := by decide +kernel
theorem dX4_init_25 : decode cX4_init 25 = .ok (.newarray .int, 2) := by decide +kernel
theorem dX4_init_27 : decode cX4_init 27 = .ok (.putfield 22, 3) := by decide +kernel
theorem dX4_init_30 : decode cX4_init 30 = .ok (.aload_n 0, 1) := by decide +kernel
theorem dX4_init_31 : decode cX4_init 31 = .ok (.iconst 3, 1) := by decide +kernel
theorem dX4_init_32 : decode cX4_init 32 = .ok (.bipush 70, 2) := by decide +kernel
theorem dX4_init_34 : decode cX4_init 34 = .ok (.multianewarray 25 2, 4) := by decide +kernel
theorem dX4_init_38 : decode cX4_init 38 = .ok (.putfield 27, 3) := by decide +kernel
theorem dX4_init_41 : decode cX4_init 41 = .ok (.aload_n 0, 1) := by decide +kernel
theorem dX4_init_42 : decode cX4_init 42 = .ok (.iconst 3, 1) := by decide +kernel
theorem dX4_init_43 : decode cX4_init 43 = .ok (.sipush 210, 3) := by decide +kernel
theorem dX4_init_46 : decode cX4_init 46 = .ok (.multianewarray 25 2, 4) := by decide +kernel
theorem dX4_init_50 : decode cX4_init 50 = .ok (.putfield 30, 3) := by decide +kernel
theorem dX4_init_53 : decode cX4_init 53 = .ok (.aload_n 0, 1) := by decide +kernel
theorem dX4_init_54 : decode cX4_init 54 = .ok (.iconst 3, 1) := by decide +kernel
theorem dX4_init_55 : decode cX4_init 55 = .ok (.sipush 210, 3) := by decide +kernel
theorem dX4_init_58 : decode cX4_init 58 = .ok (.multianewarray 25 2, 4) := by decide +kernel
theorem dX4_init_62 : decode cX4_init 62 = .ok (.putfield 33, 3) := by decide +kernel
theorem dX4_init_65 : decode cX4_init 65 = .ok (.aload_n 0, 1) := by decide +kernel
theorem dX4_init_66 : decode cX4_init 66 = .ok (.iconst 3, 1) := by decide +kernel
theorem dX4_init_67 : decode cX4_init 67 = .ok (.sipush 210, 3) := by decide +kernel
theorem dX4_init_70 : decode cX4_init 70 = .ok (.multianewarray 25 2, 4) := by decide +kernel
theorem dX4_init_74 : decode cX4_init 74 = .ok (.putfield 36, 3) := by decide +kernel
theorem dX4_init_77 : decode cX4_init 77 = .ok (.aload_n 0, 1) := by decide +kernel
theorem dX4_init_78 : decode cX4_init 78 = .ok (.iconst 3, 1) := by decide +kernel
theorem dX4_init_79 : decode cX4_init 79 = .ok (.sipush 210, 3) := by decide +kernel
theorem dX4_init_82 : decode cX4_init 82 = .ok (.multianewarray 25 2, 4) := by decide +kernel
theorem dX4_init_86 : decode cX4_init 86 = .ok (.putfield 39, 3) := by decide +kernel
theorem dX4_init_89 : decode cX4_init 89 = .ok (.aload_n 0, 1) := by decide +kernel
theorem dX4_init_90 : decode cX4_init 90 = .ok (.iconst 3, 1) := by decide +kernel
theorem dX4_init_91 : decode cX4_init 91 = .ok (.sipush 210, 3) := by decide +kernel
theorem dX4_init_94 : decode cX4_init 94 = .ok (.multianewarray 25 2, 4) := by decide +kernel
theorem dX4_init_98 : decode cX4_init 98 = .ok (.putfield 42, 3) := by decide +kernel
theorem dX4_init_101 : decode cX4_init 101 = .ok (.return_, 1) := by decide +kernel
theorem dX4_set_0 : decode cX4_set 0 = .ok (.iconst 0, 1) := by decide +kernel
theorem dX4_set_1 : decode cX4_set 1 = .ok (.istore_n 2, 1) := by decide +kernel
theorem dX4_set_2 : decode cX4_set 2 = .ok (.iload_n 2, 1) := by decide +kernel
theorem dX4_set_3 : decode cX4_set 3 = .ok (.iconst 3, 1) := by decide +kernel
theorem dX4_set_4 : decode cX4_set 4 = .ok (.if_icmp .ge 30, 3) := by decide +kernel
theorem dX4_set_7 : decode cX4_set 7 = .ok (.aload_n 0, 1) := by decide +kernel
theorem dX4_set_8 : decode cX4_set 8 = .ok (.getfield 15, 3) := by decide +kernel
theorem dX4_set_11 : decode cX4_set 11 = .ok (.iload_n 2, 1) := by decide +kernel
theorem dX4_set_12 : decode cX4_set 12 = .ok (.iconst 0, 1) := by decide +kernel
theorem dX4_set_13 : decode cX4_set 13 = .ok (.iastore, 1) := by decide +kernel
theorem dX4_set_14 : decode cX4_set 14 = .ok (.aload_n 0, 1) := by decide +kernel
theorem dX4_set_15 : decode cX4_set 15 = .ok (.getfield 19, 3) := by decide +kernel
theorem dX4_set_18 : decode cX4_set 18 = .ok (.iload_n 2, 1) := by decide +kernel
theorem dX4_set_19 : decode cX4_set 19 = .ok (.iconst 0, 1) := by decide +kernel
theorem dX4_set_20 : decode cX4_set 20 = .ok (.iastore, 1) := by decide +kernel
theorem dX4_set_21 : decode cX4_set 21 = .ok (.aload_n 0, 1) := by decide +kernel
theorem dX4_set_22 : decode cX4_set 22 = .ok (.getfield 22, 3) := by decide +kernel
theorem dX4_set_25 : decode cX4_set 25 = .ok (.iload_n 2, 1) := by decide +kernel
theorem dX4_set_26 : decode cX4_set 26 = .ok (.iconst 0, 1) := by decide +kernel
theorem dX4_set_27 : decode cX4_set 27 = .ok (.iastore, 1) := by decide +kernel
theorem dX4_set_28 : decode cX4_set 28 = .ok (.iinc 2 1, 3) := by decide +kernel
theorem dX4_set_31 : decode cX4_set 31 = .ok (.goto (-29), 3) := by decide +kernel
theorem dX4_set_34 : decode cX4_set 34 = .ok (.iconst 0, 1) := by decide +kernel
theorem dX4_set_35 : decode cX4_set 35 = .ok (.istore_n 2, 1) := by decide +kernel
theorem dX4_set_36 : decode cX4_set 36 = .ok (.iconst 0, 1) := by decide +kernel
theorem dX4_set_37 : decode cX4_set 37 = .ok (.istore_n 3, 1) := by decide +kernel
theorem dX4_set_38 : decode cX4_set 38 = .ok (.iload_n 3, 1) := by decide +kernel
theorem dX4_set_39 : decode cX4_set 39 = .ok (.sipush 210, 3) := by decide +kernel
theorem dX4_set_42 : decode cX4_set 42 = .ok (.if_icmp .ge 73, 3) := by decide +kernel
theorem dX4_set_45 : decode cX4_set 45 = .ok (.aload_n 0, 1) := by decide +kernel
theorem dX4_set_46 : decode cX4_set 46 = .ok (.aload_n 1, 1) := by decide +kernel
theorem dX4_set_47 : decode cX4_set 47 = .ok (.iconst 0, 1) := by decide +kernel
theorem dX4_set_48 : decode cX4_set 48 = .ok (.invokevirtual 45, 3) := by decide +kernel
theorem dX4_set_51 : decode cX4_set 51 = .ok (.ifCond .ne 21, 3) := by decide +kernel
theorem dX4_set_54 : decode cX4_set 54 = .ok (.aload_n 0, 1) := by decide +kernel
theorem dX4_set_55 : decode cX4_set 55 = .ok (.aload_n 1, 1) := by decide +kernel
theorem dX4_set_56 : decode cX4_set 56 = .ok (.iconst 1, 1) := by decide +kernel
theorem dX4_set_57 : decode cX4_set 57 = .ok (.invokevirtual 45, 3) := by decide +kernel
theorem dX4_set_60 : decode cX4_set 60 = .ok (.ifCond .ne 12, 3) := by decide +kernel
theorem dX4_set_63 : decode cX4_set 63 = .ok (.aload_n 0, 1) := by decide +kernel
theorem dX4_set_64 : decode cX4_set 64 = .ok (.aload_n 1, 1) := by decide +kernel
theorem dX4_set_65 : decode cX4_set 65 = .ok (.iconst 2, 1) := by decide +kernel
theorem dX4_set_66 : decode cX4_set 66 = .ok (.invokevirtual 45, 3) := by decide +kernel
theorem dX4_set_69 : decode cX4_set 69 = .ok (.ifCond .eq 46, 3) := by decide +kernel
theorem dX4_set_72 : decode cX4_set 72 = .ok (.aload_n 0, 1) := by decide +kernel
theorem dX4_set_73 : decode cX4_set 73 = .ok (.aload_n 1, 1) := by decide +kernel
theorem dX4_set_74 : decode cX4_set 74 = .ok (.iload_n 3, 1) := by decide +kernel
theorem dX4_set_75 : decode cX4_set 75 = .ok (.iload_n 2, 1) := by decide +kernel
theorem dX4_set_76 : decode cX4_set 76 = .ok (.aload_n 1, 1) := by decide +kernel
theorem dX4_set_77 : decode cX4_set 77 = .ok (.getfield 49, 3) := by decide +kernel
theorem dX4_set_80 : decode cX4_set 80 = .ok (.if_icmp .ge 7, 3) := by decide +kernel
theorem dX4_set_83 : decode cX4_set 83 = .ok (.iconst 1, 1) := by decide +kernel
theorem dX4_set_84 : decode cX4_set 84 = .ok (.goto 4, 3) := by decide +kernel
theorem dX4_set_87 : decode cX4_set 87 = .ok (.iconst 0, 1) := by decide +kernel
theorem dX4_set_88 : decode cX4_set 88 = .ok (.invokevirtual 54, 3) := by decide +kernel
theorem dX4_set_91 : decode cX4_set 91 = .ok (.iload_n 2, 1) := by decide +kernel
theorem dX4_set_92 : decode cX4_set 92 = .ok (.iconst 1, 1) := by decide +kernel
theorem dX4_set_93 : decode cX4_set 93 = .ok (.iadd, 1) := by decide +kernel
theorem dX4_set_94 : decode cX4_set 94 = .ok (.aload_n 1, 1) := by decide +kernel
theorem dX4_set_95 : decode cX4_set 95 = .ok (.getfield 58, 3) := by decide +kernel
theorem dX4_set_98 : decode cX4_set 98 = .ok (.if_icmp .ge 9, 3) := by decide +kernel
theorem dX4_set_101 : decode cX4_set 101 = .ok (.iload_n 2, 1) := by decide +kernel
theorem dX4_set_102 : decode cX4_set 102 = .ok (.iconst 1, 1) := by decide +kernel
theorem dX4_set_103 : decode cX4_set 103 = .ok (.iadd, 1) := by decide +kernel
theorem dX4_set_104 : decode cX4_set 104 = .ok (.goto 4, 3) := by decide +kernel
theorem dX4_set_107 : decode cX4_set 107 = .ok (.iconst 0, 1) := by decide +kernel
theorem dX4_set_108 : decode cX4_set 108 = .ok (.istore_n 2, 1) := by decide +kernel
theorem dX4_set_109 : decode cX4_set 109 = .ok (.iinc 3 1, 3) := by decide +kernel
theorem dX4_set_112 : decode cX4_set 112 = .ok (.goto (-74), 3) := by decide +kernel
theorem dX4_set_115 : decode cX4_set 115 = .ok (.aload_n 0, 1) := by decide +kernel
theorem dX4_set_116 : decode cX4_set 116 = .ok (.iload_n 3, 1) := by decide +kernel
theorem dX4_set_117 : decode cX4_set 117 = .ok (.putfield 9, 3) := by decide +kernel
theorem dX4_set_120 : decode cX4_set 120 = .ok (.return_, 1) := by decide +kernel
theorem dX4_isLeft_0 : decode cX4_isLeft 0 = .ok (.aload_n 0, 1) := by decide +kernel
theorem dX4_isLeft_1 : decode cX4_isLeft 1 = .ok (.getfield 15, 3) := by decide +kernel
theorem dX4_isLeft_4 : decode cX4_isLeft 4 = .ok (.iload_n 2, 1) := by decide +kernel
theorem dX4_isLeft_5 : decode cX4_isLeft 5 = .ok (.iaload, 1) := by decide +kernel
theorem dX4_isLeft_6 : decode cX4_isLeft 6 = .ok (.aload_n 1, 1) := by decide +kernel
theorem dX4_isLeft_7 : decode cX4_isLeft 7 = .ok (.getfield 61, 3) := by decide +kernel
theorem dX4_isLeft_10 : decode cX4_isLeft 10 = .ok (.iload_n 2, 1) := by decide +kernel
theorem dX4_isLeft_11 : decode cX4_isLeft 11 = .ok (.iaload, 1) := by decide +kernel
theorem dX4_isLeft_12 : decode cX4_isLeft 12 = .ok (.if_icmp .ge 7, 3) := by decide +kernel
theorem dX4_isLeft_15 : decode cX4_isLeft 15 = .ok (.iconst 1, 1) := by decide +kernel
theorem dX4_isLeft_16 : decode cX4_isLeft 16 = .ok (.goto 4, 3) := by decide +kernel
theorem dX4_isLeft_19 : decode cX4_isLeft 19 = .ok (.iconst 0, 1) := by decide +kernel
theorem dX4_isLeft_20 : decode cX4_isLeft 20 = .ok (.ireturn, 1) := by decide +kernel
theorem dX4_setLine_0 : decode cX4_setLine 0 = .ok (.aload_n 0, 1) := by decide +kernel
theorem dX4_setLine_1 : decode cX4_setLine 1 = .ok (.aload_n 1, 1) := by decide +kernel
theorem dX4_setLine_2 : decode cX4_setLine 2 = .ok (.iconst 1, 1) := by decide +kernel
theorem dX4_setLine_3 : decode cX4_setLine 3 = .ok (.invokevirtual 45, 3) := by decide +kernel
theorem dX4_setLine_6 : decode cX4_setLine 6 = .ok (.istore 4, 2) := by decide +kernel
theorem dX4_setLine_8 : decode cX4_setLine 8 = .ok (.aload_n 0, 1) := by decide +kernel
theorem dX4_setLine_9 : decode cX4_setLine 9 = .ok (.aload_n 1, 1) := by decide +kernel
theorem dX4_setLine_10 : decode cX4_setLine 10 = .ok (.iconst 2, 1) := by decide +kernel
theorem dX4_setLine_11 : decode cX4_setLine 11 = .ok (.invokevirtual 45, 3) := by decide +kernel
theorem dX4_setLine_14 : decode cX4_setLine 14 = .ok (.istore 5, 2) := by decide +kernel
theorem dX4_setLine_16 : decode cX4_setLine 16 = .ok (.aload_n 0, 1) := by decide +kernel
theorem dX4_setLine_17 : decode cX4_setLine 17 = .ok (.aload_n 1, 1) := by decide +kernel
theorem dX4_setLine_18 : decode cX4_setLine 18 = .ok (.iconst 0, 1) := by decide +kernel
theorem dX4_setLine_19 : decode cX4_setLine 19 = .ok (.invokevirtual 45, 3) := by decide +kernel
theorem dX4_setLine_22 : decode cX4_setLine 22 = .ok (.ifCond .eq 21, 3) := by decide +kernel
theorem dX4_setLine_25 : decode cX4_setLine 25 = .ok (.iload_n 3, 1) := by decide +kernel
theorem dX4_setLine_26 : decode cX4_setLine 26 = .ok (.ifCond .eq 13, 3) := by decide +kernel
theorem dX4_setLine_29 : decode cX4_setLine 29 = .ok (.iload 4, 2) := by decide +kernel
theorem dX4_setLine_31 : decode cX4_setLine 31 = .ok (.ifCond .ne 12, 3) := by decide +kernel
theorem dX4_setLine_34 : decode cX4_setLine 34 = .ok (.iload 5, 2) := by decide +kernel
theorem dX4_setLine_36 : decode cX4_setLine 36 = .ok (.ifCond .ne 7, 3) := by decide +kernel
theorem dX4_setLine_39 : decode cX4_setLine 39 = .ok (.iconst 1, 1) := by decide +kernel
theorem dX4_setLine_40 : decode cX4_setLine 40 = .ok (.goto 4, 3) := by decide +kernel
theorem dX4_setLine_43 : decode cX4_setLine 43 = .ok (.iconst 0, 1) := by decide +kernel
theorem dX4_setLine_44 : decode cX4_setLine 44 = .ok (.istore 6, 2) := by decide +kernel
theorem dX4_setLine_46 : decode cX4_setLine 46 = .ok (.iconst 0, 1) := by decide +kernel
theorem dX4_setLine_47 : decode cX4_setLine 47 = .ok (.istore 7, 2) := by decide +kernel
theorem dX4_setLine_49 : decode cX4_setLine 49 = .ok (.iload 4, 2) := by decide +kernel
theorem dX4_setLine_51 : decode cX4_setLine 51 = .ok (.ifCond .eq 40, 3) := by decide +kernel
theorem dX4_setLine_54 : decode cX4_setLine 54 = .ok (.iload 6, 2) := by decide +kernel
theorem dX4_setLine_56 : decode cX4_setLine 56 = .ok (.ifCond .eq 10, 3) := by decide +kernel
theorem dX4_setLine_59 : decode cX4_setLine 59 = .ok (.aload_n 1, 1) := by decide +kernel
theorem dX4_setLine_60 : decode cX4_setLine 60 = .ok (.getfield 64, 3) := by decide +kernel
theorem dX4_setLine_63 : decode cX4_setLine 63 = .ok (.goto 26, 3) := by decide +kernel
theorem dX4_setLine_66 : decode cX4_setLine 66 = .ok (.iload 5, 2) := by decide +kernel
theorem dX4_setLine_68 : decode cX4_setLine 68 = .ok (.ifCond .eq 17, 3) := by decide +kernel
theorem dX4_setLine_71 : decode cX4_setLine 71 = .ok (.aload_n 1, 1) := by decide +kernel
theorem dX4_setLine_72 : decode cX4_setLine 72 = .ok (.getfield 67, 3) := by decide +kernel
theorem dX4_setLine_75 : decode cX4_setLine 75 = .ok (.aload_n 1, 1) := by decide +kernel
theorem dX4_setLine_76 : decode cX4_setLine 76 = .ok (.getfield 69, 3) := by decide +kernel
theorem dX4_setLine_79 : decode cX4_setLine 79 = .ok (.isub, 1) := by decide +kernel
theorem dX4_setLine_80 : decode cX4_setLine 80 = .ok (.iconst 2, 1) := by decide +kernel
theorem dX4_setLine_81 : decode cX4_setLine 81 = .ok (.idiv, 1) := by decide +kernel
theorem dX4_setLine_82 : decode cX4_setLine 82 = .ok (.goto 7, 3) := by decide +kernel
theorem dX4_setLine_85 : decode cX4_setLine 85 = .ok (.aload_n 1, 1) := by decide +kernel
theorem dX4_setLine_86 : decode cX4_setLine 86 = .ok (.getfield 67, 3) := by decide +kernel
theorem dX4_setLine_89 : decode cX4_setLine 89 = .ok (.istore 7, 2) := by decide +kernel
theorem dX4_setLine_91 : decode cX4_setLine 91 = .ok (.iload 4, 2) := by decide +kernel
theorem dX4_setLine_93 : decode cX4_setLine 93 = .ok (.ifCond .eq 13, 3) := by decide +kernel
theorem dX4_setLine_96 : decode cX4_setLine 96 = .ok (.iload 7, 2) := by decide +kernel
theorem dX4_setLine_98 : decode cX4_setLine 98 = .ok (.aload_n 1, 1) := by decide +kernel
theorem dX4_setLine_99 : decode cX4_setLine 99 = .ok (.getfield 69, 3) := by decide +kernel
theorem dX4_setLine_102 : decode cX4_setLine 102 = .ok (.iadd, 1) := by decide +kernel
theorem dX4_setLine_103 : decode cX4_setLine 103 = .ok (.goto 4, 3) := by decide +kernel
theorem dX4_setLine_106 : decode cX4_setLine 106 = .ok (.iconst 0, 1) := by decide +kernel
theorem dX4_setLine_107 : decode cX4_setLine 107 = .ok (.istore 8, 2) := by decide +kernel
theorem dX4_setLine_109 : decode cX4_setLine 109 = .ok (.iconst 0, 1) := by decide +kernel
theorem dX4_setLine_110 : decode cX4_setLine 110 = .ok (.istore 9, 2) := by decide +kernel
theorem dX4_setLine_112 : decode cX4_setLine 112 = .ok (.iload 5, 2) := by decide +kernel
theorem dX4_setLine_114 : decode cX4_setLine 114 = .ok (.ifCond .eq 24, 3) := by decide +kernel
theorem dX4_setLine_117 : decode cX4_setLine 117 = .ok (.iload 6, 2) := by decide +kernel
theorem dX4_setLine_119 : decode cX4_setLine 119 = .ok (.ifCond .eq 10, 3) := by decide +kernel
theorem dX4_setLine_122 : decode cX4_setLine 122 = .ok (.aload_n 1, 1) := by decide +kernel
theorem dX4_setLine_123 : decode cX4_setLine 123 = .ok (.getfield 72, 3) := by decide +kernel
theorem dX4_setLine_126 : decode cX4_setLine 126 = .ok (.goto 10, 3) := by decide +kernel
theorem dX4_setLine_129 : decode cX4_setLine 129 = .ok (.aload_n 1, 1) := by decide +kernel
theorem dX4_setLine_130 : decode cX4_setLine 130 = .ok (.getfield 67, 3) := by decide +kernel
theorem dX4_setLine_133 : decode cX4_setLine 133 = .ok (.iload 8, 2) := by decide +kernel
theorem dX4_setLine_135 : decode cX4_setLine 135 = .ok (.isub, 1) := by decide +kernel
theorem dX4_setLine_136 : decode cX4_setLine 136 = .ok (.istore 9, 2) := by decide +kernel
theorem dX4_setLine_138 : decode cX4_setLine 138 = .ok (.iconst 0, 1) := by decide +kernel
theorem dX4_setLine_139 : decode cX4_setLine 139 = .ok (.istore 10, 2) := by decide +kernel
theorem dX4_setLine_141 : decode cX4_setLine 141 = .ok (.iload 6, 2) := by decide +kernel
theorem dX4_setLine_143 : decode cX4_setLine 143 = .ok (.ifCond .eq 29, 3) := by decide +kernel
theorem dX4_setLine_146 : decode cX4_setLine 146 = .ok (.aload_n 1, 1) := by decide +kernel
theorem dX4_setLine_147 : decode cX4_setLine 147 = .ok (.getfield 67, 3) := by decide +kernel
theorem dX4_setLine_150 : decode cX4_setLine 150 = .ok (.iload 8, 2) := by decide +kernel
theorem dX4_setLine_152 : decode cX4_setLine 152 = .ok (.isub, 1) := by decide +kernel
theorem dX4_setLine_153 : decode cX4_setLine 153 = .ok (.iload 5, 2) := by decide +kernel
theorem dX4_setLine_155 : decode cX4_setLine 155 = .ok (.ifCond .eq 13, 3) := by decide +kernel
theorem dX4_setLine_158 : decode cX4_setLine 158 = .ok (.iload 9, 2) := by decide +kernel
theorem dX4_setLine_160 : decode cX4_setLine 160 = .ok (.aload_n 1, 1) := by decide +kernel
theorem dX4_setLine_161 : decode cX4_setLine 161 = .ok (.getfield 69, 3) := by decide +kernel
theorem dX4_setLine_164 : decode cX4_setLine 164 = .ok (.iadd, 1) := by decide +kernel
theorem dX4_setLine_165 : decode cX4_setLine 165 = .ok (.goto 4, 3) := by decide +kernel
theorem dX4_setLine_168 : decode cX4_setLine 168 = .ok (.iconst 0, 1) := by decide +kernel
theorem dX4_setLine_169 : decode cX4_setLine 169 = .ok (.isub, 1) := by decide +kernel
theorem dX4_setLine_170 : decode cX4_setLine 170 = .ok (.istore 10, 2) := by decide +kernel
theorem dX4_setLine_172 : decode cX4_setLine 172 = .ok (.aload_n 0, 1) := by decide +kernel
theorem dX4_setLine_173 : decode cX4_setLine 173 = .ok (.aload_n 1, 1) := by decide +kernel
theorem dX4_setLine_174 : decode cX4_setLine 174 = .ok (.iconst 1, 1) := by decide +kernel
theorem dX4_setLine_175 : decode cX4_setLine 175 = .ok (.iload_n 2, 1) := by decide +kernel
theorem dX4_setLine_176 : decode cX4_setLine 176 = .ok (.iconst 0, 1) := by decide +kernel
theorem dX4_setLine_177 : decode cX4_setLine 177 = .ok (.iload 7, 2) := by decide +kernel
theorem dX4_setLine_179 : decode cX4_setLine 179 = .ok (.invokevirtual 75, 3) := by decide +kernel
theorem dX4_setLine_182 : decode cX4_setLine 182 = .ok (.aload_n 0, 1) := by decide +kernel
theorem dX4_setLine_183 : decode cX4_setLine 183 = .ok (.aload_n 1, 1) := by decide +kernel
theorem dX4_setLine_184 : decode cX4_setLine 184 = .ok (.iconst 0, 1) := by decide +kernel
theorem dX4_setLine_185 : decode cX4_setLine 185 = .ok (.iload_n 2, 1) := by decide +kernel
theorem dX4_setLine_186 : decode cX4_setLine 186 = .ok (.iload 8, 2) := by decide +kernel
theorem dX4_setLine_188 : decode cX4_setLine 188 = .ok (.iload 10, 2) := by decide +kernel
theorem dX4_setLine_190 : decode cX4_setLine 190 = .ok (.invokevirtual 75, 3) := by decide +kernel
theorem dX4_setLine_193 : decode cX4_setLine 193 = .ok (.aload_n 0, 1) := by decide +kernel
theorem dX4_setLine_194 : decode cX4_setLine 194 = .ok (.aload_n 1, 1) := by decide +kernel
theorem dX4_setLine_195 : decode cX4_setLine 195 = .ok (.iconst 2, 1) := by decide +kernel
theorem dX4_setLine_196 : decode cX4_setLine 196 = .ok (.iload_n 2, 1) := by decide +kernel
theorem dX4_setLine_197 : decode cX4_setLine 197 = .ok (.aload_n 1, 1) := by decide +kernel
theorem dX4_setLine_198 : decode cX4_setLine 198 = .ok (.getfield 67, 3) := by decide +kernel
theorem dX4_setLine_201 : decode cX4_setLine 201 = .ok (.iload 9, 2) := by decide +kernel
theorem dX4_setLine_203 : decode cX4_setLine 203 = .ok (.isub, 1) := by decide +kernel
theorem dX4_setLine_204 : decode cX4_setLine 204 = .ok (.iload 9, 2) := by decide +kernel
theorem dX4_setLine_206 : decode cX4_setLine 206 = .ok (.invokevirtual 75, 3) := by decide +kernel
theorem dX4_setLine_209 : decode cX4_setLine 209 = .ok (.return_, 1) := by decide +kernel
theorem dX4_takePart_0 : decode cX4_takePart 0 = .ok (.iload 5, 2) := by decide +kernel
theorem dX4_takePart_2 : decode cX4_takePart 2 = .ok (.ifCond .gt 13, 3) := by decide +kernel
theorem dX4_takePart_5 : decode cX4_takePart 5 = .ok (.aload_n 0, 1) := by decide +kernel
theorem dX4_takePart_6 : decode cX4_takePart 6 = .ok (.getfield 33, 3) := by decide +kernel
theorem dX4_takePart_9 : decode cX4_takePart 9 = .ok (.iload_n 2, 1) := by decide +kernel
theorem dX4_takePart_10 : decode cX4_takePart 10 = .ok (.aaload, 1) := by decide +kernel
theorem dX4_takePart_11 : decode cX4_takePart 11 = .ok (.iload_n 3, 1) := by decide +kernel
theorem dX4_takePart_12 : decode cX4_takePart 12 = .ok (.iconst 0, 1) := by decide +kernel
theorem dX4_takePart_13 : decode cX4_takePart 13 = .ok (.iastore, 1) := by decide +kernel
theorem dX4_takePart_14 : decode cX4_takePart 14 = .ok (.return_, 1) := by decide +kernel
theorem dX4_takePart_15 : decode cX4_takePart 15 = .ok (.aload_n 1, 1) := by decide +kernel
theorem dX4_takePart_16 : decode cX4_takePart 16 = .ok (.getfield 79, 3) := by decide +kernel
theorem dX4_takePart_19 : decode cX4_takePart 19 = .ok (.iload_n 2, 1) := by decide +kernel
theorem dX4_takePart_20 : decode cX4_takePart 20 = .ok (.aaload, 1) := by decide +kernel
theorem dX4_takePart_21 : decode cX4_takePart 21 = .ok (.astore 6, 2) := by decide +kernel
theorem dX4_takePart_23 : decode cX4_takePart 23 = .ok (.aload_n 0, 1) := by decide +kernel
theorem dX4_takePart_24 : decode cX4_takePart 24 = .ok (.getfield 27, 3) := by decide +kernel
theorem dX4_takePart_27 : decode cX4_takePart 27 = .ok (.iload_n 2, 1) := by decide +kernel
theorem dX4_takePart_28 : decode cX4_takePart 28 = .ok (.aaload, 1) := by decide +kernel
theorem dX4_takePart_29 : decode cX4_takePart 29 = .ok (.astore 7, 2) := by decide +kernel
theorem dX4_takePart_31 : decode cX4_takePart 31 = .ok (.aload_n 1, 1) := by decide +kernel
theorem dX4_takePart_32 : decode cX4_takePart 32 = .ok (.getfield 61, 3) := by decide +kernel
theorem dX4_takePart_35 : decode cX4_takePart 35 = .ok (.iload_n 2, 1) := by decide +kernel
theorem dX4_takePart_36 : decode cX4_takePart 36 = .ok (.iaload, 1) := by decide +kernel
theorem dX4_takePart_37 : decode cX4_takePart 37 = .ok (.istore 8, 2) := by decide +kernel
theorem dX4_takePart_39 : decode cX4_takePart 39 = .ok (.aload_n 0, 1) := by decide +kernel
theorem dX4_takePart_40 : decode cX4_takePart 40 = .ok (.getfield 15, 3) := by decide +kernel
theorem dX4_takePart_43 : decode cX4_takePart 43 = .ok (.iload_n 2, 1) := by decide +kernel
theorem dX4_takePart_44 : decode cX4_takePart 44 = .ok (.iaload, 1) := by decide +kernel
theorem dX4_takePart_45 : decode cX4_takePart 45 = .ok (.istore 9, 2) := by decide +kernel
theorem dX4_takePart_47 : decode cX4_takePart 47 = .ok (.iload 5, 2) := by decide +kernel
theorem dX4_takePart_49 : decode cX4_takePart 49 = .ok (.iconst 1, 1) := by decide +kernel
theorem dX4_takePart_50 : decode cX4_takePart 50 = .ok (.iadd, 1) := by decide +kernel
theorem dX4_takePart_51 : decode cX4_takePart 51 = .ok (.istore 10, 2) := by decide +kernel
theorem dX4_takePart_53 : decode cX4_takePart 53 = .ok (.iload 9, 2) := by decide +kernel
theorem dX4_takePart_55 : decode cX4_takePart 55 = .ok (.istore 11, 2) := by decide +kernel
theorem dX4_takePart_57 : decode cX4_takePart 57 = .ok (.iload 11, 2) := by decide +kernel
theorem dX4_takePart_59 : decode cX4_takePart 59 = .ok (.iload 8, 2) := by decide +kernel
theorem dX4_takePart_61 : decode cX4_takePart 61 = .ok (.if_icmp .ge 37, 3) := by decide +kernel
theorem dX4_takePart_64 : decode cX4_takePart 64 = .ok (.aload 6, 2) := by decide +kernel
theorem dX4_takePart_66 : decode cX4_takePart 66 = .ok (.iload 11, 2) := by decide +kernel
theorem dX4_takePart_68 : decode cX4_takePart 68 = .ok (.iaload, 1) := by decide +kernel
theorem dX4_takePart_69 : decode cX4_takePart 69 = .ok (.iload 10, 2) := by decide +kernel
theorem dX4_takePart_71 : decode cX4_takePart 71 = .ok (.if_icmp .ge 27, 3) := by decide +kernel
theorem dX4_takePart_74 : decode cX4_takePart 74 = .ok (.iload 10, 2) := by decide +kernel
theorem dX4_takePart_76 : decode cX4_takePart 76 = .ok (.aload 6, 2) := by decide +kernel
theorem dX4_takePart_78 : decode cX4_takePart 78 = .ok (.iload 11, 2) := by decide +kernel
theorem dX4_takePart_80 : decode cX4_takePart 80 = .ok (.iaload, 1) := by decide +kernel
theorem dX4_takePart_81 : decode cX4_takePart 81 = .ok (.iconst 1, 1) := by decide +kernel
theorem dX4_takePart_82 : decode cX4_takePart 82 = .ok (.iadd, 1) := by decide +kernel
theorem dX4_takePart_83 : decode cX4_takePart 83 = .ok (.isub, 1) := by decide +kernel
theorem dX4_takePart_84 : decode cX4_takePart 84 = .ok (.istore 10, 2) := by decide +kernel
theorem dX4_takePart_86 : decode cX4_takePart 86 = .ok (.aload 7, 2) := by decide +kernel
theorem dX4_takePart_88 : decode cX4_takePart 88 = .ok (.iload 11, 2) := by decide +kernel
theorem dX4_takePart_90 : decode cX4_takePart 90 = .ok (.iload_n 3, 1) := by decide +kernel
theorem dX4_takePart_91 : decode cX4_takePart 91 = .ok (.iastore, 1) := by decide +kernel
theorem dX4_takePart_92 : decode cX4_takePart 92 = .ok (.iinc 11 1, 3) := by decide +kernel
theorem dX4_takePart_95 : decode cX4_takePart 95 = .ok (.goto (-38), 3) := by decide +kernel
theorem dX4_takePart_98 : decode cX4_takePart 98 = .ok (.iload 11, 2) := by decide +kernel
theorem dX4_takePart_100 : decode cX4_takePart 100 = .ok (.iload 8, 2) := by decide +kernel
theorem dX4_takePart_102 : decode cX4_takePart 102 = .ok (.if_icmp .ge 11, 3) := by decide +kernel
theorem dX4_takePart_105 : decode cX4_takePart 105 = .ok (.iload 10, 2) := by decide +kernel
theorem dX4_takePart_107 : decode cX4_takePart 107 = .ok (.iload 10, 2) := by decide +kernel
theorem dX4_takePart_109 : decode cX4_takePart 109 = .ok (.imul, 1) := by decide +kernel
theorem dX4_takePart_110 : decode cX4_takePart 110 = .ok (.goto 4, 3) := by decide +kernel
theorem dX4_takePart_113 : decode cX4_takePart 113 = .ok (.iconst 0, 1) := by decide +kernel
theorem dX4_takePart_114 : decode cX4_takePart 114 = .ok (.istore 12, 2) := by decide +kernel
theorem dX4_takePart_116 : decode cX4_takePart 116 = .ok (.aload_n 0, 1) := by decide +kernel
theorem dX4_takePart_117 : decode cX4_takePart 117 = .ok (.getfield 30, 3) := by decide +kernel
theorem dX4_takePart_120 : decode cX4_takePart 120 = .ok (.iload_n 2, 1) := by decide +kernel
theorem dX4_takePart_121 : decode cX4_takePart 121 = .ok (.aaload, 1) := by decide +kernel
theorem dX4_takePart_122 : decode cX4_takePart 122 = .ok (.iload_n 3, 1) := by decide +kernel
theorem dX4_takePart_123 : decode cX4_takePart 123 = .ok (.iload 9, 2) := by decide +kernel
theorem dX4_takePart_125 : decode cX4_takePart 125 = .ok (.iastore, 1) := by decide +kernel
theorem dX4_takePart_126 : decode cX4_takePart 126 = .ok (.aload_n 0, 1) := by decide +kernel
theorem dX4_takePart_127 : decode cX4_takePart 127 = .ok (.getfield 33, 3) := by decide +kernel
theorem dX4_takePart_130 : decode cX4_takePart 130 = .ok (.iload_n 2, 1) := by decide +kernel
theorem dX4_takePart_131 : decode cX4_takePart 131 = .ok (.aaload, 1) := by decide +kernel
theorem dX4_takePart_132 : decode cX4_takePart 132 = .ok (.iload_n 3, 1) := by decide +kernel
theorem dX4_takePart_133 : decode cX4_takePart 133 = .ok (.iload 11, 2) := by decide +kernel
theorem dX4_takePart_135 : decode cX4_takePart 135 = .ok (.iload 9, 2) := by decide +kernel
theorem dX4_takePart_137 : decode cX4_takePart 137 = .ok (.isub, 1) := by decide +kernel
theorem dX4_takePart_138 : decode cX4_takePart 138 = .ok (.iastore, 1) := by decide +kernel
theorem dX4_takePart_139 : decode cX4_takePart 139 = .ok (.aload_n 0, 1) := by decide +kernel
theorem dX4_takePart_140 : decode cX4_takePart 140 = .ok (.getfield 36, 3) := by decide +kernel
theorem dX4_takePart_143 : decode cX4_takePart 143 = .ok (.iload_n 2, 1) := by decide +kernel
theorem dX4_takePart_144 : decode cX4_takePart 144 = .ok (.aaload, 1) := by decide +kernel
theorem dX4_takePart_145 : decode cX4_takePart 145 = .ok (.iload_n 3, 1) := by decide +kernel
theorem dX4_takePart_146 : decode cX4_takePart 146 = .ok (.iload 5, 2) := by decide +kernel
theorem dX4_takePart_148 : decode cX4_takePart 148 = .ok (.iastore, 1) := by decide +kernel
theorem dX4_takePart_149 : decode cX4_takePart 149 = .ok (.aload_n 0, 1) := by decide +kernel
theorem dX4_takePart_150 : decode cX4_takePart 150 = .ok (.getfield 39, 3) := by decide +kernel
theorem dX4_takePart_153 : decode cX4_takePart 153 = .ok (.iload_n 2, 1) := by decide +kernel
theorem dX4_takePart_154 : decode cX4_takePart 154 = .ok (.aaload, 1) := by decide +kernel
theorem dX4_takePart_155 : decode cX4_takePart 155 = .ok (.iload_n 3, 1) := by decide +kernel
theorem dX4_takePart_156 : decode cX4_takePart 156 = .ok (.iload 4, 2) := by decide +kernel
theorem dX4_takePart_158 : decode cX4_takePart 158 = .ok (.iastore, 1) := by decide +kernel
theorem dX4_takePart_159 : decode cX4_takePart 159 = .ok (.aload_n 0, 1) := by decide +kernel
theorem dX4_takePart_160 : decode cX4_takePart 160 = .ok (.getfield 42, 3) := by decide +kernel
theorem dX4_takePart_163 : decode cX4_takePart 163 = .ok (.iload_n 2, 1) := by decide +kernel
theorem dX4_takePart_164 : decode cX4_takePart 164 = .ok (.aaload, 1) := by decide +kernel
theorem dX4_takePart_165 : decode cX4_takePart 165 = .ok (.iload_n 3, 1) := by decide +kernel
theorem dX4_takePart_166 : decode cX4_takePart 166 = .ok (.iload 12, 2) := by decide +kernel
theorem dX4_takePart_168 : decode cX4_takePart 168 = .ok (.iastore, 1) := by decide +kernel
theorem dX4_takePart_169 : decode cX4_takePart 169 = .ok (.aload_n 0, 1) := by decide +kernel
theorem dX4_takePart_170 : decode cX4_takePart 170 = .ok (.getfield 22, 3) := by decide +kernel
theorem dX4_takePart_173 : decode cX4_takePart 173 = .ok (.iload_n 2, 1) := by decide +kernel
theorem dX4_takePart_174 : decode cX4_takePart 174 = .ok (.dup2, 1) := by decide +kernel
theorem dX4_takePart_175 : decode cX4_takePart 175 = .ok (.iaload, 1) := by decide +kernel
theorem dX4_takePart_176 : decode cX4_takePart 176 = .ok (.iload 12, 2) := by decide +kernel
theorem dX4_takePart_178 : decode cX4_takePart 178 = .ok (.iadd, 1) := by decide +kernel
theorem dX4_takePart_179 : decode cX4_takePart 179 = .ok (.iastore, 1) := by decide +kernel
theorem dX4_takePart_180 : decode cX4_takePart 180 = .ok (.aload_n 0, 1) := by decide +kernel
theorem dX4_takePart_181 : decode cX4_takePart 181 = .ok (.getfield 19, 3) := by decide +kernel
theorem dX4_takePart_184 : decode cX4_takePart 184 = .ok (.iload_n 2, 1) := by decide +kernel
theorem dX4_takePart_185 : decode cX4_takePart 185 = .ok (.dup2, 1) := by decide +kernel
theorem dX4_takePart_186 : decode cX4_takePart 186 = .ok (.iaload, 1) := by decide +kernel
theorem dX4_takePart_187 : decode cX4_takePart 187 = .ok (.iconst 1, 1) := by decide +kernel
theorem dX4_takePart_188 : decode cX4_takePart 188 = .ok (.iadd, 1) := by decide +kernel
theorem dX4_takePart_189 : decode cX4_takePart 189 = .ok (.iastore, 1) := by decide +kernel
theorem dX4_takePart_190 : decode cX4_takePart 190 = .ok (.aload_n 0, 1) := by decide +kernel
theorem dX4_takePart_191 : decode cX4_takePart 191 = .ok (.getfield 15, 3) := by decide +kernel
theorem dX4_takePart_194 : decode cX4_takePart 194 = .ok (.iload_n 2, 1) := by decide +kernel
theorem dX4_takePart_195 : decode cX4_takePart 195 = .ok (.iload 11, 2) := by decide +kernel
theorem dX4_takePart_197 : decode cX4_takePart 197 = .ok (.iastore, 1) := by decide +kernel
theorem dX4_takePart_198 : decode cX4_takePart 198 = .ok (.return_, 1) := by decide +kernel
theorem dX4_pageCount_0 : decode cX4_pageCount 0 = .ok (.aload_n 1, 1) := by decide +kernel
theorem dX4_pageCount_1 : decode cX4_pageCount 1 = .ok (.aload_n 0, 1) := by decide +kernel
theorem dX4_pageCount_2 : decode cX4_pageCount 2 = .ok (.getfield 9, 3) := by decide +kernel
theorem dX4_pageCount_5 : decode cX4_pageCount 5 = .ok (.aload_n 1, 1) := by decide +kernel
theorem dX4_pageCount_6 : decode cX4_pageCount 6 = .ok (.getfield 58, 3) := by decide +kernel
theorem dX4_pageCount_9 : decode cX4_pageCount 9 = .ok (.iadd, 1) := by decide +kernel
theorem dX4_pageCount_10 : decode cX4_pageCount 10 = .ok (.iconst 1, 1) := by decide +kernel
theorem dX4_pageCount_11 : decode cX4_pageCount 11 = .ok (.isub, 1) := by decide +kernel
theorem dX4_pageCount_12 : decode cX4_pageCount 12 = .ok (.invokevirtual 82, 3) := by decide +kernel
theorem dX4_pageCount_15 : decode cX4_pageCount 15 = .ok (.ireturn, 1) := by decide +kernel
theorem dX4_takenAt_0 : decode cX4_takenAt 0 = .ok (.iload_n 2, 1) := by decide +kernel
theorem dX4_takenAt_1 : decode cX4_takenAt 1 = .ok (.aload_n 0, 1) := by decide +kernel
theorem dX4_takenAt_2 : decode cX4_takenAt 2 = .ok (.getfield 9, 3) := by decide +kernel
theorem dX4_takenAt_5 : decode cX4_takenAt 5 = .ok (.if_icmp .ge 14, 3) := by decide +kernel
theorem dX4_takenAt_8 : decode cX4_takenAt 8 = .ok (.aload_n 0, 1) := by decide +kernel
theorem dX4_takenAt_9 : decode cX4_takenAt 9 = .ok (.getfield 33, 3) := by decide +kernel
theorem dX4_takenAt_12 : decode cX4_takenAt 12 = .ok (.iload_n 1, 1) := by decide +kernel
theorem dX4_takenAt_13 : decode cX4_takenAt 13 = .ok (.aaload, 1) := by decide +kernel
theorem dX4_takenAt_14 : decode cX4_takenAt 14 = .ok (.iload_n 2, 1) := by decide +kernel
theorem dX4_takenAt_15 : decode cX4_takenAt 15 = .ok (.iaload, 1) := by decide +kernel
theorem dX4_takenAt_16 : decode cX4_takenAt 16 = .ok (.goto 4, 3) := by decide +kernel
theorem dX4_takenAt_19 : decode cX4_takenAt 19 = .ok (.iconst 0, 1) := by decide +kernel
theorem dX4_takenAt_20 : decode cX4_takenAt 20 = .ok (.ireturn, 1) := by decide +kernel
theorem dX4_columnOf_0 : decode cX4_columnOf 0 = .ok (.aload_n 0, 1) := by decide +kernel
theorem dX4_columnOf_1 : decode cX4_columnOf 1 = .ok (.getfield 27, 3) := by decide +kernel
theorem dX4_columnOf_4 : decode cX4_columnOf 4 = .ok (.iload_n 2, 1) := by decide +kernel
theorem dX4_columnOf_5 : decode cX4_columnOf 5 = .ok (.aaload, 1) := by decide +kernel
theorem dX4_columnOf_6 : decode cX4_columnOf 6 = .ok (.iload_n 3, 1) := by decide +kernel
theorem dX4_columnOf_7 : decode cX4_columnOf 7 = .ok (.iaload, 1) := by decide +kernel
theorem dX4_columnOf_8 : decode cX4_columnOf 8 = .ok (.istore 4, 2) := by decide +kernel
theorem dX4_columnOf_10 : decode cX4_columnOf 10 = .ok (.aload_n 0, 1) := by decide +kernel
theorem dX4_columnOf_11 : decode cX4_columnOf 11 = .ok (.getfield 30, 3) := by decide +kernel
theorem dX4_columnOf_14 : decode cX4_columnOf 14 = .ok (.iload_n 2, 1) := by decide +kernel
theorem dX4_columnOf_15 : decode cX4_columnOf 15 = .ok (.aaload, 1) := by decide +kernel
theorem dX4_columnOf_16 : decode cX4_columnOf 16 = .ok (.iload 4, 2) := by decide +kernel
theorem dX4_columnOf_18 : decode cX4_columnOf 18 = .ok (.iaload, 1) := by decide +kernel
theorem dX4_columnOf_19 : decode cX4_columnOf 19 = .ok (.istore 5, 2) := by decide +kernel
theorem dX4_columnOf_21 : decode cX4_columnOf 21 = .ok (.aload_n 0, 1) := by decide +kernel
theorem dX4_columnOf_22 : decode cX4_columnOf 22 = .ok (.getfield 33, 3) := by decide +kernel
theorem dX4_columnOf_25 : decode cX4_columnOf 25 = .ok (.iload_n 2, 1) := by decide +kernel
theorem dX4_columnOf_26 : decode cX4_columnOf 26 = .ok (.aaload, 1) := by decide +kernel
theorem dX4_columnOf_27 : decode cX4_columnOf 27 = .ok (.iload 4, 2) := by decide +kernel
theorem dX4_columnOf_29 : decode cX4_columnOf 29 = .ok (.iaload, 1) := by decide +kernel
theorem dX4_columnOf_30 : decode cX4_columnOf 30 = .ok (.istore 6, 2) := by decide +kernel
theorem dX4_columnOf_32 : decode cX4_columnOf 32 = .ok (.iconst 0, 1) := by decide +kernel
theorem dX4_columnOf_33 : decode cX4_columnOf 33 = .ok (.istore 7, 2) := by decide +kernel
theorem dX4_columnOf_35 : decode cX4_columnOf 35 = .ok (.iconst 0, 1) := by decide +kernel
theorem dX4_columnOf_36 : decode cX4_columnOf 36 = .ok (.istore 8, 2) := by decide +kernel
theorem dX4_columnOf_38 : decode cX4_columnOf 38 = .ok (.iload 5, 2) := by decide +kernel
theorem dX4_columnOf_40 : decode cX4_columnOf 40 = .ok (.istore 9, 2) := by decide +kernel
theorem dX4_columnOf_42 : decode cX4_columnOf 42 = .ok (.iload 9, 2) := by decide +kernel
theorem dX4_columnOf_44 : decode cX4_columnOf 44 = .ok (.iload 5, 2) := by decide +kernel
theorem dX4_columnOf_46 : decode cX4_columnOf 46 = .ok (.iload 6, 2) := by decide +kernel
theorem dX4_columnOf_48 : decode cX4_columnOf 48 = .ok (.iadd, 1) := by decide +kernel
theorem dX4_columnOf_49 : decode cX4_columnOf 49 = .ok (.if_icmp .ge 47, 3) := by decide +kernel
theorem dX4_columnOf_52 : decode cX4_columnOf 52 = .ok (.iload 7, 2) := by decide +kernel
theorem dX4_columnOf_54 : decode cX4_columnOf 54 = .ok (.iload 9, 2) := by decide +kernel
theorem dX4_columnOf_56 : decode cX4_columnOf 56 = .ok (.iload_n 3, 1) := by decide +kernel
theorem dX4_columnOf_57 : decode cX4_columnOf 57 = .ok (.if_icmp .ge 15, 3) := by decide +kernel
theorem dX4_columnOf_60 : decode cX4_columnOf 60 = .ok (.aload_n 1, 1) := by decide +kernel
theorem dX4_columnOf_61 : decode cX4_columnOf 61 = .ok (.getfield 79, 3) := by decide +kernel
theorem dX4_columnOf_64 : decode cX4_columnOf 64 = .ok (.iload_n 2, 1) := by decide +kernel
theorem dX4_columnOf_65 : decode cX4_columnOf 65 = .ok (.aaload, 1) := by decide +kernel
theorem dX4_columnOf_66 : decode cX4_columnOf 66 = .ok (.iload 9, 2) := by decide +kernel
theorem dX4_columnOf_68 : decode cX4_columnOf 68 = .ok (.iaload, 1) := by decide +kernel
theorem dX4_columnOf_69 : decode cX4_columnOf 69 = .ok (.goto 4, 3) := by decide +kernel
theorem dX4_columnOf_72 : decode cX4_columnOf 72 = .ok (.iconst 0, 1) := by decide +kernel
theorem dX4_columnOf_73 : decode cX4_columnOf 73 = .ok (.iadd, 1) := by decide +kernel
theorem dX4_columnOf_74 : decode cX4_columnOf 74 = .ok (.istore 7, 2) := by decide +kernel
theorem dX4_columnOf_76 : decode cX4_columnOf 76 = .ok (.iload 8, 2) := by decide +kernel
theorem dX4_columnOf_78 : decode cX4_columnOf 78 = .ok (.aload_n 1, 1) := by decide +kernel
theorem dX4_columnOf_79 : decode cX4_columnOf 79 = .ok (.getfield 79, 3) := by decide +kernel
theorem dX4_columnOf_82 : decode cX4_columnOf 82 = .ok (.iload_n 2, 1) := by decide +kernel
theorem dX4_columnOf_83 : decode cX4_columnOf 83 = .ok (.aaload, 1) := by decide +kernel
theorem dX4_columnOf_84 : decode cX4_columnOf 84 = .ok (.iload 9, 2) := by decide +kernel
theorem dX4_columnOf_86 : decode cX4_columnOf 86 = .ok (.iaload, 1) := by decide +kernel
theorem dX4_columnOf_87 : decode cX4_columnOf 87 = .ok (.iadd, 1) := by decide +kernel
theorem dX4_columnOf_88 : decode cX4_columnOf 88 = .ok (.istore 8, 2) := by decide +kernel
theorem dX4_columnOf_90 : decode cX4_columnOf 90 = .ok (.iinc 9 1, 3) := by decide +kernel
theorem dX4_columnOf_93 : decode cX4_columnOf 93 = .ok (.goto (-51), 3) := by decide +kernel
theorem dX4_columnOf_96 : decode cX4_columnOf 96 = .ok (.iload 6, 2) := by decide +kernel
theorem dX4_columnOf_98 : decode cX4_columnOf 98 = .ok (.iconst 1, 1) := by decide +kernel
theorem dX4_columnOf_99 : decode cX4_columnOf 99 = .ok (.isub, 1) := by decide +kernel
theorem dX4_columnOf_100 : decode cX4_columnOf 100 = .ok (.istore 9, 2) := by decide +kernel
theorem dX4_columnOf_102 : decode cX4_columnOf 102 = .ok (.iload 5, 2) := by decide +kernel
theorem dX4_columnOf_104 : decode cX4_columnOf 104 = .ok (.iload 6, 2) := by decide +kernel
theorem dX4_columnOf_106 : decode cX4_columnOf 106 = .ok (.iadd, 1) := by decide +kernel
theorem dX4_columnOf_107 : decode cX4_columnOf 107 = .ok (.aload_n 1, 1) := by decide +kernel
theorem dX4_columnOf_108 : decode cX4_columnOf 108 = .ok (.getfield 61, 3) := by decide +kernel
theorem dX4_columnOf_111 : decode cX4_columnOf 111 = .ok (.iload_n 2, 1) := by decide +kernel
theorem dX4_columnOf_112 : decode cX4_columnOf 112 = .ok (.iaload, 1) := by decide +kernel
theorem dX4_columnOf_113 : decode cX4_columnOf 113 = .ok (.if_icmp .lt 7, 3) := by decide +kernel
theorem dX4_columnOf_116 : decode cX4_columnOf 116 = .ok (.iconst 1, 1) := by decide +kernel
theorem dX4_columnOf_117 : decode cX4_columnOf 117 = .ok (.goto 4, 3) := by decide +kernel
theorem dX4_columnOf_120 : decode cX4_columnOf 120 = .ok (.iconst 0, 1) := by decide +kernel
theorem dX4_columnOf_121 : decode cX4_columnOf 121 = .ok (.istore 10, 2) := by decide +kernel
theorem dX4_columnOf_123 : decode cX4_columnOf 123 = .ok (.iload 10, 2) := by decide +kernel
theorem dX4_columnOf_125 : decode cX4_columnOf 125 = .ok (.ifCond .ne 8, 3) := by decide +kernel
theorem dX4_columnOf_128 : decode cX4_columnOf 128 = .ok (.iload 9, 2) := by decide +kernel
theorem dX4_columnOf_130 : decode cX4_columnOf 130 = .ok (.ifCond .gt 21, 3) := by decide +kernel
theorem dX4_columnOf_133 : decode cX4_columnOf 133 = .ok (.aload_n 0, 1) := by decide +kernel
theorem dX4_columnOf_134 : decode cX4_columnOf 134 = .ok (.getfield 39, 3) := by decide +kernel
theorem dX4_columnOf_137 : decode cX4_columnOf 137 = .ok (.iload_n 2, 1) := by decide +kernel
theorem dX4_columnOf_138 : decode cX4_columnOf 138 = .ok (.aaload, 1) := by decide +kernel
theorem dX4_columnOf_139 : decode cX4_columnOf 139 = .ok (.iload 4, 2) := by decide +kernel
theorem dX4_columnOf_141 : decode cX4_columnOf 141 = .ok (.iaload, 1) := by decide +kernel
theorem dX4_columnOf_142 : decode cX4_columnOf 142 = .ok (.iload 7, 2) := by decide +kernel
theorem dX4_columnOf_144 : decode cX4_columnOf 144 = .ok (.iadd, 1) := by decide +kernel
theorem dX4_columnOf_145 : decode cX4_columnOf 145 = .ok (.iload_n 3, 1) := by decide +kernel
theorem dX4_columnOf_146 : decode cX4_columnOf 146 = .ok (.iload 5, 2) := by decide +kernel
theorem dX4_columnOf_148 : decode cX4_columnOf 148 = .ok (.isub, 1) := by decide +kernel
theorem dX4_columnOf_149 : decode cX4_columnOf 149 = .ok (.iadd, 1) := by decide +kernel
theorem dX4_columnOf_150 : decode cX4_columnOf 150 = .ok (.ireturn, 1) := by decide +kernel
theorem dX4_columnOf_151 : decode cX4_columnOf 151 = .ok (.aload_n 0, 1) := by decide +kernel
theorem dX4_columnOf_152 : decode cX4_columnOf 152 = .ok (.getfield 36, 3) := by decide +kernel
theorem dX4_columnOf_155 : decode cX4_columnOf 155 = .ok (.iload_n 2, 1) := by decide +kernel
theorem dX4_columnOf_156 : decode cX4_columnOf 156 = .ok (.aaload, 1) := by decide +kernel
theorem dX4_columnOf_157 : decode cX4_columnOf 157 = .ok (.iload 4, 2) := by decide +kernel
theorem dX4_columnOf_159 : decode cX4_columnOf 159 = .ok (.iaload, 1) := by decide +kernel
theorem dX4_columnOf_160 : decode cX4_columnOf 160 = .ok (.iload 8, 2) := by decide +kernel
theorem dX4_columnOf_162 : decode cX4_columnOf 162 = .ok (.isub, 1) := by decide +kernel
theorem dX4_columnOf_163 : decode cX4_columnOf 163 = .ok (.istore 11, 2) := by decide +kernel
theorem dX4_columnOf_165 : decode cX4_columnOf 165 = .ok (.aload_n 0, 1) := by decide +kernel
theorem dX4_columnOf_166 : decode cX4_columnOf 166 = .ok (.getfield 39, 3) := by decide +kernel
theorem dX4_columnOf_169 : decode cX4_columnOf 169 = .ok (.iload_n 2, 1) := by decide +kernel
theorem dX4_columnOf_170 : decode cX4_columnOf 170 = .ok (.aaload, 1) := by decide +kernel
theorem dX4_columnOf_171 : decode cX4_columnOf 171 = .ok (.iload 4, 2) := by decide +kernel
theorem dX4_columnOf_173 : decode cX4_columnOf 173 = .ok (.iaload, 1) := by decide +kernel
theorem dX4_columnOf_174 : decode cX4_columnOf 174 = .ok (.iload 7, 2) := by decide +kernel
theorem dX4_columnOf_176 : decode cX4_columnOf 176 = .ok (.iadd, 1) := by decide +kernel
theorem dX4_columnOf_177 : decode cX4_columnOf 177 = .ok (.iload_n 3, 1) := by decide +kernel
theorem dX4_columnOf_178 : decode cX4_columnOf 178 = .ok (.iload 5, 2) := by decide +kernel
theorem dX4_columnOf_180 : decode cX4_columnOf 180 = .ok (.isub, 1) := by decide +kernel
theorem dX4_columnOf_181 : decode cX4_columnOf 181 = .ok (.iload 11, 2) := by decide +kernel
theorem dX4_columnOf_183 : decode cX4_columnOf 183 = .ok (.iload 9, 2) := by decide +kernel
theorem dX4_columnOf_185 : decode cX4_columnOf 185 = .ok (.idiv, 1) := by decide +kernel
theorem dX4_columnOf_186 : decode cX4_columnOf 186 = .ok (.imul, 1) := by decide +kernel
theorem dX4_columnOf_187 : decode cX4_columnOf 187 = .ok (.iadd, 1) := by decide +kernel
theorem dX4_columnOf_188 : decode cX4_columnOf 188 = .ok (.iload_n 3, 1) := by decide +kernel
theorem dX4_columnOf_189 : decode cX4_columnOf 189 = .ok (.iload 5, 2) := by decide +kernel
theorem dX4_columnOf_191 : decode cX4_columnOf 191 = .ok (.isub, 1) := by decide +kernel
theorem dX4_columnOf_192 : decode cX4_columnOf 192 = .ok (.iload 11, 2) := by decide +kernel
theorem dX4_columnOf_194 : decode cX4_columnOf 194 = .ok (.iload 9, 2) := by decide +kernel
theorem dX4_columnOf_196 : decode cX4_columnOf 196 = .ok (.irem, 1) := by decide +kernel
theorem dX4_columnOf_197 : decode cX4_columnOf 197 = .ok (.invokestatic 86, 3) := by decide +kernel
theorem dX4_columnOf_200 : decode cX4_columnOf 200 = .ok (.iadd, 1) := by decide +kernel
theorem dX4_columnOf_201 : decode cX4_columnOf 201 = .ok (.ireturn, 1) := by decide +kernel
theorem dX4_endOf_0 : decode cX4_endOf 0 = .ok (.aload_n 1, 1) := by decide +kernel
theorem dX4_endOf_1 : decode cX4_endOf 1 = .ok (.getfield 61, 3) := by decide +kernel
theorem dX4_endOf_4 : decode cX4_endOf 4 = .ok (.iload_n 2, 1) := by decide +kernel
theorem dX4_endOf_5 : decode cX4_endOf 5 = .ok (.iaload, 1) := by decide +kernel
theorem dX4_endOf_6 : decode cX4_endOf 6 = .ok (.istore_n 3, 1) := by decide +kernel
theorem dX4_endOf_7 : decode cX4_endOf 7 = .ok (.iload_n 3, 1) := by decide +kernel
theorem dX4_endOf_8 : decode cX4_endOf 8 = .ok (.ifCond .le 16, 3) := by decide +kernel
theorem dX4_endOf_11 : decode cX4_endOf 11 = .ok (.aload_n 0, 1) := by decide +kernel
theorem dX4_endOf_12 : decode cX4_endOf 12 = .ok (.getfield 27, 3) := by decide +kernel
theorem dX4_endOf_15 : decode cX4_endOf 15 = .ok (.iload_n 2, 1) := by decide +kernel
theorem dX4_endOf_16 : decode cX4_endOf 16 = .ok (.aaload, 1) := by decide +kernel
theorem dX4_endOf_17 : decode cX4_endOf 17 = .ok (.iload_n 3, 1) := by decide +kernel
theorem dX4_endOf_18 : decode cX4_endOf 18 = .ok (.iconst 1, 1) := by decide +kernel
theorem dX4_endOf_19 : decode cX4_endOf 19 = .ok (.isub, 1) := by decide +kernel
theorem dX4_endOf_20 : decode cX4_endOf 20 = .ok (.iaload, 1) := by decide +kernel
theorem dX4_endOf_21 : decode cX4_endOf 21 = .ok (.goto 4, 3) := by decide +kernel
theorem dX4_endOf_24 : decode cX4_endOf 24 = .ok (.iconst (-1), 1) := by decide +kernel
theorem dX4_endOf_25 : decode cX4_endOf 25 = .ok (.ireturn, 1) := by decide +kernel
theorem dX4_firstToEnd_0 : decode cX4_firstToEnd 0 = .ok (.iconst (-1), 1) := by decide +kernel
theorem dX4_firstToEnd_1 : decode cX4_firstToEnd 1 = .ok (.istore_n 2, 1) := by decide +kernel
theorem dX4_firstToEnd_2 : decode cX4_firstToEnd 2 = .ok (.iconst 2, 1) := by decide +kernel
theorem dX4_firstToEnd_3 : decode cX4_firstToEnd 3 = .ok (.istore_n 3, 1) := by decide +kernel
theorem dX4_firstToEnd_4 : decode cX4_firstToEnd 4 = .ok (.iload_n 3, 1) := by decide +kernel
theorem dX4_firstToEnd_5 : decode cX4_firstToEnd 5 = .ok (.ifCond .lt 39, 3) := by decide +kernel
theorem dX4_firstToEnd_8 : decode cX4_firstToEnd 8 = .ok (.aload_n 1, 1) := by decide +kernel
theorem dX4_firstToEnd_9 : decode cX4_firstToEnd 9 = .ok (.getfield 61, 3) := by decide +kernel
theorem dX4_firstToEnd_12 : decode cX4_firstToEnd 12 = .ok (.iload_n 3, 1) := by decide +kernel
theorem dX4_firstToEnd_13 : decode cX4_firstToEnd 13 = .ok (.iaload, 1) := by decide +kernel
theorem dX4_firstToEnd_14 : decode cX4_firstToEnd 14 = .ok (.ifCond .le 24, 3) := by decide +kernel
theorem dX4_firstToEnd_17 : decode cX4_firstToEnd 17 = .ok (.iload_n 2, 1) := by decide +kernel
theorem dX4_firstToEnd_18 : decode cX4_firstToEnd 18 = .ok (.ifCond .lt 18, 3) := by decide +kernel
theorem dX4_firstToEnd_21 : decode cX4_firstToEnd 21 = .ok (.aload_n 0, 1) := by decide +kernel
theorem dX4_firstToEnd_22 : decode cX4_firstToEnd 22 = .ok (.aload_n 1, 1) := by decide +kernel
theorem dX4_firstToEnd_23 : decode cX4_firstToEnd 23 = .ok (.iload_n 3, 1) := by decide +kernel
theorem dX4_firstToEnd_24 : decode cX4_firstToEnd 24 = .ok (.invokevirtual 92, 3) := by decide +kernel
theorem dX4_firstToEnd_27 : decode cX4_firstToEnd 27 = .ok (.aload_n 0, 1) := by decide +kernel
theorem dX4_firstToEnd_28 : decode cX4_firstToEnd 28 = .ok (.aload_n 1, 1) := by decide +kernel
theorem dX4_firstToEnd_29 : decode cX4_firstToEnd 29 = .ok (.iload_n 2, 1) := by decide +kernel
theorem dX4_firstToEnd_30 : decode cX4_firstToEnd 30 = .ok (.invokevirtual 92, 3) := by decide +kernel
theorem dX4_firstToEnd_33 : decode cX4_firstToEnd 33 = .ok (.if_icmp .gt 5, 3) := by decide +kernel
theorem dX4_firstToEnd_36 : decode cX4_firstToEnd 36 = .ok (.iload_n 3, 1) := by decide +kernel
theorem dX4_firstToEnd_37 : decode cX4_firstToEnd 37 = .ok (.istore_n 2, 1) := by decide +kernel
theorem dX4_firstToEnd_38 : decode cX4_firstToEnd 38 = .ok (.iinc 3 (-1), 3) := by decide +kernel
theorem dX4_firstToEnd_41 : decode cX4_firstToEnd 41 = .ok (.goto (-37), 3) := by decide +kernel
theorem dX4_firstToEnd_44 : decode cX4_firstToEnd 44 = .ok (.iload_n 2, 1) := by decide +kernel
theorem dX4_firstToEnd_45 : decode cX4_firstToEnd 45 = .ok (.ireturn, 1) := by decide +kernel
theorem dX4_lastToEnd_0 : decode cX4_lastToEnd 0 = .ok (.iconst (-1), 1) := by decide +kernel
theorem dX4_lastToEnd_1 : decode cX4_lastToEnd 1 = .ok (.istore_n 2, 1) := by decide +kernel
theorem dX4_lastToEnd_2 : decode cX4_lastToEnd 2 = .ok (.iconst 2, 1) := by decide +kernel
theorem dX4_lastToEnd_3 : decode cX4_lastToEnd 3 = .ok (.istore_n 3, 1) := by decide +kernel
theorem dX4_lastToEnd_4 : decode cX4_lastToEnd 4 = .ok (.iload_n 3, 1) := by decide +kernel
theorem dX4_lastToEnd_5 : decode cX4_lastToEnd 5 = .ok (.ifCond .lt 39, 3) := by decide +kernel
theorem dX4_lastToEnd_8 : decode cX4_lastToEnd 8 = .ok (.aload_n 1, 1) := by decide +kernel
theorem dX4_lastToEnd_9 : decode cX4_lastToEnd 9 = .ok (.getfield 61, 3) := by decide +kernel
theorem dX4_lastToEnd_12 : decode cX4_lastToEnd 12 = .ok (.iload_n 3, 1) := by decide +kernel
theorem dX4_lastToEnd_13 : decode cX4_lastToEnd 13 = .ok (.iaload, 1) := by decide +kernel
theorem dX4_lastToEnd_14 : decode cX4_lastToEnd 14 = .ok (.ifCond .le 24, 3) := by decide +kernel
theorem dX4_lastToEnd_17 : decode cX4_lastToEnd 17 = .ok (.iload_n 2, 1) := by decide +kernel
theorem dX4_lastToEnd_18 : decode cX4_lastToEnd 18 = .ok (.ifCond .lt 18, 3) := by decide +kernel
theorem dX4_lastToEnd_21 : decode cX4_lastToEnd 21 = .ok (.aload_n 0, 1) := by decide +kernel
theorem dX4_lastToEnd_22 : decode cX4_lastToEnd 22 = .ok (.aload_n 1, 1) := by decide +kernel
theorem dX4_lastToEnd_23 : decode cX4_lastToEnd 23 = .ok (.iload_n 3, 1) := by decide +kernel
theorem dX4_lastToEnd_24 : decode cX4_lastToEnd 24 = .ok (.invokevirtual 92, 3) := by decide +kernel
theorem dX4_lastToEnd_27 : decode cX4_lastToEnd 27 = .ok (.aload_n 0, 1) := by decide +kernel
theorem dX4_lastToEnd_28 : decode cX4_lastToEnd 28 = .ok (.aload_n 1, 1) := by decide +kernel
theorem dX4_lastToEnd_29 : decode cX4_lastToEnd 29 = .ok (.iload_n 2, 1) := by decide +kernel
theorem dX4_lastToEnd_30 : decode cX4_lastToEnd 30 = .ok (.invokevirtual 92, 3) := by decide +kernel
theorem dX4_lastToEnd_33 : decode cX4_lastToEnd 33 = .ok (.if_icmp .lt 5, 3) := by decide +kernel
theorem dX4_lastToEnd_36 : decode cX4_lastToEnd 36 = .ok (.iload_n 3, 1) := by decide +kernel
theorem dX4_lastToEnd_37 : decode cX4_lastToEnd 37 = .ok (.istore_n 2, 1) := by decide +kernel
theorem dX4_lastToEnd_38 : decode cX4_lastToEnd 38 = .ok (.iinc 3 (-1), 3) := by decide +kernel
theorem dX4_lastToEnd_41 : decode cX4_lastToEnd 41 = .ok (.goto (-37), 3) := by decide +kernel
theorem dX4_lastToEnd_44 : decode cX4_lastToEnd 44 = .ok (.iload_n 2, 1) := by decide +kernel
theorem dX4_lastToEnd_45 : decode cX4_lastToEnd 45 = .ok (.ireturn, 1) := by decide +kernel
theorem dX4_endsApart_0 : decode cX4_endsApart 0 = .ok (.sipush 210, 3) := by decide +kernel
theorem dX4_endsApart_3 : decode cX4_endsApart 3 = .ok (.istore_n 2, 1) := by decide +kernel
theorem dX4_endsApart_4 : decode cX4_endsApart 4 = .ok (.iconst (-1), 1) := by decide +kernel
theorem dX4_endsApart_5 : decode cX4_endsApart 5 = .ok (.istore_n 3, 1) := by decide +kernel
theorem dX4_endsApart_6 : decode cX4_endsApart 6 = .ok (.iconst 0, 1) := by decide +kernel
theorem dX4_endsApart_7 : decode cX4_endsApart 7 = .ok (.istore 4, 2) := by decide +kernel
theorem dX4_endsApart_9 : decode cX4_endsApart 9 = .ok (.iload 4, 2) := by decide +kernel
theorem dX4_endsApart_11 : decode cX4_endsApart 11 = .ok (.iconst 3, 1) := by decide +kernel
theorem dX4_endsApart_12 : decode cX4_endsApart 12 = .ok (.if_icmp .ge 37, 3) := by decide +kernel
theorem dX4_endsApart_15 : decode cX4_endsApart 15 = .ok (.aload_n 0, 1) := by decide +kernel
theorem dX4_endsApart_16 : decode cX4_endsApart 16 = .ok (.aload_n 1, 1) := by decide +kernel
theorem dX4_endsApart_17 : decode cX4_endsApart 17 = .ok (.iload 4, 2) := by decide +kernel
theorem dX4_endsApart_19 : decode cX4_endsApart 19 = .ok (.invokevirtual 92, 3) := by decide +kernel
theorem dX4_endsApart_22 : decode cX4_endsApart 22 = .ok (.istore 5, 2) := by decide +kernel
theorem dX4_endsApart_24 : decode cX4_endsApart 24 = .ok (.iload 5, 2) := by decide +kernel
theorem dX4_endsApart_26 : decode cX4_endsApart 26 = .ok (.ifCond .lt 17, 3) := by decide +kernel
theorem dX4_endsApart_29 : decode cX4_endsApart 29 = .ok (.iload_n 2, 1) := by decide +kernel
theorem dX4_endsApart_30 : decode cX4_endsApart 30 = .ok (.iload 5, 2) := by decide +kernel
theorem dX4_endsApart_32 : decode cX4_endsApart 32 = .ok (.invokestatic 86, 3) := by decide +kernel
theorem dX4_endsApart_35 : decode cX4_endsApart 35 = .ok (.istore_n 2, 1) := by decide +kernel
theorem dX4_endsApart_36 : decode cX4_endsApart 36 = .ok (.iload_n 3, 1) := by decide +kernel
theorem dX4_endsApart_37 : decode cX4_endsApart 37 = .ok (.iload 5, 2) := by decide +kernel
theorem dX4_endsApart_39 : decode cX4_endsApart 39 = .ok (.invokestatic 96, 3) := by decide +kernel
theorem dX4_endsApart_42 : decode cX4_endsApart 42 = .ok (.istore_n 3, 1) := by decide +kernel
theorem dX4_endsApart_43 : decode cX4_endsApart 43 = .ok (.iinc 4 1, 3) := by decide +kernel
theorem dX4_endsApart_46 : decode cX4_endsApart 46 = .ok (.goto (-37), 3) := by decide +kernel
theorem dX4_endsApart_49 : decode cX4_endsApart 49 = .ok (.iload_n 3, 1) := by decide +kernel
theorem dX4_endsApart_50 : decode cX4_endsApart 50 = .ok (.ifCond .ge 7, 3) := by decide +kernel
theorem dX4_endsApart_53 : decode cX4_endsApart 53 = .ok (.iconst 0, 1) := by decide +kernel
theorem dX4_endsApart_54 : decode cX4_endsApart 54 = .ok (.goto 6, 3) := by decide +kernel
theorem dX4_endsApart_57 : decode cX4_endsApart 57 = .ok (.iload_n 3, 1) := by decide +kernel
theorem dX4_endsApart_58 : decode cX4_endsApart 58 = .ok (.iload_n 2, 1) := by decide +kernel
theorem dX4_endsApart_59 : decode cX4_endsApart 59 = .ok (.isub, 1) := by decide +kernel
theorem dX4_endsApart_60 : decode cX4_endsApart 60 = .ok (.ireturn, 1) := by decide +kernel
theorem dX4_raggedInAll_0 : decode cX4_raggedInAll 0 = .ok (.aload_n 0, 1) := by decide +kernel
theorem dX4_raggedInAll_1 : decode cX4_raggedInAll 1 = .ok (.getfield 22, 3) := by decide +kernel
theorem dX4_raggedInAll_4 : decode cX4_raggedInAll 4 = .ok (.iconst 0, 1) := by decide +kernel
theorem dX4_raggedInAll_5 : decode cX4_raggedInAll 5 = .ok (.iaload, 1) := by decide +kernel
theorem dX4_raggedInAll_6 : decode cX4_raggedInAll 6 = .ok (.aload_n 0, 1) := by decide +kernel
theorem dX4_raggedInAll_7 : decode cX4_raggedInAll 7 = .ok (.getfield 22, 3) := by decide +kernel
theorem dX4_raggedInAll_10 : decode cX4_raggedInAll 10 = .ok (.iconst 1, 1) := by decide +kernel
theorem dX4_raggedInAll_11 : decode cX4_raggedInAll 11 = .ok (.iaload, 1) := by decide +kernel
theorem dX4_raggedInAll_12 : decode cX4_raggedInAll 12 = .ok (.iadd, 1) := by decide +kernel
theorem dX4_raggedInAll_13 : decode cX4_raggedInAll 13 = .ok (.aload_n 0, 1) := by decide +kernel
theorem dX4_raggedInAll_14 : decode cX4_raggedInAll 14 = .ok (.getfield 22, 3) := by decide +kernel
theorem dX4_raggedInAll_17 : decode cX4_raggedInAll 17 = .ok (.iconst 2, 1) := by decide +kernel
theorem dX4_raggedInAll_18 : decode cX4_raggedInAll 18 = .ok (.iaload, 1) := by decide +kernel
theorem dX4_raggedInAll_19 : decode cX4_raggedInAll 19 = .ok (.iadd, 1) := by decide +kernel
theorem dX4_raggedInAll_20 : decode cX4_raggedInAll 20 = .ok (.ireturn, 1) := by decide +kernel
theorem dX4_deepOf_0 : decode cX4_deepOf 0 = .ok (.aload_n 0, 1) := by decide +kernel
theorem dX4_deepOf_1 : decode cX4_deepOf 1 = .ok (.getfield 27, 3) := by decide +kernel
theorem dX4_deepOf_4 : decode cX4_deepOf 4 = .ok (.aload_n 1, 1) := by decide +kernel
theorem dX4_deepOf_5 : decode cX4_deepOf 5 = .ok (.getfield 99, 3) := by decide +kernel
theorem dX4_deepOf_8 : decode cX4_deepOf 8 = .ok (.iload_n 2, 1) := by decide +kernel
theorem dX4_deepOf_9 : decode cX4_deepOf 9 = .ok (.iaload, 1) := by decide +kernel
theorem dX4_deepOf_10 : decode cX4_deepOf 10 = .ok (.aaload, 1) := by decide +kernel
theorem dX4_deepOf_11 : decode cX4_deepOf 11 = .ok (.aload_n 1, 1) := by decide +kernel
theorem dX4_deepOf_12 : decode cX4_deepOf 12 = .ok (.getfield 102, 3) := by decide +kernel
theorem dX4_deepOf_15 : decode cX4_deepOf 15 = .ok (.iload_n 2, 1) := by decide +kernel
theorem dX4_deepOf_16 : decode cX4_deepOf 16 = .ok (.iaload, 1) := by decide +kernel
theorem dX4_deepOf_17 : decode cX4_deepOf 17 = .ok (.iaload, 1) := by decide +kernel
theorem dX4_deepOf_18 : decode cX4_deepOf 18 = .ok (.aload_n 0, 1) := by decide +kernel
theorem dX4_deepOf_19 : decode cX4_deepOf 19 = .ok (.getfield 27, 3) := by decide +kernel
theorem dX4_deepOf_22 : decode cX4_deepOf 22 = .ok (.iconst 0, 1) := by decide +kernel
theorem dX4_deepOf_23 : decode cX4_deepOf 23 = .ok (.aaload, 1) := by decide +kernel
theorem dX4_deepOf_24 : decode cX4_deepOf 24 = .ok (.aload_n 1, 1) := by decide +kernel
theorem dX4_deepOf_25 : decode cX4_deepOf 25 = .ok (.getfield 105, 3) := by decide +kernel
theorem dX4_deepOf_28 : decode cX4_deepOf 28 = .ok (.iload_n 2, 1) := by decide +kernel
theorem dX4_deepOf_29 : decode cX4_deepOf 29 = .ok (.iaload, 1) := by decide +kernel
theorem dX4_deepOf_30 : decode cX4_deepOf 30 = .ok (.iaload, 1) := by decide +kernel
theorem dX4_deepOf_31 : decode cX4_deepOf 31 = .ok (.isub, 1) := by decide +kernel
theorem dX4_deepOf_32 : decode cX4_deepOf 32 = .ok (.ireturn, 1) := by decide +kernel
theorem dX4_brokenTies_0 : decode cX4_brokenTies 0 = .ok (.iconst 0, 1) := by decide +kernel
theorem dX4_brokenTies_1 : decode cX4_brokenTies 1 = .ok (.istore_n 2, 1) := by decide +kernel
theorem dX4_brokenTies_2 : decode cX4_brokenTies 2 = .ok (.iconst 0, 1) := by decide +kernel
theorem dX4_brokenTies_3 : decode cX4_brokenTies 3 = .ok (.istore_n 3, 1) := by decide +kernel
theorem dX4_brokenTies_4 : decode cX4_brokenTies 4 = .ok (.iload_n 3, 1) := by decide +kernel
theorem dX4_brokenTies_5 : decode cX4_brokenTies 5 = .ok (.aload_n 1, 1) := by decide +kernel
theorem dX4_brokenTies_6 : decode cX4_brokenTies 6 = .ok (.getfield 108, 3) := by decide +kernel
theorem dX4_brokenTies_9 : decode cX4_brokenTies 9 = .ok (.if_icmp .ge 24, 3) := by decide +kernel
theorem dX4_brokenTies_12 : decode cX4_brokenTies 12 = .ok (.aload_n 0, 1) := by decide +kernel
theorem dX4_brokenTies_13 : decode cX4_brokenTies 13 = .ok (.aload_n 1, 1) := by decide +kernel
theorem dX4_brokenTies_14 : decode cX4_brokenTies 14 = .ok (.iload_n 3, 1) := by decide +kernel
theorem dX4_brokenTies_15 : decode cX4_brokenTies 15 = .ok (.invokevirtual 111, 3) := by decide +kernel
theorem dX4_brokenTies_18 : decode cX4_brokenTies 18 = .ok (.invokestatic 114, 3) := by decide +kernel
theorem dX4_brokenTies_21 : decode cX4_brokenTies 21 = .ok (.ifCond .eq 6, 3) := by decide +kernel
theorem dX4_brokenTies_24 : decode cX4_brokenTies 24 = .ok (.iinc 2 1, 3) := by decide +kernel
theorem dX4_brokenTies_27 : decode cX4_brokenTies 27 = .ok (.iinc 3 1, 3) := by decide +kernel
theorem dX4_brokenTies_30 : decode cX4_brokenTies 30 = .ok (.goto (-26), 3) := by decide +kernel
theorem dX4_brokenTies_33 : decode cX4_brokenTies 33 = .ok (.iload_n 2, 1) := by decide +kernel
theorem dX4_brokenTies_34 : decode cX4_brokenTies 34 = .ok (.ireturn, 1) := by decide +kernel
theorem dX4_costOf_0 : decode cX4_costOf 0 = .ok (.aload_n 0, 1) := by decide +kernel
theorem dX4_costOf_1 : decode cX4_costOf 1 = .ok (.aload_n 1, 1) := by decide +kernel
theorem dX4_costOf_2 : decode cX4_costOf 2 = .ok (.invokevirtual 118, 3) := by decide +kernel
theorem dX4_costOf_5 : decode cX4_costOf 5 = .ok (.aload_n 1, 1) := by decide +kernel
theorem dX4_costOf_6 : decode cX4_costOf 6 = .ok (.getfield 122, 3) := by decide +kernel
theorem dX4_costOf_9 : decode cX4_costOf 9 = .ok (.iconst 0, 1) := by decide +kernel
theorem dX4_costOf_10 : decode cX4_costOf 10 = .ok (.iaload, 1) := by decide +kernel
theorem dX4_costOf_11 : decode cX4_costOf 11 = .ok (.imul, 1) := by decide +kernel
theorem dX4_costOf_12 : decode cX4_costOf 12 = .ok (.aload_n 0, 1) := by decide +kernel
theorem dX4_costOf_13 : decode cX4_costOf 13 = .ok (.aload_n 1, 1) := by decide +kernel
theorem dX4_costOf_14 : decode cX4_costOf 14 = .ok (.invokevirtual 125, 3) := by decide +kernel
theorem dX4_costOf_17 : decode cX4_costOf 17 = .ok (.aload_n 1, 1) := by decide +kernel
theorem dX4_costOf_18 : decode cX4_costOf 18 = .ok (.getfield 122, 3) := by decide +kernel
theorem dX4_costOf_21 : decode cX4_costOf 21 = .ok (.iconst 1, 1) := by decide +kernel
theorem dX4_costOf_22 : decode cX4_costOf 22 = .ok (.iaload, 1) := by decide +kernel
theorem dX4_costOf_23 : decode cX4_costOf 23 = .ok (.imul, 1) := by decide +kernel
theorem dX4_costOf_24 : decode cX4_costOf 24 = .ok (.iadd, 1) := by decide +kernel
theorem dX4_costOf_25 : decode cX4_costOf 25 = .ok (.aload_n 0, 1) := by decide +kernel
theorem dX4_costOf_26 : decode cX4_costOf 26 = .ok (.invokevirtual 128, 3) := by decide +kernel
theorem dX4_costOf_29 : decode cX4_costOf 29 = .ok (.aload_n 1, 1) := by decide +kernel
theorem dX4_costOf_30 : decode cX4_costOf 30 = .ok (.getfield 122, 3) := by decide +kernel
theorem dX4_costOf_33 : decode cX4_costOf 33 = .ok (.iconst 2, 1) := by decide +kernel
theorem dX4_costOf_34 : decode cX4_costOf 34 = .ok (.iaload, 1) := by decide +kernel
theorem dX4_costOf_35 : decode cX4_costOf 35 = .ok (.imul, 1) := by decide +kernel
theorem dX4_costOf_36 : decode cX4_costOf 36 = .ok (.iadd, 1) := by decide +kernel
theorem dX4_costOf_37 : decode cX4_costOf 37 = .ok (.ireturn, 1) := by decide +kernel
theorem dX4_lettersFrom_0 : decode cX4_lettersFrom 0 = .ok (.iconst 0, 1) := by decide +kernel
theorem dX4_lettersFrom_1 : decode cX4_lettersFrom 1 = .ok (.istore_n 3, 1) := by decide +kernel
theorem dX4_lettersFrom_2 : decode cX4_lettersFrom 2 = .ok (.iconst 0, 1) := by decide +kernel
theorem dX4_lettersFrom_3 : decode cX4_lettersFrom 3 = .ok (.istore 4, 2) := by decide +kernel
theorem dX4_lettersFrom_5 : decode cX4_lettersFrom 5 = .ok (.iload 4, 2) := by decide +kernel
theorem dX4_lettersFrom_7 : decode cX4_lettersFrom 7 = .ok (.iconst 3, 1) := by decide +kernel
theorem dX4_lettersFrom_8 : decode cX4_lettersFrom 8 = .ok (.if_icmp .ge 61, 3) := by decide +kernel
theorem dX4_lettersFrom_11 : decode cX4_lettersFrom 11 = .ok (.iconst 0, 1) := by decide +kernel
theorem dX4_lettersFrom_12 : decode cX4_lettersFrom 12 = .ok (.istore 5, 2) := by decide +kernel
theorem dX4_lettersFrom_14 : decode cX4_lettersFrom 14 = .ok (.iload 5, 2) := by decide +kernel
theorem dX4_lettersFrom_16 : decode cX4_lettersFrom 16 = .ok (.aload_n 1, 1) := by decide +kernel
theorem dX4_lettersFrom_17 : decode cX4_lettersFrom 17 = .ok (.getfield 61, 3) := by decide +kernel
theorem dX4_lettersFrom_20 : decode cX4_lettersFrom 20 = .ok (.iload 4, 2) := by decide +kernel
theorem dX4_lettersFrom_22 : decode cX4_lettersFrom 22 = .ok (.iaload, 1) := by decide +kernel
theorem dX4_lettersFrom_23 : decode cX4_lettersFrom 23 = .ok (.if_icmp .ge 40, 3) := by decide +kernel
theorem dX4_lettersFrom_26 : decode cX4_lettersFrom 26 = .ok (.iload_n 3, 1) := by decide +kernel
theorem dX4_lettersFrom_27 : decode cX4_lettersFrom 27 = .ok (.aload_n 0, 1) := by decide +kernel
theorem dX4_lettersFrom_28 : decode cX4_lettersFrom 28 = .ok (.getfield 27, 3) := by decide +kernel
theorem dX4_lettersFrom_31 : decode cX4_lettersFrom 31 = .ok (.iload 4, 2) := by decide +kernel
theorem dX4_lettersFrom_33 : decode cX4_lettersFrom 33 = .ok (.aaload, 1) := by decide +kernel
theorem dX4_lettersFrom_34 : decode cX4_lettersFrom 34 = .ok (.iload 5, 2) := by decide +kernel
theorem dX4_lettersFrom_36 : decode cX4_lettersFrom 36 = .ok (.iaload, 1) := by decide +kernel
theorem dX4_lettersFrom_37 : decode cX4_lettersFrom 37 = .ok (.iload_n 2, 1) := by decide +kernel
theorem dX4_lettersFrom_38 : decode cX4_lettersFrom 38 = .ok (.if_icmp .lt 16, 3) := by decide +kernel
theorem dX4_lettersFrom_41 : decode cX4_lettersFrom 41 = .ok (.aload_n 1, 1) := by decide +kernel
theorem dX4_lettersFrom_42 : decode cX4_lettersFrom 42 = .ok (.getfield 79, 3) := by decide +kernel
theorem dX4_lettersFrom_45 : decode cX4_lettersFrom 45 = .ok (.iload 4, 2) := by decide +kernel
theorem dX4_lettersFrom_47 : decode cX4_lettersFrom 47 = .ok (.aaload, 1) := by decide +kernel
theorem dX4_lettersFrom_48 : decode cX4_lettersFrom 48 = .ok (.iload 5, 2) := by decide +kernel
theorem dX4_lettersFrom_50 : decode cX4_lettersFrom 50 = .ok (.iaload, 1) := by decide +kernel
theorem dX4_lettersFrom_51 : decode cX4_lettersFrom 51 = .ok (.goto 4, 3) := by decide +kernel
theorem dX4_lettersFrom_54 : decode cX4_lettersFrom 54 = .ok (.iconst 0, 1) := by decide +kernel
theorem dX4_lettersFrom_55 : decode cX4_lettersFrom 55 = .ok (.iadd, 1) := by decide +kernel
theorem dX4_lettersFrom_56 : decode cX4_lettersFrom 56 = .ok (.istore_n 3, 1) := by decide +kernel
theorem dX4_lettersFrom_57 : decode cX4_lettersFrom 57 = .ok (.iinc 5 1, 3) := by decide +kernel
theorem dX4_lettersFrom_60 : decode cX4_lettersFrom 60 = .ok (.goto (-46), 3) := by decide +kernel
theorem dX4_lettersFrom_63 : decode cX4_lettersFrom 63 = .ok (.iinc 4 1, 3) := by decide +kernel
theorem dX4_lettersFrom_66 : decode cX4_lettersFrom 66 = .ok (.goto (-61), 3) := by decide +kernel
theorem dX4_lettersFrom_69 : decode cX4_lettersFrom 69 = .ok (.iload_n 3, 1) := by decide +kernel
theorem dX4_lettersFrom_70 : decode cX4_lettersFrom 70 = .ok (.ireturn, 1) := by decide +kernel
theorem dX5_init_0 : decode cX5_init 0 = .ok (.aload_n 0, 1) := by decide +kernel
theorem dX5_init_1 : decode cX5_init 1 = .ok (.invokespecial 3, 3) := by decide +kernel
theorem dX5_init_4 : decode cX5_init 4 = .ok (.aload_n 0, 1) := by decide +kernel
theorem dX5_init_5 : decode cX5_init 5 = .ok (.bipush 80, 2) := by decide +kernel
theorem dX5_init_7 : decode cX5_init 7 = .ok (.newarray .int, 2) := by decide +kernel
theorem dX5_init_9 : decode cX5_init 9 = .ok (.putfield 9, 3) := by decide +kernel
theorem dX5_init_12 : decode cX5_init 12 = .ok (.aload_n 0, 1) := by decide +kernel
theorem dX5_init_13 : decode cX5_init 13 = .ok (.iconst 0, 1) := by decide +kernel
theorem dX5_init_14 : decode cX5_init 14 = .ok (.putfield 15, 3) := by decide +kernel
theorem dX5_init_17 : decode cX5_init 17 = .ok (.return_, 1) := by decide +kernel
theorem dX5_add_0 : decode cX5_add 0 = .ok (.aload_n 0, 1) := by decide +kernel
theorem dX5_add_1 : decode cX5_add 1 = .ok (.getfield 15, 3) := by decide +kernel
theorem dX5_add_4 : decode cX5_add 4 = .ok (.iconst 4, 1) := by decide +kernel
theorem dX5_add_5 : decode cX5_add 5 = .ok (.iadd, 1) := by decide +kernel
theorem dX5_add_6 : decode cX5_add 6 = .ok (.bipush 80, 2) := by decide +kernel
theorem dX5_add_8 : decode cX5_add 8 = .ok (.if_icmp .le 5, 3) := by decide +kernel
theorem dX5_add_11 : decode cX5_add 11 = .ok (.iconst 0, 1) := by decide +kernel
theorem dX5_add_12 : decode cX5_add 12 = .ok (.ireturn, 1) := by decide +kernel
theorem dX5_add_13 : decode cX5_add 13 = .ok (.iconst 0, 1) := by decide +kernel
theorem dX5_add_14 : decode cX5_add 14 = .ok (.istore_n 2, 1) := by decide +kernel
theorem dX5_add_15 : decode cX5_add 15 = .ok (.iload_n 2, 1) := by decide +kernel
theorem dX5_add_16 : decode cX5_add 16 = .ok (.iconst 4, 1) := by decide +kernel
theorem dX5_add_17 : decode cX5_add 17 = .ok (.if_icmp .ge 33, 3) := by decide +kernel
theorem dX5_add_20 : decode cX5_add 20 = .ok (.aload_n 0, 1) := by decide +kernel
theorem dX5_add_21 : decode cX5_add 21 = .ok (.getfield 9, 3) := by decide +kernel
theorem dX5_add_24 : decode cX5_add 24 = .ok (.aload_n 0, 1) := by decide +kernel
theorem dX5_add_25 : decode cX5_add 25 = .ok (.getfield 15, 3) := by decide +kernel
theorem dX5_add_28 : decode cX5_add 28 = .ok (.iload_n 2, 1) := by decide +kernel
theorem dX5_add_29 : decode cX5_add 29 = .ok (.iadd, 1) := by decide +kernel
theorem dX5_add_30 : decode cX5_add 30 = .ok (.iload_n 1, 1) := by decide +kernel
theorem dX5_add_31 : decode cX5_add 31 = .ok (.bipush 24, 2) := by decide +kernel
theorem dX5_add_33 : decode cX5_add 33 = .ok (.bipush 8, 2) := by decide +kernel
theorem dX5_add_35 : decode cX5_add 35 = .ok (.iload_n 2, 1) := by decide +kernel
theorem dX5_add_36 : decode cX5_add 36 = .ok (.imul, 1) := by decide +kernel
theorem dX5_add_37 : decode cX5_add 37 = .ok (.isub, 1) := by decide +kernel
theorem dX5_add_38 : decode cX5_add 38 = .ok (.iushr, 1) := by decide +kernel
theorem dX5_add_39 : decode cX5_add 39 = .ok (.sipush 255, 3) := by decide +kernel
theorem dX5_add_42 : decode cX5_add 42 = .ok (.iand, 1) := by decide +kernel
theorem dX5_add_43 : decode cX5_add 43 = .ok (.iastore, 1) := by decide +kernel
theorem dX5_add_44 : decode cX5_add 44 = .ok (.iinc 2 1, 3) := by decide +kernel
theorem dX5_add_47 : decode cX5_add 47 = .ok (.goto (-32), 3) := by decide +kernel
theorem dX5_add_50 : decode cX5_add 50 = .ok (.aload_n 0, 1) := by decide +kernel
theorem dX5_add_51 : decode cX5_add 51 = .ok (.dup, 1) := by decide +kernel
theorem dX5_add_52 : decode cX5_add 52 = .ok (.getfield 15, 3) := by decide +kernel
theorem dX5_add_55 : decode cX5_add 55 = .ok (.iconst 4, 1) := by decide +kernel
theorem dX5_add_56 : decode cX5_add 56 = .ok (.iadd, 1) := by decide +kernel
theorem dX5_add_57 : decode cX5_add 57 = .ok (.putfield 15, 3) := by decide +kernel
theorem dX5_add_60 : decode cX5_add 60 = .ok (.iconst 1, 1) := by decide +kernel
theorem dX5_add_61 : decode cX5_add 61 = .ok (.ireturn, 1) := by decide +kernel
theorem dX5_cut_0 : decode cX5_cut 0 = .ok (.iload_n 1, 1) := by decide +kernel
theorem dX5_cut_1 : decode cX5_cut 1 = .ok (.ifCond .lt 11, 3) := by decide +kernel
theorem dX5_cut_4 : decode cX5_cut 4 = .ok (.iload_n 1, 1) := by decide +kernel
theorem dX5_cut_5 : decode cX5_cut 5 = .ok (.aload_n 0, 1) := by decide +kernel
theorem dX5_cut_6 : decode cX5_cut 6 = .ok (.getfield 15, 3) := by decide +kernel
theorem dX5_cut_9 : decode cX5_cut 9 = .ok (.if_icmp .le 5, 3) := by decide +kernel
theorem dX5_cut_12 : decode cX5_cut 12 = .ok (.iconst 0, 1) := by decide +kernel
theorem dX5_cut_13 : decode cX5_cut 13 = .ok (.ireturn, 1) := by decide +kernel
theorem dX5_cut_14 : decode cX5_cut 14 = .ok (.aload_n 0, 1) := by decide +kernel
theorem dX5_cut_15 : decode cX5_cut 15 = .ok (.iload_n 1, 1) := by decide +kernel
theorem dX5_cut_16 : decode cX5_cut 16 = .ok (.putfield 15, 3) := by decide +kernel
theorem dX5_cut_19 : decode cX5_cut 19 = .ok (.iconst 1, 1) := by decide +kernel
theorem dX5_cut_20 : decode cX5_cut 20 = .ok (.ireturn, 1) := by decide +kernel
theorem dX5_clear_0 : decode cX5_clear 0 = .ok (.aload_n 0, 1) := by decide +kernel
theorem dX5_clear_1 : decode cX5_clear 1 = .ok (.iconst 0, 1) := by decide +kernel
theorem dX5_clear_2 : decode cX5_clear 2 = .ok (.putfield 15, 3) := by decide +kernel
theorem dX5_clear_5 : decode cX5_clear 5 = .ok (.return_, 1) := by decide +kernel
theorem dX5_signAt_0 : decode cX5_signAt 0 = .ok (.iload_n 1, 1) := by decide +kernel
theorem dX5_signAt_1 : decode cX5_signAt 1 = .ok (.ifCond .lt 20, 3) := by decide +kernel
theorem dX5_signAt_4 : decode cX5_signAt 4 = .ok (.iload_n 1, 1) := by decide +kernel
theorem dX5_signAt_5 : decode cX5_signAt 5 = .ok (.aload_n 0, 1) := by decide +kernel
theorem dX5_signAt_6 : decode cX5_signAt 6 = .ok (.getfield 15, 3) := by decide +kernel
theorem dX5_signAt_9 : decode cX5_signAt 9 = .ok (.if_icmp .ge 12, 3) := by decide +kernel
theorem dX5_signAt_12 : decode cX5_signAt 12 = .ok (.aload_n 0, 1) := by decide +kernel
theorem dX5_signAt_13 : decode cX5_signAt 13 = .ok (.getfield 9, 3) := by decide +kernel
theorem dX5_signAt_16 : decode cX5_signAt 16 = .ok (.iload_n 1, 1) := by decide +kernel
theorem dX5_signAt_17 : decode cX5_signAt 17 = .ok (.iaload, 1) := by decide +kernel
theorem dX5_signAt_18 : decode cX5_signAt 18 = .ok (.goto 4, 3) := by decide +kernel
theorem dX5_signAt_21 : decode cX5_signAt 21 = .ok (.iconst (-1), 1) := by decide +kernel
theorem dX5_signAt_22 : decode cX5_signAt 22 = .ok (.ireturn, 1) := by decide +kernel
theorem dX5_digitAt_0 : decode cX5_digitAt 0 = .ok (.aload_n 0, 1) := by decide +kernel
theorem dX5_digitAt_1 : decode cX5_digitAt 1 = .ok (.iload_n 1, 1) := by decide +kernel
theorem dX5_digitAt_2 : decode cX5_digitAt 2 = .ok (.invokevirtual 19, 3) := by decide +kernel
theorem dX5_digitAt_5 : decode cX5_digitAt 5 = .ok (.istore_n 2, 1) := by decide +kernel
theorem dX5_digitAt_6 : decode cX5_digitAt 6 = .ok (.iload_n 2, 1) := by decide +kernel
theorem dX5_digitAt_7 : decode cX5_digitAt 7 = .ok (.bipush 48, 2) := by decide +kernel
theorem dX5_digitAt_9 : decode cX5_digitAt 9 = .ok (.if_icmp .lt 16, 3) := by decide +kernel
theorem dX5_digitAt_12 : decode cX5_digitAt 12 = .ok (.iload_n 2, 1) := by decide +kernel
theorem dX5_digitAt_13 : decode cX5_digitAt 13 = .ok (.bipush 57, 2) := by decide +kernel
theorem dX5_digitAt_15 : decode cX5_digitAt 15 = .ok (.if_icmp .gt 10, 3) := by decide +kernel
theorem dX5_digitAt_18 : decode cX5_digitAt 18 = .ok (.iload_n 2, 1) := by decide +kernel
theorem dX5_digitAt_19 : decode cX5_digitAt 19 = .ok (.bipush 48, 2) := by decide +kernel
theorem dX5_digitAt_21 : decode cX5_digitAt 21 = .ok (.isub, 1) := by decide +kernel
theorem dX5_digitAt_22 : decode cX5_digitAt 22 = .ok (.goto 4, 3) := by decide +kernel
theorem dX5_digitAt_25 : decode cX5_digitAt 25 = .ok (.iconst (-1), 1) := by decide +kernel
theorem dX5_digitAt_26 : decode cX5_digitAt 26 = .ok (.ireturn, 1) := by decide +kernel
theorem dX5_numberAt_0 : decode cX5_numberAt 0 = .ok (.iconst 0, 1) := by decide +kernel
theorem dX5_numberAt_1 : decode cX5_numberAt 1 = .ok (.istore_n 3, 1) := by decide +kernel
theorem dX5_numberAt_2 : decode cX5_numberAt 2 = .ok (.iload_n 1, 1) := by decide +kernel
theorem dX5_numberAt_3 : decode cX5_numberAt 3 = .ok (.istore 4, 2) := by decide +kernel
theorem dX5_numberAt_5 : decode cX5_numberAt 5 = .ok (.iload 4, 2) := by decide +kernel
theorem dX5_numberAt_7 : decode cX5_numberAt 7 = .ok (.iload_n 1, 1) := by decide +kernel
theorem dX5_numberAt_8 : decode cX5_numberAt 8 = .ok (.iload_n 2, 1) := by decide +kernel
theorem dX5_numberAt_9 : decode cX5_numberAt 9 = .ok (.iadd, 1) := by decide +kernel
theorem dX5_numberAt_10 : decode cX5_numberAt 10 = .ok (.if_icmp .ge 35, 3) := by decide +kernel
theorem dX5_numberAt_13 : decode cX5_numberAt 13 = .ok (.aload_n 0, 1) := by decide +kernel
theorem dX5_numberAt_14 : decode cX5_numberAt 14 = .ok (.iload 4, 2) := by decide +kernel
theorem dX5_numberAt_16 : decode cX5_numberAt 16 = .ok (.invokevirtual 23, 3) := by decide +kernel
theorem dX5_numberAt_19 : decode cX5_numberAt 19 = .ok (.istore 5, 2) := by decide +kernel
theorem dX5_numberAt_21 : decode cX5_numberAt 21 = .ok (.iload 5, 2) := by decide +kernel
theorem dX5_numberAt_23 : decode cX5_numberAt 23 = .ok (.ifCond .ge 8, 3) := by decide +kernel
theorem dX5_numberAt_26 : decode cX5_numberAt 26 = .ok (.iconst (-1), 1) := by decide +kernel
theorem dX5_numberAt_27 : decode cX5_numberAt 27 = .ok (.iload 4, 2) := by decide +kernel
theorem dX5_numberAt_29 : decode cX5_numberAt 29 = .ok (.isub, 1) := by decide +kernel
theorem dX5_numberAt_30 : decode cX5_numberAt 30 = .ok (.ireturn, 1) := by decide +kernel
theorem dX5_numberAt_31 : decode cX5_numberAt 31 = .ok (.bipush 10, 2) := by decide +kernel
theorem dX5_numberAt_33 : decode cX5_numberAt 33 = .ok (.iload_n 3, 1) := by decide +kernel
theorem dX5_numberAt_34 : decode cX5_numberAt 34 = .ok (.imul, 1) := by decide +kernel
theorem dX5_numberAt_35 : decode cX5_numberAt 35 = .ok (.iload 5, 2) := by decide +kernel
theorem dX5_numberAt_37 : decode cX5_numberAt 37 = .ok (.iadd, 1) := by decide +kernel
theorem dX5_numberAt_38 : decode cX5_numberAt 38 = .ok (.istore_n 3, 1) := by decide +kernel
theorem dX5_numberAt_39 : decode cX5_numberAt 39 = .ok (.iinc 4 1, 3) := by decide +kernel
theorem dX5_numberAt_42 : decode cX5_numberAt 42 = .ok (.goto (-37), 3) := by decide +kernel
theorem dX5_numberAt_45 : decode cX5_numberAt 45 = .ok (.iload_n 3, 1) := by decide +kernel
theorem dX5_numberAt_46 : decode cX5_numberAt 46 = .ok (.ireturn, 1) := by decide +kernel
theorem dX6_init_0 : decode cX6_init 0 = .ok (.aload_n 0, 1) := by decide +kernel
theorem dX6_init_1 : decode cX6_init 1 = .ok (.invokespecial 3, 3) := by decide +kernel
theorem dX6_init_4 : decode cX6_init 4 = .ok (.aload_n 0, 1) := by decide +kernel
theorem dX6_init_5 : decode cX6_init 5 = .ok (.new 9, 3) := by decide +kernel
theorem dX6_init_8 : decode cX6_init 8 = .ok (.dup, 1) := by decide +kernel
theorem dX6_init_9 : decode cX6_init 9 = .ok (.invokespecial 11, 3) := by decide +kernel
theorem dX6_init_12 : decode cX6_init 12 = .ok (.putfield 12, 3) := by decide +kernel
theorem dX6_init_15 : decode cX6_init 15 = .ok (.aload_n 0, 1) := by decide +kernel
theorem dX6_init_16 : decode cX6_init 16 = .ok (.new 9, 3) := by decide +kernel
theorem dX6_init_19 : decode cX6_init 19 = .ok (.dup, 1) := by decide +kernel
theorem dX6_init_20 : decode cX6_init 20 = .ok (.invokespecial 11, 3) := by decide +kernel
theorem dX6_init_23 : decode cX6_init 23 = .ok (.putfield 16, 3) := by decide +kernel
theorem dX6_init_26 : decode cX6_init 26 = .ok (.aload_n 0, 1) := by decide +kernel
theorem dX6_init_27 : decode cX6_init 27 = .ok (.new 19, 3) := by decide +kernel
theorem dX6_init_30 : decode cX6_init 30 = .ok (.dup, 1) := by decide +kernel
theorem dX6_init_31 : decode cX6_init 31 = .ok (.invokespecial 21, 3) := by decide +kernel
theorem dX6_init_34 : decode cX6_init 34 = .ok (.putfield 22, 3) := by decide +kernel
theorem dX6_init_37 : decode cX6_init 37 = .ok (.aload_n 0, 1) := by decide +kernel
theorem dX6_init_38 : decode cX6_init 38 = .ok (.new 26, 3) := by decide +kernel
theorem dX6_init_41 : decode cX6_init 41 = .ok (.dup, 1) := by decide +kernel
theorem dX6_init_42 : decode cX6_init 42 = .ok (.invokespecial 28, 3) := by decide +kernel
theorem dX6_init_45 : decode cX6_init 45 = .ok (.putfield 29, 3) := by decide +kernel
theorem dX6_init_48 : decode cX6_init 48 = .ok (.aload_n 0, 1) := by decide +kernel
theorem dX6_init_49 : decode cX6_init 49 = .ok (.new 33, 3) := by decide +kernel
theorem dX6_init_52 : decode cX6_init 52 = .ok (.dup, 1) := by decide +kernel
theorem dX6_init_53 : decode cX6_init 53 = .ok (.invokespecial 35, 3) := by decide +kernel
theorem dX6_init_56 : decode cX6_init 56 = .ok (.putfield 36, 3) := by decide +kernel
theorem dX6_init_59 : decode cX6_init 59 = .ok (.aload_n 0, 1) := by decide +kernel
theorem dX6_init_60 : decode cX6_init 60 = .ok (.iconst 2, 1) := by decide +kernel
theorem dX6_init_61 : decode cX6_init 61 = .ok (.anewarray 9, 3) := by decide +kernel
theorem dX6_init_64 : decode cX6_init 64 = .ok (.putfield 40, 3) := by decide +kernel
theorem dX6_init_67 : decode cX6_init 67 = .ok (.iconst 0, 1) := by decide +kernel
theorem dX6_init_68 : decode cX6_init 68 = .ok (.istore_n 1, 1) := by decide +kernel
theorem dX6_init_69 : decode cX6_init 69 = .ok (.iload_n 1, 1) := by decide +kernel
theorem dX6_init_70 : decode cX6_init 70 = .ok (.iconst 2, 1) := by decide +kernel
theorem dX6_init_71 : decode cX6_init 71 = .ok (.if_icmp .ge 22, 3) := by decide +kernel
theorem dX6_init_74 : decode cX6_init 74 = .ok (.aload_n 0, 1) := by decide +kernel
theorem dX6_init_75 : decode cX6_init 75 = .ok (.getfield 40, 3) := by decide +kernel
theorem dX6_init_78 : decode cX6_init 78 = .ok (.iload_n 1, 1) := by decide +kernel
theorem dX6_init_79 : decode cX6_init 79 = .ok (.new 9, 3) := by decide +kernel
theorem dX6_init_82 : decode cX6_init 82 = .ok (.dup, 1) := by decide +kernel
theorem dX6_init_83 : decode cX6_init 83 = .ok (.invokespecial 11, 3) := by decide +kernel
theorem dX6_init_86 : decode cX6_init 86 = .ok (.aastore, 1) := by decide +kernel
theorem dX6_init_87 : decode cX6_init 87 = .ok (.iinc 1 1, 3) := by decide +kernel
theorem dX6_init_90 : decode cX6_init 90 = .ok (.goto (-21), 3) := by decide +kernel
theorem dX6_init_93 : decode cX6_init 93 = .ok (.aload_n 0, 1) := by decide +kernel
theorem dX6_init_94 : decode cX6_init 94 = .ok (.iconst 2, 1) := by decide +kernel
theorem dX6_init_95 : decode cX6_init 95 = .ok (.newarray .boolean, 2) := by decide +kernel
theorem dX6_init_97 : decode cX6_init 97 = .ok (.putfield 44, 3) := by decide +kernel
theorem dX6_init_100 : decode cX6_init 100 = .ok (.aload_n 0, 1) := by decide +kernel
theorem dX6_init_101 : decode cX6_init 101 = .ok (.new 48, 3) := by decide +kernel
theorem dX6_init_104 : decode cX6_init 104 = .ok (.dup, 1) := by decide +kernel
theorem dX6_init_105 : decode cX6_init 105 = .ok (.invokespecial 50, 3) := by decide +kernel
theorem dX6_init_108 : decode cX6_init 108 = .ok (.putfield 51, 3) := by decide +kernel
theorem dX6_init_111 : decode cX6_init 111 = .ok (.aload_n 0, 1) := by decide +kernel
theorem dX6_init_112 : decode cX6_init 112 = .ok (.new 55, 3) := by decide +kernel
theorem dX6_init_115 : decode cX6_init 115 = .ok (.dup, 1) := by decide +kernel
theorem dX6_init_116 : decode cX6_init 116 = .ok (.invokespecial 57, 3) := by decide +kernel
theorem dX6_init_119 : decode cX6_init 119 = .ok (.putfield 58, 3) := by decide +kernel
theorem dX6_init_122 : decode cX6_init 122 = .ok (.return_, 1) := by decide +kernel
theorem dX6_sign_0 : decode cX6_sign 0 = .ok (.aload_n 0, 1) := by decide +kernel
theorem dX6_sign_1 : decode cX6_sign 1 = .ok (.getfield 51, 3) := by decide +kernel
theorem dX6_sign_4 : decode cX6_sign 4 = .ok (.iload_n 1, 1) := by decide +kernel
theorem dX6_sign_5 : decode cX6_sign 5 = .ok (.invokevirtual 62, 3) := by decide +kernel
theorem dX6_sign_8 : decode cX6_sign 8 = .ok (.ifCond .eq 13, 3) := by decide +kernel
theorem dX6_sign_11 : decode cX6_sign 11 = .ok (.aload_n 0, 1) := by decide +kernel
theorem dX6_sign_12 : decode cX6_sign 12 = .ok (.getfield 51, 3) := by decide +kernel
theorem dX6_sign_15 : decode cX6_sign 15 = .ok (.getfield 66, 3) := by decide +kernel
theorem dX6_sign_18 : decode cX6_sign 18 = .ok (.goto 4, 3) := by decide +kernel
theorem dX6_sign_21 : decode cX6_sign 21 = .ok (.iconst (-1), 1) := by decide +kernel
theorem dX6_sign_22 : decode cX6_sign 22 = .ok (.ireturn, 1) := by decide +kernel
theorem dX6_end_0 : decode cX6_end 0 = .ok (.aload_n 0, 1) := by decide +kernel
theorem dX6_end_1 : decode cX6_end 1 = .ok (.getfield 51, 3) := by decide +kernel
theorem dX6_end_4 : decode cX6_end 4 = .ok (.iload_n 1, 1) := by decide +kernel
theorem dX6_end_5 : decode cX6_end 5 = .ok (.invokevirtual 70, 3) := by decide +kernel
theorem dX6_end_8 : decode cX6_end 8 = .ok (.ireturn, 1) := by decide +kernel
theorem dX6_words_0 : decode cX6_words 0 = .ok (.aload_n 0, 1) := by decide +kernel
theorem dX6_words_1 : decode cX6_words 1 = .ok (.getfield 36, 3) := by decide +kernel
theorem dX6_words_4 : decode cX6_words 4 = .ok (.aload_n 0, 1) := by decide +kernel
theorem dX6_words_5 : decode cX6_words 5 = .ok (.getfield 12, 3) := by decide +kernel
theorem dX6_words_8 : decode cX6_words 8 = .ok (.invokevirtual 73, 3) := by decide +kernel
theorem dX6_words_11 : decode cX6_words 11 = .ok (.iload_n 1, 1) := by decide +kernel
theorem dX6_words_12 : decode cX6_words 12 = .ok (.invokestatic 77, 3) := by decide +kernel
theorem dX6_words_15 : decode cX6_words 15 = .ok (.ifCond .eq 11, 3) := by decide +kernel
theorem dX6_words_18 : decode cX6_words 18 = .ok (.aload_n 0, 1) := by decide +kernel
theorem dX6_words_19 : decode cX6_words 19 = .ok (.iload_n 1, 1) := by decide +kernel
theorem dX6_words_20 : decode cX6_words 20 = .ok (.invokevirtual 80, 3) := by decide +kernel
theorem dX6_words_23 : decode cX6_words 23 = .ok (.goto 4, 3) := by decide +kernel
theorem dX6_words_26 : decode cX6_words 26 = .ok (.iconst (-1), 1) := by decide +kernel
theorem dX6_words_27 : decode cX6_words 27 = .ok (.istore_n 2, 1) := by decide +kernel
theorem dX6_words_28 : decode cX6_words 28 = .ok (.aload_n 0, 1) := by decide +kernel
theorem dX6_words_29 : decode cX6_words 29 = .ok (.getfield 51, 3) := by decide +kernel
theorem dX6_words_32 : decode cX6_words 32 = .ok (.invokevirtual 84, 3) := by decide +kernel
theorem dX6_words_35 : decode cX6_words 35 = .ok (.aload_n 0, 1) := by decide +kernel
theorem dX6_words_36 : decode cX6_words 36 = .ok (.iload_n 2, 1) := by decide +kernel
theorem dX6_words_37 : decode cX6_words 37 = .ok (.invokevirtual 87, 3) := by decide +kernel
theorem dX6_words_40 : decode cX6_words 40 = .ok (.ireturn, 1) := by decide +kernel
theorem dX6_ties_0 : decode cX6_ties 0 = .ok (.aload_n 0, 1) := by decide +kernel
theorem dX6_ties_1 : decode cX6_ties 1 = .ok (.getfield 36, 3) := by decide +kernel
theorem dX6_ties_4 : decode cX6_ties 4 = .ok (.aload_n 0, 1) := by decide +kernel
theorem dX6_ties_5 : decode cX6_ties 5 = .ok (.getfield 12, 3) := by decide +kernel
theorem dX6_ties_8 : decode cX6_ties 8 = .ok (.invokevirtual 73, 3) := by decide +kernel
theorem dX6_ties_11 : decode cX6_ties 11 = .ok (.aload_n 0, 1) := by decide +kernel
theorem dX6_ties_12 : decode cX6_ties 12 = .ok (.invokevirtual 90, 3) := by decide +kernel
theorem dX6_ties_15 : decode cX6_ties 15 = .ok (.istore_n 1, 1) := by decide +kernel
theorem dX6_ties_16 : decode cX6_ties 16 = .ok (.aload_n 0, 1) := by decide +kernel
theorem dX6_ties_17 : decode cX6_ties 17 = .ok (.getfield 51, 3) := by decide +kernel
theorem dX6_ties_20 : decode cX6_ties 20 = .ok (.invokevirtual 84, 3) := by decide +kernel
theorem dX6_ties_23 : decode cX6_ties 23 = .ok (.aload_n 0, 1) := by decide +kernel
theorem dX6_ties_24 : decode cX6_ties 24 = .ok (.iload_n 1, 1) := by decide +kernel
theorem dX6_ties_25 : decode cX6_ties 25 = .ok (.invokevirtual 87, 3) := by decide +kernel
theorem dX6_ties_28 : decode cX6_ties 28 = .ok (.ireturn, 1) := by decide +kernel
theorem dX6_sheet_0 : decode cX6_sheet 0 = .ok (.iload_n 1, 1) := by decide +kernel
theorem dX6_sheet_1 : decode cX6_sheet 1 = .ok (.invokestatic 77, 3) := by decide +kernel
theorem dX6_sheet_4 : decode cX6_sheet 4 = .ok (.ifCond .eq 19, 3) := by decide +kernel
theorem dX6_sheet_7 : decode cX6_sheet 7 = .ok (.iload_n 3, 1) := by decide +kernel
theorem dX6_sheet_8 : decode cX6_sheet 8 = .ok (.ifCond .lt 15, 3) := by decide +kernel
theorem dX6_sheet_11 : decode cX6_sheet 11 = .ok (.iload_n 3, 1) := by decide +kernel
theorem dX6_sheet_12 : decode cX6_sheet 12 = .ok (.iconst 3, 1) := by decide +kernel
theorem dX6_sheet_13 : decode cX6_sheet 13 = .ok (.if_icmp .gt 10, 3) := by decide +kernel
theorem dX6_sheet_16 : decode cX6_sheet 16 = .ok (.iload 4, 2) := by decide +kernel
theorem dX6_sheet_18 : decode cX6_sheet 18 = .ok (.bipush 70, 2) := by decide +kernel
theorem dX6_sheet_20 : decode cX6_sheet 20 = .ok (.if_icmp .le 5, 3) := by decide +kernel
theorem dX6_sheet_23 : decode cX6_sheet 23 = .ok (.iconst (-1), 1) := by decide +kernel
theorem dX6_sheet_24 : decode cX6_sheet 24 = .ok (.ireturn, 1) := by decide +kernel
theorem dX6_sheet_25 : decode cX6_sheet 25 = .ok (.iload_n 3, 1) := by decide +kernel
theorem dX6_sheet_26 : decode cX6_sheet 26 = .ok (.iconst 3, 1) := by decide +kernel
theorem dX6_sheet_27 : decode cX6_sheet 27 = .ok (.if_icmp .ne 6, 3) := by decide +kernel
theorem dX6_sheet_30 : decode cX6_sheet 30 = .ok (.bipush (-3), 2) := by decide +kernel
theorem dX6_sheet_32 : decode cX6_sheet 32 = .ok (.ireturn, 1) := by decide +kernel
theorem dX6_sheet_33 : decode cX6_sheet 33 = .ok (.iload 4, 2) := by decide +kernel
theorem dX6_sheet_35 : decode cX6_sheet 35 = .ok (.ifCond .ge 6, 3) := by decide +kernel
theorem dX6_sheet_38 : decode cX6_sheet 38 = .ok (.bipush (-2), 2) := by decide +kernel
theorem dX6_sheet_40 : decode cX6_sheet 40 = .ok (.ireturn, 1) := by decide +kernel
theorem dX6_sheet_41 : decode cX6_sheet 41 = .ok (.iconst 0, 1) := by decide +kernel
theorem dX6_sheet_42 : decode cX6_sheet 42 = .ok (.istore 7, 2) := by decide +kernel
theorem dX6_sheet_44 : decode cX6_sheet 44 = .ok (.iload 7, 2) := by decide +kernel
theorem dX6_sheet_46 : decode cX6_sheet 46 = .ok (.iload 4, 2) := by decide +kernel
theorem dX6_sheet_48 : decode cX6_sheet 48 = .ok (.if_icmp .ge 72, 3) := by decide +kernel
theorem dX6_sheet_51 : decode cX6_sheet 51 = .ok (.aload_n 0, 1) := by decide +kernel
theorem dX6_sheet_52 : decode cX6_sheet 52 = .ok (.getfield 12, 3) := by decide +kernel
theorem dX6_sheet_55 : decode cX6_sheet 55 = .ok (.iload_n 1, 1) := by decide +kernel
theorem dX6_sheet_56 : decode cX6_sheet 56 = .ok (.iload_n 2, 1) := by decide +kernel
theorem dX6_sheet_57 : decode cX6_sheet 57 = .ok (.iload 7, 2) := by decide +kernel
theorem dX6_sheet_59 : decode cX6_sheet 59 = .ok (.iadd, 1) := by decide +kernel
theorem dX6_sheet_60 : decode cX6_sheet 60 = .ok (.invokevirtual 94, 3) := by decide +kernel
theorem dX6_sheet_63 : decode cX6_sheet 63 = .ok (.ifCond .ne 7, 3) := by decide +kernel
theorem dX6_sheet_66 : decode cX6_sheet 66 = .ok (.iconst 1, 1) := by decide +kernel
theorem dX6_sheet_67 : decode cX6_sheet 67 = .ok (.goto 24, 3) := by decide +kernel
theorem dX6_sheet_70 : decode cX6_sheet 70 = .ok (.iload_n 3, 1) := by decide +kernel
theorem dX6_sheet_71 : decode cX6_sheet 71 = .ok (.iload 5, 2) := by decide +kernel
theorem dX6_sheet_73 : decode cX6_sheet 73 = .ok (.iload 6, 2) := by decide +kernel
theorem dX6_sheet_75 : decode cX6_sheet 75 = .ok (.iload 7, 2) := by decide +kernel
theorem dX6_sheet_77 : decode cX6_sheet 77 = .ok (.invokestatic 98, 3) := by decide +kernel
theorem dX6_sheet_80 : decode cX6_sheet 80 = .ok (.invokestatic 102, 3) := by decide +kernel
theorem dX6_sheet_83 : decode cX6_sheet 83 = .ok (.ifCond .ne 7, 3) := by decide +kernel
theorem dX6_sheet_86 : decode cX6_sheet 86 = .ok (.iconst 2, 1) := by decide +kernel
theorem dX6_sheet_87 : decode cX6_sheet 87 = .ok (.goto 4, 3) := by decide +kernel
theorem dX6_sheet_90 : decode cX6_sheet 90 = .ok (.iconst 0, 1) := by decide +kernel
theorem dX6_sheet_91 : decode cX6_sheet 91 = .ok (.istore 8, 2) := by decide +kernel
theorem dX6_sheet_93 : decode cX6_sheet 93 = .ok (.iload 8, 2) := by decide +kernel
theorem dX6_sheet_95 : decode cX6_sheet 95 = .ok (.ifCond .eq 19, 3) := by decide +kernel
theorem dX6_sheet_98 : decode cX6_sheet 98 = .ok (.aload_n 0, 1) := by decide +kernel
theorem dX6_sheet_99 : decode cX6_sheet 99 = .ok (.getfield 58, 3) := by decide +kernel
theorem dX6_sheet_102 : decode cX6_sheet 102 = .ok (.iload 7, 2) := by decide +kernel
theorem dX6_sheet_104 : decode cX6_sheet 104 = .ok (.i2l, 1) := by decide +kernel
theorem dX6_sheet_105 : decode cX6_sheet 105 = .ok (.iload 8, 2) := by decide +kernel
theorem dX6_sheet_107 : decode cX6_sheet 107 = .ok (.i2l, 1) := by decide +kernel
theorem dX6_sheet_108 : decode cX6_sheet 108 = .ok (.invokevirtual 105, 3) := by decide +kernel
theorem dX6_sheet_111 : decode cX6_sheet 111 = .ok (.bipush (-4), 2) := by decide +kernel
theorem dX6_sheet_113 : decode cX6_sheet 113 = .ok (.ireturn, 1) := by decide +kernel
theorem dX6_sheet_114 : decode cX6_sheet 114 = .ok (.iinc 7 1, 3) := by decide +kernel
theorem dX6_sheet_117 : decode cX6_sheet 117 = .ok (.goto (-73), 3) := by decide +kernel
theorem dX6_sheet_120 : decode cX6_sheet 120 = .ok (.iconst 0, 1) := by decide +kernel
theorem dX6_sheet_121 : decode cX6_sheet 121 = .ok (.istore 7, 2) := by decide +kernel
theorem dX6_sheet_123 : decode cX6_sheet 123 = .ok (.iconst 0, 1) := by decide +kernel
theorem dX6_sheet_124 : decode cX6_sheet 124 = .ok (.istore 8, 2) := by decide +kernel
theorem dX6_sheet_126 : decode cX6_sheet 126 = .ok (.iload 8, 2) := by decide +kernel
theorem dX6_sheet_128 : decode cX6_sheet 128 = .ok (.iload 4, 2) := by decide +kernel
theorem dX6_sheet_130 : decode cX6_sheet 130 = .ok (.if_icmp .ge 37, 3) := by decide +kernel
theorem dX6_sheet_133 : decode cX6_sheet 133 = .ok (.aload_n 0, 1) := by decide +kernel
theorem dX6_sheet_134 : decode cX6_sheet 134 = .ok (.getfield 12, 3) := by decide +kernel
theorem dX6_sheet_137 : decode cX6_sheet 137 = .ok (.iload_n 1, 1) := by decide +kernel
theorem dX6_sheet_138 : decode cX6_sheet 138 = .ok (.iload_n 2, 1) := by decide +kernel
theorem dX6_sheet_139 : decode cX6_sheet 139 = .ok (.iload 8, 2) := by decide +kernel
theorem dX6_sheet_141 : decode cX6_sheet 141 = .ok (.iadd, 1) := by decide +kernel
theorem dX6_sheet_142 : decode cX6_sheet 142 = .ok (.iload_n 3, 1) := by decide +kernel
theorem dX6_sheet_143 : decode cX6_sheet 143 = .ok (.iload 5, 2) := by decide +kernel
theorem dX6_sheet_145 : decode cX6_sheet 145 = .ok (.iload 6, 2) := by decide +kernel
theorem dX6_sheet_147 : decode cX6_sheet 147 = .ok (.iload 8, 2) := by decide +kernel
theorem dX6_sheet_149 : decode cX6_sheet 149 = .ok (.invokestatic 98, 3) := by decide +kernel
theorem dX6_sheet_152 : decode cX6_sheet 152 = .ok (.invokevirtual 109, 3) := by decide +kernel
theorem dX6_sheet_155 : decode cX6_sheet 155 = .ok (.ifCond .eq 6, 3) := by decide +kernel
theorem dX6_sheet_158 : decode cX6_sheet 158 = .ok (.iinc 7 1, 3) := by decide +kernel
theorem dX6_sheet_161 : decode cX6_sheet 161 = .ok (.iinc 8 1, 3) := by decide +kernel
theorem dX6_sheet_164 : decode cX6_sheet 164 = .ok (.goto (-38), 3) := by decide +kernel
theorem dX6_sheet_167 : decode cX6_sheet 167 = .ok (.iload 7, 2) := by decide +kernel
theorem dX6_sheet_169 : decode cX6_sheet 169 = .ok (.ireturn, 1) := by decide +kernel
theorem dX6_pages_0 : decode cX6_pages 0 = .ok (.aload_n 0, 1) := by decide +kernel
theorem dX6_pages_1 : decode cX6_pages 1 = .ok (.getfield 22, 3) := by decide +kernel
theorem dX6_pages_4 : decode cX6_pages 4 = .ok (.aload_n 0, 1) := by decide +kernel
theorem dX6_pages_5 : decode cX6_pages 5 = .ok (.getfield 12, 3) := by decide +kernel
theorem dX6_pages_8 : decode cX6_pages 8 = .ok (.invokevirtual 113, 3) := by decide +kernel
theorem dX6_pages_11 : decode cX6_pages 11 = .ok (.aload_n 0, 1) := by decide +kernel
theorem dX6_pages_12 : decode cX6_pages 12 = .ok (.getfield 22, 3) := by decide +kernel
theorem dX6_pages_15 : decode cX6_pages 15 = .ok (.aload_n 0, 1) := by decide +kernel
theorem dX6_pages_16 : decode cX6_pages 16 = .ok (.getfield 12, 3) := by decide +kernel
theorem dX6_pages_19 : decode cX6_pages 19 = .ok (.invokevirtual 116, 3) := by decide +kernel
theorem dX6_pages_22 : decode cX6_pages 22 = .ok (.istore_n 1, 1) := by decide +kernel
theorem dX6_pages_23 : decode cX6_pages 23 = .ok (.aload_n 0, 1) := by decide +kernel
theorem dX6_pages_24 : decode cX6_pages 24 = .ok (.getfield 58, 3) := by decide +kernel
theorem dX6_pages_27 : decode cX6_pages 27 = .ok (.iload_n 1, 1) := by decide +kernel
theorem dX6_pages_28 : decode cX6_pages 28 = .ok (.ifCond .ne 7, 3) := by decide +kernel
theorem dX6_pages_31 : decode cX6_pages 31 = .ok (.lconst 0, 1) := by decide +kernel
theorem dX6_pages_32 : decode cX6_pages 32 = .ok (.goto 23, 3) := by decide +kernel
theorem dX6_pages_35 : decode cX6_pages 35 = .ok (.aload_n 0, 1) := by decide +kernel
theorem dX6_pages_36 : decode cX6_pages 36 = .ok (.getfield 22, 3) := by decide +kernel
theorem dX6_pages_39 : decode cX6_pages 39 = .ok (.getfield 120, 3) := by decide +kernel
theorem dX6_pages_42 : decode cX6_pages 42 = .ok (.iload_n 1, 1) := by decide +kernel
theorem dX6_pages_43 : decode cX6_pages 43 = .ok (.iconst 1, 1) := by decide +kernel
theorem dX6_pages_44 : decode cX6_pages 44 = .ok (.isub, 1) := by decide +kernel
theorem dX6_pages_45 : decode cX6_pages 45 = .ok (.aload_n 0, 1) := by decide +kernel
theorem dX6_pages_46 : decode cX6_pages 46 = .ok (.getfield 12, 3) := by decide +kernel
theorem dX6_pages_49 : decode cX6_pages 49 = .ok (.getfield 123, 3) := by decide +kernel
theorem dX6_pages_52 : decode cX6_pages 52 = .ok (.imul, 1) := by decide +kernel
theorem dX6_pages_53 : decode cX6_pages 53 = .ok (.isub, 1) := by decide +kernel
theorem dX6_pages_54 : decode cX6_pages 54 = .ok (.i2l, 1) := by decide +kernel
theorem dX6_pages_55 : decode cX6_pages 55 = .ok (.invokevirtual 126, 3) := by decide +kernel
theorem dX6_pages_58 : decode cX6_pages 58 = .ok (.iload_n 1, 1) := by decide +kernel
theorem dX6_pages_59 : decode cX6_pages 59 = .ok (.ireturn, 1) := by decide +kernel
theorem dX6_part_0 : decode cX6_part 0 = .ok (.aload_n 0, 1) := by decide +kernel
theorem dX6_part_1 : decode cX6_part 1 = .ok (.iload_n 1, 1) := by decide +kernel
theorem dX6_part_2 : decode cX6_part 2 = .ok (.iload_n 2, 1) := by decide +kernel
theorem dX6_part_3 : decode cX6_part 3 = .ok (.invokevirtual 129, 3) := by decide +kernel
theorem dX6_part_6 : decode cX6_part 6 = .ok (.istore 4, 2) := by decide +kernel
theorem dX6_part_8 : decode cX6_part 8 = .ok (.iload 4, 2) := by decide +kernel
theorem dX6_part_10 : decode cX6_part 10 = .ok (.ifCond .lt 10, 3) := by decide +kernel
theorem dX6_part_13 : decode cX6_part 13 = .ok (.iload_n 3, 1) := by decide +kernel
theorem dX6_part_14 : decode cX6_part 14 = .ok (.invokestatic 77, 3) := by decide +kernel
theorem dX6_part_17 : decode cX6_part 17 = .ok (.ifCond .ne 5, 3) := by decide +kernel
theorem dX6_part_20 : decode cX6_part 20 = .ok (.iconst (-1), 1) := by decide +kernel
theorem dX6_part_21 : decode cX6_part 21 = .ok (.ireturn, 1) := by decide +kernel
theorem dX6_part_22 : decode cX6_part 22 = .ok (.aload_n 0, 1) := by decide +kernel
theorem dX6_part_23 : decode cX6_part 23 = .ok (.getfield 22, 3) := by decide +kernel
theorem dX6_part_26 : decode cX6_part 26 = .ok (.iload_n 3, 1) := by decide +kernel
theorem dX6_part_27 : decode cX6_part 27 = .ok (.iload 4, 2) := by decide +kernel
theorem dX6_part_29 : decode cX6_part 29 = .ok (.invokevirtual 133, 3) := by decide +kernel
theorem dX6_part_32 : decode cX6_part 32 = .ok (.istore 5, 2) := by decide +kernel
theorem dX6_part_34 : decode cX6_part 34 = .ok (.iload 5, 2) := by decide +kernel
theorem dX6_part_36 : decode cX6_part 36 = .ok (.ifCond .ne 6, 3) := by decide +kernel
theorem dX6_part_39 : decode cX6_part 39 = .ok (.bipush (-2), 2) := by decide +kernel
theorem dX6_part_41 : decode cX6_part 41 = .ok (.ireturn, 1) := by decide +kernel
theorem dX6_part_42 : decode cX6_part 42 = .ok (.aload_n 0, 1) := by decide +kernel
theorem dX6_part_43 : decode cX6_part 43 = .ok (.getfield 58, 3) := by decide +kernel
theorem dX6_part_46 : decode cX6_part 46 = .ok (.aload_n 0, 1) := by decide +kernel
theorem dX6_part_47 : decode cX6_part 47 = .ok (.getfield 22, 3) := by decide +kernel
theorem dX6_part_50 : decode cX6_part 50 = .ok (.getfield 136, 3) := by decide +kernel
theorem dX6_part_53 : decode cX6_part 53 = .ok (.iload_n 3, 1) := by decide +kernel
theorem dX6_part_54 : decode cX6_part 54 = .ok (.aaload, 1) := by decide +kernel
theorem dX6_part_55 : decode cX6_part 55 = .ok (.iload 4, 2) := by decide +kernel
theorem dX6_part_57 : decode cX6_part 57 = .ok (.iaload, 1) := by decide +kernel
theorem dX6_part_58 : decode cX6_part 58 = .ok (.i2l, 1) := by decide +kernel
theorem dX6_part_59 : decode cX6_part 59 = .ok (.aload_n 0, 1) := by decide +kernel
theorem dX6_part_60 : decode cX6_part 60 = .ok (.getfield 22, 3) := by decide +kernel
theorem dX6_part_63 : decode cX6_part 63 = .ok (.getfield 140, 3) := by decide +kernel
theorem dX6_part_66 : decode cX6_part 66 = .ok (.iload_n 3, 1) := by decide +kernel
theorem dX6_part_67 : decode cX6_part 67 = .ok (.aaload, 1) := by decide +kernel
theorem dX6_part_68 : decode cX6_part 68 = .ok (.iload 4, 2) := by decide +kernel
theorem dX6_part_70 : decode cX6_part 70 = .ok (.iaload, 1) := by decide +kernel
theorem dX6_part_71 : decode cX6_part 71 = .ok (.i2l, 1) := by decide +kernel
theorem dX6_part_72 : decode cX6_part 72 = .ok (.aload_n 0, 1) := by decide +kernel
theorem dX6_part_73 : decode cX6_part 73 = .ok (.getfield 22, 3) := by decide +kernel
theorem dX6_part_76 : decode cX6_part 76 = .ok (.getfield 143, 3) := by decide +kernel
theorem dX6_part_79 : decode cX6_part 79 = .ok (.iload_n 3, 1) := by decide +kernel
theorem dX6_part_80 : decode cX6_part 80 = .ok (.aaload, 1) := by decide +kernel
theorem dX6_part_81 : decode cX6_part 81 = .ok (.iload 4, 2) := by decide +kernel
theorem dX6_part_83 : decode cX6_part 83 = .ok (.iaload, 1) := by decide +kernel
theorem dX6_part_84 : decode cX6_part 84 = .ok (.i2l, 1) := by decide +kernel
theorem dX6_part_85 : decode cX6_part 85 = .ok (.aload_n 0, 1) := by decide +kernel
theorem dX6_part_86 : decode cX6_part 86 = .ok (.getfield 22, 3) := by decide +kernel
theorem dX6_part_89 : decode cX6_part 89 = .ok (.getfield 146, 3) := by decide +kernel
theorem dX6_part_92 : decode cX6_part 92 = .ok (.iload_n 3, 1) := by decide +kernel
theorem dX6_part_93 : decode cX6_part 93 = .ok (.aaload, 1) := by decide +kernel
theorem dX6_part_94 : decode cX6_part 94 = .ok (.iload 4, 2) := by decide +kernel
theorem dX6_part_96 : decode cX6_part 96 = .ok (.iaload, 1) := by decide +kernel
theorem dX6_part_97 : decode cX6_part 97 = .ok (.i2l, 1) := by decide +kernel
theorem dX6_part_98 : decode cX6_part 98 = .ok (.invokevirtual 149, 3) := by decide +kernel
theorem dX6_part_101 : decode cX6_part 101 = .ok (.iload 5, 2) := by decide +kernel
theorem dX6_part_103 : decode cX6_part 103 = .ok (.ireturn, 1) := by decide +kernel
theorem dX6_word_0 : decode cX6_word 0 = .ok (.aload_n 0, 1) := by decide +kernel
theorem dX6_word_1 : decode cX6_word 1 = .ok (.getfield 12, 3) := by decide +kernel
theorem dX6_word_4 : decode cX6_word 4 = .ok (.iload_n 1, 1) := by decide +kernel
theorem dX6_word_5 : decode cX6_word 5 = .ok (.iload_n 2, 1) := by decide +kernel
theorem dX6_word_6 : decode cX6_word 6 = .ok (.invokevirtual 94, 3) := by decide +kernel
theorem dX6_word_9 : decode cX6_word 9 = .ok (.ifCond .eq 12, 3) := by decide +kernel
theorem dX6_word_12 : decode cX6_word 12 = .ok (.iload_n 3, 1) := by decide +kernel
theorem dX6_word_13 : decode cX6_word 13 = .ok (.ifCond .lt 8, 3) := by decide +kernel
theorem dX6_word_16 : decode cX6_word 16 = .ok (.iload_n 3, 1) := by decide +kernel
theorem dX6_word_17 : decode cX6_word 17 = .ok (.iconst 4, 1) := by decide +kernel
theorem dX6_word_18 : decode cX6_word 18 = .ok (.if_icmp .le 11, 3) := by decide +kernel
theorem dX6_word_21 : decode cX6_word 21 = .ok (.new 152, 3) := by decide +kernel
theorem dX6_word_24 : decode cX6_word 24 = .ok (.dup, 1) := by decide +kernel
theorem dX6_word_25 : decode cX6_word 25 = .ok (.invokespecial 154, 3) := by decide +kernel
theorem dX6_word_28 : decode cX6_word 28 = .ok (.athrow, 1) := by decide +kernel
theorem dX6_word_29 : decode cX6_word 29 = .ok (.aload_n 0, 1) := by decide +kernel
theorem dX6_word_30 : decode cX6_word 30 = .ok (.getfield 22, 3) := by decide +kernel
theorem dX6_word_33 : decode cX6_word 33 = .ok (.aload_n 0, 1) := by decide +kernel
theorem dX6_word_34 : decode cX6_word 34 = .ok (.getfield 12, 3) := by decide +kernel
theorem dX6_word_37 : decode cX6_word 37 = .ok (.invokevirtual 113, 3) := by decide +kernel
theorem dX6_word_40 : decode cX6_word 40 = .ok (.aload_n 0, 1) := by decide +kernel
theorem dX6_word_41 : decode cX6_word 41 = .ok (.getfield 22, 3) := by decide +kernel
theorem dX6_word_44 : decode cX6_word 44 = .ok (.getfield 155, 3) := by decide +kernel
theorem dX6_word_47 : decode cX6_word 47 = .ok (.iload_n 1, 1) := by decide +kernel
theorem dX6_word_48 : decode cX6_word 48 = .ok (.aaload, 1) := by decide +kernel
theorem dX6_word_49 : decode cX6_word 49 = .ok (.iload_n 2, 1) := by decide +kernel
theorem dX6_word_50 : decode cX6_word 50 = .ok (.iaload, 1) := by decide +kernel
theorem dX6_word_51 : decode cX6_word 51 = .ok (.istore 4, 2) := by decide +kernel
theorem dX6_word_53 : decode cX6_word 53 = .ok (.iload_n 3, 1) := by decide +kernel
theorem dX6_word_54 : decode cX6_word 54 = .ok (.tableswitch 87 0 3 #[30, 40, 61, 75], 30) := by decide +kernel
theorem dX6_word_84 : decode cX6_word 84 = .ok (.aload_n 0, 1) := by decide +kernel
theorem dX6_word_85 : decode cX6_word 85 = .ok (.getfield 12, 3) := by decide +kernel
theorem dX6_word_88 : decode cX6_word 88 = .ok (.iload 4, 2) := by decide +kernel
theorem dX6_word_90 : decode cX6_word 90 = .ok (.invokevirtual 158, 3) := by decide +kernel
theorem dX6_word_93 : decode cX6_word 93 = .ok (.ireturn, 1) := by decide +kernel
theorem dX6_word_94 : decode cX6_word 94 = .ok (.iload 4, 2) := by decide +kernel
theorem dX6_word_96 : decode cX6_word 96 = .ok (.aload_n 0, 1) := by decide +kernel
theorem dX6_word_97 : decode cX6_word 97 = .ok (.getfield 12, 3) := by decide +kernel
theorem dX6_word_100 : decode cX6_word 100 = .ok (.iload 4, 2) := by decide +kernel
theorem dX6_word_102 : decode cX6_word 102 = .ok (.invokevirtual 158, 3) := by decide +kernel
theorem dX6_word_105 : decode cX6_word 105 = .ok (.aload_n 0, 1) := by decide +kernel
theorem dX6_word_106 : decode cX6_word 106 = .ok (.getfield 12, 3) := by decide +kernel
theorem dX6_word_109 : decode cX6_word 109 = .ok (.getfield 123, 3) := by decide +kernel
theorem dX6_word_112 : decode cX6_word 112 = .ok (.imul, 1) := by decide +kernel
theorem dX6_word_113 : decode cX6_word 113 = .ok (.isub, 1) := by decide +kernel
theorem dX6_word_114 : decode cX6_word 114 = .ok (.ireturn, 1) := by decide +kernel
theorem dX6_word_115 : decode cX6_word 115 = .ok (.aload_n 0, 1) := by decide +kernel
theorem dX6_word_116 : decode cX6_word 116 = .ok (.getfield 22, 3) := by decide +kernel
theorem dX6_word_119 : decode cX6_word 119 = .ok (.aload_n 0, 1) := by decide +kernel
theorem dX6_word_120 : decode cX6_word 120 = .ok (.getfield 12, 3) := by decide +kernel
theorem dX6_word_123 : decode cX6_word 123 = .ok (.iload_n 1, 1) := by decide +kernel
theorem dX6_word_124 : decode cX6_word 124 = .ok (.iload_n 2, 1) := by decide +kernel
theorem dX6_word_125 : decode cX6_word 125 = .ok (.invokevirtual 161, 3) := by decide +kernel
theorem dX6_word_128 : decode cX6_word 128 = .ok (.ireturn, 1) := by decide +kernel
theorem dX6_word_129 : decode cX6_word 129 = .ok (.aload_n 0, 1) := by decide +kernel
theorem dX6_word_130 : decode cX6_word 130 = .ok (.getfield 12, 3) := by decide +kernel
theorem dX6_word_133 : decode cX6_word 133 = .ok (.getfield 165, 3) := by decide +kernel
theorem dX6_word_136 : decode cX6_word 136 = .ok (.iload_n 1, 1) := by decide +kernel
theorem dX6_word_137 : decode cX6_word 137 = .ok (.aaload, 1) := by decide +kernel
theorem dX6_word_138 : decode cX6_word 138 = .ok (.iload_n 2, 1) := by decide +kernel
theorem dX6_word_139 : decode cX6_word 139 = .ok (.iaload, 1) := by decide +kernel
theorem dX6_word_140 : decode cX6_word 140 = .ok (.ireturn, 1) := by decide +kernel
theorem dX6_word_141 : decode cX6_word 141 = .ok (.iload_n 2, 1) := by decide +kernel
theorem dX6_word_142 : decode cX6_word 142 = .ok (.aload_n 0, 1) := by decide +kernel
theorem dX6_word_143 : decode cX6_word 143 = .ok (.getfield 22, 3) := by decide +kernel
theorem dX6_word_146 : decode cX6_word 146 = .ok (.getfield 136, 3) := by decide +kernel
theorem dX6_word_149 : decode cX6_word 149 = .ok (.iload_n 1, 1) := by decide +kernel
theorem dX6_word_150 : decode cX6_word 150 = .ok (.aaload, 1) := by decide +kernel
theorem dX6_word_151 : decode cX6_word 151 = .ok (.iload 4, 2) := by decide +kernel
theorem dX6_word_153 : decode cX6_word 153 = .ok (.iaload, 1) := by decide +kernel
theorem dX6_word_154 : decode cX6_word 154 = .ok (.isub, 1) := by decide +kernel
theorem dX6_word_155 : decode cX6_word 155 = .ok (.ireturn, 1) := by decide +kernel
theorem dX6_at_0 : decode cX6_at 0 = .ok (.aload_n 0, 1) := by decide +kernel
theorem dX6_at_1 : decode cX6_at 1 = .ok (.iload_n 1, 1) := by decide +kernel
theorem dX6_at_2 : decode cX6_at 2 = .ok (.iload_n 2, 1) := by decide +kernel
theorem dX6_at_3 : decode cX6_at 3 = .ok (.invokevirtual 129, 3) := by decide +kernel
theorem dX6_at_6 : decode cX6_at 6 = .ok (.istore 4, 2) := by decide +kernel
theorem dX6_at_8 : decode cX6_at 8 = .ok (.iload 4, 2) := by decide +kernel
theorem dX6_at_10 : decode cX6_at 10 = .ok (.ifCond .lt 18, 3) := by decide +kernel
theorem dX6_at_13 : decode cX6_at 13 = .ok (.iload_n 3, 1) := by decide +kernel
theorem dX6_at_14 : decode cX6_at 14 = .ok (.ifCond .lt 14, 3) := by decide +kernel
theorem dX6_at_17 : decode cX6_at 17 = .ok (.iload_n 3, 1) := by decide +kernel
theorem dX6_at_18 : decode cX6_at 18 = .ok (.aload_n 0, 1) := by decide +kernel
theorem dX6_at_19 : decode cX6_at 19 = .ok (.getfield 12, 3) := by decide +kernel
theorem dX6_at_22 : decode cX6_at 22 = .ok (.getfield 168, 3) := by decide +kernel
theorem dX6_at_25 : decode cX6_at 25 = .ok (.if_icmp .lt 5, 3) := by decide +kernel
theorem dX6_at_28 : decode cX6_at 28 = .ok (.iconst (-1), 1) := by decide +kernel
theorem dX6_at_29 : decode cX6_at 29 = .ok (.ireturn, 1) := by decide +kernel
theorem dX6_at_30 : decode cX6_at 30 = .ok (.iconst 0, 1) := by decide +kernel
theorem dX6_at_31 : decode cX6_at 31 = .ok (.istore 5, 2) := by decide +kernel
theorem dX6_at_33 : decode cX6_at 33 = .ok (.iload 5, 2) := by decide +kernel
theorem dX6_at_35 : decode cX6_at 35 = .ok (.iconst 3, 1) := by decide +kernel
theorem dX6_at_36 : decode cX6_at 36 = .ok (.if_icmp .ge 117, 3) := by decide +kernel
theorem dX6_at_39 : decode cX6_at 39 = .ok (.aload_n 0, 1) := by decide +kernel
theorem dX6_at_40 : decode cX6_at 40 = .ok (.getfield 22, 3) := by decide +kernel
theorem dX6_at_43 : decode cX6_at 43 = .ok (.iload 5, 2) := by decide +kernel
theorem dX6_at_45 : decode cX6_at 45 = .ok (.iload 4, 2) := by decide +kernel
theorem dX6_at_47 : decode cX6_at 47 = .ok (.invokevirtual 133, 3) := by decide +kernel
theorem dX6_at_50 : decode cX6_at 50 = .ok (.istore 6, 2) := by decide +kernel
theorem dX6_at_52 : decode cX6_at 52 = .ok (.iconst 0, 1) := by decide +kernel
theorem dX6_at_53 : decode cX6_at 53 = .ok (.istore 7, 2) := by decide +kernel
theorem dX6_at_55 : decode cX6_at 55 = .ok (.iload 7, 2) := by decide +kernel
theorem dX6_at_57 : decode cX6_at 57 = .ok (.iload 6, 2) := by decide +kernel
theorem dX6_at_59 : decode cX6_at 59 = .ok (.if_icmp .ge 88, 3) := by decide +kernel
theorem dX6_at_62 : decode cX6_at 62 = .ok (.aload_n 0, 1) := by decide +kernel
theorem dX6_at_63 : decode cX6_at 63 = .ok (.getfield 22, 3) := by decide +kernel
theorem dX6_at_66 : decode cX6_at 66 = .ok (.getfield 136, 3) := by decide +kernel
theorem dX6_at_69 : decode cX6_at 69 = .ok (.iload 5, 2) := by decide +kernel
theorem dX6_at_71 : decode cX6_at 71 = .ok (.aaload, 1) := by decide +kernel
theorem dX6_at_72 : decode cX6_at 72 = .ok (.iload 4, 2) := by decide +kernel
theorem dX6_at_74 : decode cX6_at 74 = .ok (.iaload, 1) := by decide +kernel
theorem dX6_at_75 : decode cX6_at 75 = .ok (.iload 7, 2) := by decide +kernel
theorem dX6_at_77 : decode cX6_at 77 = .ok (.iadd, 1) := by decide +kernel
theorem dX6_at_78 : decode cX6_at 78 = .ok (.istore 8, 2) := by decide +kernel
theorem dX6_at_80 : decode cX6_at 80 = .ok (.iload_n 3, 1) := by decide +kernel
theorem dX6_at_81 : decode cX6_at 81 = .ok (.aload_n 0, 1) := by decide +kernel
theorem dX6_at_82 : decode cX6_at 82 = .ok (.getfield 22, 3) := by decide +kernel
theorem dX6_at_85 : decode cX6_at 85 = .ok (.aload_n 0, 1) := by decide +kernel
theorem dX6_at_86 : decode cX6_at 86 = .ok (.getfield 12, 3) := by decide +kernel
theorem dX6_at_89 : decode cX6_at 89 = .ok (.iload 5, 2) := by decide +kernel
theorem dX6_at_91 : decode cX6_at 91 = .ok (.iload 8, 2) := by decide +kernel
theorem dX6_at_93 : decode cX6_at 93 = .ok (.invokevirtual 161, 3) := by decide +kernel
theorem dX6_at_96 : decode cX6_at 96 = .ok (.isub, 1) := by decide +kernel
theorem dX6_at_97 : decode cX6_at 97 = .ok (.istore 9, 2) := by decide +kernel
theorem dX6_at_99 : decode cX6_at 99 = .ok (.iload 9, 2) := by decide +kernel
theorem dX6_at_101 : decode cX6_at 101 = .ok (.ifCond .lt 40, 3) := by decide +kernel
theorem dX6_at_104 : decode cX6_at 104 = .ok (.iload 9, 2) := by decide +kernel
theorem dX6_at_106 : decode cX6_at 106 = .ok (.aload_n 0, 1) := by decide +kernel
theorem dX6_at_107 : decode cX6_at 107 = .ok (.getfield 12, 3) := by decide +kernel
theorem dX6_at_110 : decode cX6_at 110 = .ok (.getfield 165, 3) := by decide +kernel
theorem dX6_at_113 : decode cX6_at 113 = .ok (.iload 5, 2) := by decide +kernel
theorem dX6_at_115 : decode cX6_at 115 = .ok (.aaload, 1) := by decide +kernel
theorem dX6_at_116 : decode cX6_at 116 = .ok (.iload 8, 2) := by decide +kernel
theorem dX6_at_118 : decode cX6_at 118 = .ok (.iaload, 1) := by decide +kernel
theorem dX6_at_119 : decode cX6_at 119 = .ok (.if_icmp .ge 22, 3) := by decide +kernel
theorem dX6_at_122 : decode cX6_at 122 = .ok (.aload_n 0, 1) := by decide +kernel
theorem dX6_at_123 : decode cX6_at 123 = .ok (.getfield 58, 3) := by decide +kernel
theorem dX6_at_126 : decode cX6_at 126 = .ok (.iload 9, 2) := by decide +kernel
theorem dX6_at_128 : decode cX6_at 128 = .ok (.i2l, 1) := by decide +kernel
theorem dX6_at_129 : decode cX6_at 129 = .ok (.invokevirtual 126, 3) := by decide +kernel
theorem dX6_at_132 : decode cX6_at 132 = .ok (.bipush 100, 2) := by decide +kernel
theorem dX6_at_134 : decode cX6_at 134 = .ok (.iload 5, 2) := by decide +kernel
theorem dX6_at_136 : decode cX6_at 136 = .ok (.imul, 1) := by decide +kernel
theorem dX6_at_137 : decode cX6_at 137 = .ok (.iload 8, 2) := by decide +kernel
theorem dX6_at_139 : decode cX6_at 139 = .ok (.iadd, 1) := by decide +kernel
theorem dX6_at_140 : decode cX6_at 140 = .ok (.ireturn, 1) := by decide +kernel
theorem dX6_at_141 : decode cX6_at 141 = .ok (.iinc 7 1, 3) := by decide +kernel
theorem dX6_at_144 : decode cX6_at 144 = .ok (.goto (-89), 3) := by decide +kernel
theorem dX6_at_147 : decode cX6_at 147 = .ok (.iinc 5 1, 3) := by decide +kernel
theorem dX6_at_150 : decode cX6_at 150 = .ok (.goto (-117), 3) := by decide +kernel
theorem dX6_at_153 : decode cX6_at 153 = .ok (.bipush (-2), 2) := by decide +kernel
theorem dX6_at_155 : decode cX6_at 155 = .ok (.ireturn, 1) := by decide +kernel
theorem dX6_ends_0 : decode cX6_ends 0 = .ok (.iload_n 1, 1) := by decide +kernel
theorem dX6_ends_1 : decode cX6_ends 1 = .ok (.invokestatic 77, 3) := by decide +kernel
theorem dX6_ends_4 : decode cX6_ends 4 = .ok (.ifCond .ne 5, 3) := by decide +kernel
theorem dX6_ends_7 : decode cX6_ends 7 = .ok (.iconst (-1), 1) := by decide +kernel
theorem dX6_ends_8 : decode cX6_ends 8 = .ok (.ireturn, 1) := by decide +kernel
theorem dX6_ends_9 : decode cX6_ends 9 = .ok (.aload_n 0, 1) := by decide +kernel
theorem dX6_ends_10 : decode cX6_ends 10 = .ok (.getfield 22, 3) := by decide +kernel
theorem dX6_ends_13 : decode cX6_ends 13 = .ok (.aload_n 0, 1) := by decide +kernel
theorem dX6_ends_14 : decode cX6_ends 14 = .ok (.getfield 12, 3) := by decide +kernel
theorem dX6_ends_17 : decode cX6_ends 17 = .ok (.invokevirtual 113, 3) := by decide +kernel
theorem dX6_ends_20 : decode cX6_ends 20 = .ok (.aload_n 0, 1) := by decide +kernel
theorem dX6_ends_21 : decode cX6_ends 21 = .ok (.getfield 58, 3) := by decide +kernel
theorem dX6_ends_24 : decode cX6_ends 24 = .ok (.aload_n 0, 1) := by decide +kernel
