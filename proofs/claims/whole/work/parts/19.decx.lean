theorem dX1_init_0 : decode cX1_init 0 = .ok (.aload_n 0, 1) := by decide +kernel
theorem dX1_init_1 : decode cX1_init 1 = .ok (.invokespecial 3, 3) := by decide +kernel
theorem dX1_init_4 : decode cX1_init 4 = .ok (.aload_n 0, 1) := by decide +kernel
theorem dX1_init_5 : decode cX1_init 5 = .ok (.iconst 4, 1) := by decide +kernel
theorem dX1_init_6 : decode cX1_init 6 = .ok (.newarray .int, 2) := by decide +kernel
theorem dX1_init_8 : decode cX1_init 8 = .ok (.dup, 1) := by decide +kernel
theorem dX1_init_9 : decode cX1_init 9 = .ok (.iconst 0, 1) := by decide +kernel
theorem dX1_init_10 : decode cX1_init 10 = .ok (.bipush 10, 2) := by decide +kernel
theorem dX1_init_12 : decode cX1_init 12 = .ok (.iastore, 1) := by decide +kernel
theorem dX1_init_13 : decode cX1_init 13 = .ok (.dup, 1) := by decide +kernel
theorem dX1_init_14 : decode cX1_init 14 = .ok (.iconst 1, 1) := by decide +kernel
theorem dX1_init_15 : decode cX1_init 15 = .ok (.bipush 12, 2) := by decide +kernel
theorem dX1_init_17 : decode cX1_init 17 = .ok (.iastore, 1) := by decide +kernel
theorem dX1_init_18 : decode cX1_init 18 = .ok (.dup, 1) := by decide +kernel
theorem dX1_init_19 : decode cX1_init 19 = .ok (.iconst 2, 1) := by decide +kernel
theorem dX1_init_20 : decode cX1_init 20 = .ok (.bipush 14, 2) := by decide +kernel
theorem dX1_init_22 : decode cX1_init 22 = .ok (.iastore, 1) := by decide +kernel
theorem dX1_init_23 : decode cX1_init 23 = .ok (.dup, 1) := by decide +kernel
theorem dX1_init_24 : decode cX1_init 24 = .ok (.iconst 3, 1) := by decide +kernel
theorem dX1_init_25 : decode cX1_init 25 = .ok (.bipush 7, 2) := by decide +kernel
theorem dX1_init_27 : decode cX1_init 27 = .ok (.iastore, 1) := by decide +kernel
theorem dX1_init_28 : decode cX1_init 28 = .ok (.putfield 9, 3) := by decide +kernel
theorem dX1_init_31 : decode cX1_init 31 = .ok (.aload_n 0, 1) := by decide +kernel
theorem dX1_init_32 : decode cX1_init 32 = .ok (.iconst 4, 1) := by decide +kernel
theorem dX1_init_33 : decode cX1_init 33 = .ok (.newarray .int, 2) := by decide +kernel
theorem dX1_init_35 : decode cX1_init 35 = .ok (.dup, 1) := by decide +kernel
theorem dX1_init_36 : decode cX1_init 36 = .ok (.iconst 0, 1) := by decide +kernel
theorem dX1_init_37 : decode cX1_init 37 = .ok (.bipush 14, 2) := by decide +kernel
theorem dX1_init_39 : decode cX1_init 39 = .ok (.iastore, 1) := by decide +kernel
theorem dX1_init_40 : decode cX1_init 40 = .ok (.dup, 1) := by decide +kernel
theorem dX1_init_41 : decode cX1_init 41 = .ok (.iconst 1, 1) := by decide +kernel
theorem dX1_init_42 : decode cX1_init 42 = .ok (.bipush 16, 2) := by decide +kernel
theorem dX1_init_44 : decode cX1_init 44 = .ok (.iastore, 1) := by decide +kernel
theorem dX1_init_45 : decode cX1_init 45 = .ok (.dup, 1) := by decide +kernel
theorem dX1_init_46 : decode cX1_init 46 = .ok (.iconst 2, 1) := by decide +kernel
theorem dX1_init_47 : decode cX1_init 47 = .ok (.bipush 19, 2) := by decide +kernel
theorem dX1_init_49 : decode cX1_init 49 = .ok (.iastore, 1) := by decide +kernel
theorem dX1_init_50 : decode cX1_init 50 = .ok (.dup, 1) := by decide +kernel
theorem dX1_init_51 : decode cX1_init 51 = .ok (.iconst 3, 1) := by decide +kernel
theorem dX1_init_52 : decode cX1_init 52 = .ok (.bipush 9, 2) := by decide +kernel
theorem dX1_init_54 : decode cX1_init 54 = .ok (.iastore, 1) := by decide +kernel
theorem dX1_init_55 : decode cX1_init 55 = .ok (.putfield 15, 3) := by decide +kernel
theorem dX1_init_58 : decode cX1_init 58 = .ok (.aload_n 0, 1) := by decide +kernel
theorem dX1_init_59 : decode cX1_init 59 = .ok (.iconst 4, 1) := by decide +kernel
theorem dX1_init_60 : decode cX1_init 60 = .ok (.newarray .int, 2) := by decide +kernel
theorem dX1_init_62 : decode cX1_init 62 = .ok (.dup, 1) := by decide +kernel
theorem dX1_init_63 : decode cX1_init 63 = .ok (.iconst 0, 1) := by decide +kernel
theorem dX1_init_64 : decode cX1_init 64 = .ok (.iconst 1, 1) := by decide +kernel
theorem dX1_init_65 : decode cX1_init 65 = .ok (.iastore, 1) := by decide +kernel
theorem dX1_init_66 : decode cX1_init 66 = .ok (.dup, 1) := by decide +kernel
theorem dX1_init_67 : decode cX1_init 67 = .ok (.iconst 1, 1) := by decide +kernel
theorem dX1_init_68 : decode cX1_init 68 = .ok (.iconst 1, 1) := by decide +kernel
theorem dX1_init_69 : decode cX1_init 69 = .ok (.iastore, 1) := by decide +kernel
theorem dX1_init_70 : decode cX1_init 70 = .ok (.dup, 1) := by decide +kernel
theorem dX1_init_71 : decode cX1_init 71 = .ok (.iconst 2, 1) := by decide +kernel
theorem dX1_init_72 : decode cX1_init 72 = .ok (.iconst 1, 1) := by decide +kernel
theorem dX1_init_73 : decode cX1_init 73 = .ok (.iastore, 1) := by decide +kernel
theorem dX1_init_74 : decode cX1_init 74 = .ok (.dup, 1) := by decide +kernel
theorem dX1_init_75 : decode cX1_init 75 = .ok (.iconst 3, 1) := by decide +kernel
theorem dX1_init_76 : decode cX1_init 76 = .ok (.iconst 1, 1) := by decide +kernel
theorem dX1_init_77 : decode cX1_init 77 = .ok (.iastore, 1) := by decide +kernel
theorem dX1_init_78 : decode cX1_init 78 = .ok (.putfield 18, 3) := by decide +kernel
theorem dX1_init_81 : decode cX1_init 81 = .ok (.aload_n 0, 1) := by decide +kernel
theorem dX1_init_82 : decode cX1_init 82 = .ok (.bipush 6, 2) := by decide +kernel
theorem dX1_init_84 : decode cX1_init 84 = .ok (.anewarray 21, 3) := by decide +kernel
theorem dX1_init_87 : decode cX1_init 87 = .ok (.putfield 23, 3) := by decide +kernel
theorem dX1_init_90 : decode cX1_init 90 = .ok (.aload_n 0, 1) := by decide +kernel
theorem dX1_init_91 : decode cX1_init 91 = .ok (.bipush 6, 2) := by decide +kernel
theorem dX1_init_93 : decode cX1_init 93 = .ok (.newarray .int, 2) := by decide +kernel
theorem dX1_init_95 : decode cX1_init 95 = .ok (.putfield 27, 3) := by decide +kernel
theorem dX1_init_98 : decode cX1_init 98 = .ok (.aload_n 0, 1) := by decide +kernel
theorem dX1_init_99 : decode cX1_init 99 = .ok (.bipush 6, 2) := by decide +kernel
theorem dX1_init_101 : decode cX1_init 101 = .ok (.newarray .int, 2) := by decide +kernel
theorem dX1_init_103 : decode cX1_init 103 = .ok (.putfield 30, 3) := by decide +kernel
theorem dX1_init_106 : decode cX1_init 106 = .ok (.aload_n 0, 1) := by decide +kernel
theorem dX1_init_107 : decode cX1_init 107 = .ok (.bipush 6, 2) := by decide +kernel
theorem dX1_init_109 : decode cX1_init 109 = .ok (.newarray .int, 2) := by decide +kernel
theorem dX1_init_111 : decode cX1_init 111 = .ok (.putfield 33, 3) := by decide +kernel
theorem dX1_init_114 : decode cX1_init 114 = .ok (.aload_n 0, 1) := by decide +kernel
theorem dX1_init_115 : decode cX1_init 115 = .ok (.iconst 4, 1) := by decide +kernel
theorem dX1_init_116 : decode cX1_init 116 = .ok (.newarray .int, 2) := by decide +kernel
theorem dX1_init_118 : decode cX1_init 118 = .ok (.putfield 36, 3) := by decide +kernel
theorem dX1_init_121 : decode cX1_init 121 = .ok (.aload_n 0, 1) := by decide +kernel
theorem dX1_init_122 : decode cX1_init 122 = .ok (.iconst 4, 1) := by decide +kernel
theorem dX1_init_123 : decode cX1_init 123 = .ok (.newarray .int, 2) := by decide +kernel
theorem dX1_init_125 : decode cX1_init 125 = .ok (.putfield 39, 3) := by decide +kernel
theorem dX1_init_128 : decode cX1_init 128 = .ok (.aload_n 0, 1) := by decide +kernel
theorem dX1_init_129 : decode cX1_init 129 = .ok (.iconst 0, 1) := by decide +kernel
theorem dX1_init_130 : decode cX1_init 130 = .ok (.putfield 42, 3) := by decide +kernel
theorem dX1_init_133 : decode cX1_init 133 = .ok (.aload_n 0, 1) := by decide +kernel
theorem dX1_init_134 : decode cX1_init 134 = .ok (.iconst 0, 1) := by decide +kernel
theorem dX1_init_135 : decode cX1_init 135 = .ok (.putfield 46, 3) := by decide +kernel
theorem dX1_init_138 : decode cX1_init 138 = .ok (.aload_n 0, 1) := by decide +kernel
theorem dX1_init_139 : decode cX1_init 139 = .ok (.iconst 0, 1) := by decide +kernel
theorem dX1_init_140 : decode cX1_init 140 = .ok (.putfield 49, 3) := by decide +kernel
theorem dX1_init_143 : decode cX1_init 143 = .ok (.aload_n 0, 1) := by decide +kernel
theorem dX1_init_144 : decode cX1_init 144 = .ok (.aconst_null, 1) := by decide +kernel
theorem dX1_init_145 : decode cX1_init 145 = .ok (.putfield 52, 3) := by decide +kernel
theorem dX1_init_148 : decode cX1_init 148 = .ok (.aload_n 0, 1) := by decide +kernel
theorem dX1_init_149 : decode cX1_init 149 = .ok (.iconst (-1), 1) := by decide +kernel
theorem dX1_init_150 : decode cX1_init 150 = .ok (.putfield 56, 3) := by decide +kernel
theorem dX1_init_153 : decode cX1_init 153 = .ok (.aload_n 0, 1) := by decide +kernel
theorem dX1_init_154 : decode cX1_init 154 = .ok (.iconst 0, 1) := by decide +kernel
theorem dX1_init_155 : decode cX1_init 155 = .ok (.putfield 59, 3) := by decide +kernel
theorem dX1_init_158 : decode cX1_init 158 = .ok (.aload_n 0, 1) := by decide +kernel
theorem dX1_init_159 : decode cX1_init 159 = .ok (.iconst 0, 1) := by decide +kernel
theorem dX1_init_160 : decode cX1_init 160 = .ok (.putfield 62, 3) := by decide +kernel
theorem dX1_init_163 : decode cX1_init 163 = .ok (.aload_n 0, 1) := by decide +kernel
theorem dX1_init_164 : decode cX1_init 164 = .ok (.iconst 0, 1) := by decide +kernel
theorem dX1_init_165 : decode cX1_init 165 = .ok (.putfield 65, 3) := by decide +kernel
theorem dX1_init_168 : decode cX1_init 168 = .ok (.aload_n 0, 1) := by decide +kernel
theorem dX1_init_169 : decode cX1_init 169 = .ok (.aconst_null, 1) := by decide +kernel
theorem dX1_init_170 : decode cX1_init 170 = .ok (.putfield 68, 3) := by decide +kernel
theorem dX1_init_173 : decode cX1_init 173 = .ok (.aload_n 0, 1) := by decide +kernel
theorem dX1_init_174 : decode cX1_init 174 = .ok (.new 72, 3) := by decide +kernel
theorem dX1_init_177 : decode cX1_init 177 = .ok (.dup, 1) := by decide +kernel
theorem dX1_init_178 : decode cX1_init 178 = .ok (.invokespecial 74, 3) := by decide +kernel
theorem dX1_init_181 : decode cX1_init 181 = .ok (.putfield 75, 3) := by decide +kernel
theorem dX1_init_184 : decode cX1_init 184 = .ok (.aload_n 0, 1) := by decide +kernel
theorem dX1_init_185 : decode cX1_init 185 = .ok (.bipush 6, 2) := by decide +kernel
theorem dX1_init_187 : decode cX1_init 187 = .ok (.newarray .int, 2) := by decide +kernel
theorem dX1_init_189 : decode cX1_init 189 = .ok (.putfield 79, 3) := by decide +kernel
theorem dX1_init_192 : decode cX1_init 192 = .ok (.return_, 1) := by decide +kernel
theorem dX1_rowAt_0 : decode cX1_rowAt 0 = .ok (.iload_n 1, 1) := by decide +kernel
theorem dX1_rowAt_1 : decode cX1_rowAt 1 = .ok (.ifCond .lt 20, 3) := by decide +kernel
theorem dX1_rowAt_4 : decode cX1_rowAt 4 = .ok (.iload_n 1, 1) := by decide +kernel
theorem dX1_rowAt_5 : decode cX1_rowAt 5 = .ok (.aload_n 0, 1) := by decide +kernel
theorem dX1_rowAt_6 : decode cX1_rowAt 6 = .ok (.getfield 42, 3) := by decide +kernel
theorem dX1_rowAt_9 : decode cX1_rowAt 9 = .ok (.if_icmp .ge 12, 3) := by decide +kernel
theorem dX1_rowAt_12 : decode cX1_rowAt 12 = .ok (.aload_n 0, 1) := by decide +kernel
theorem dX1_rowAt_13 : decode cX1_rowAt 13 = .ok (.getfield 23, 3) := by decide +kernel
theorem dX1_rowAt_16 : decode cX1_rowAt 16 = .ok (.iload_n 1, 1) := by decide +kernel
theorem dX1_rowAt_17 : decode cX1_rowAt 17 = .ok (.aaload, 1) := by decide +kernel
theorem dX1_rowAt_18 : decode cX1_rowAt 18 = .ok (.goto 4, 3) := by decide +kernel
theorem dX1_rowAt_21 : decode cX1_rowAt 21 = .ok (.aconst_null, 1) := by decide +kernel
theorem dX1_rowAt_22 : decode cX1_rowAt 22 = .ok (.areturn, 1) := by decide +kernel
theorem dX1_rowWith_0 : decode cX1_rowWith 0 = .ok (.aload_n 0, 1) := by decide +kernel
theorem dX1_rowWith_1 : decode cX1_rowWith 1 = .ok (.iload_n 1, 1) := by decide +kernel
theorem dX1_rowWith_2 : decode cX1_rowWith 2 = .ok (.invokevirtual 82, 3) := by decide +kernel
theorem dX1_rowWith_5 : decode cX1_rowWith 5 = .ok (.astore_n 3, 1) := by decide +kernel
theorem dX1_rowWith_6 : decode cX1_rowWith 6 = .ok (.aload_n 3, 1) := by decide +kernel
theorem dX1_rowWith_7 : decode cX1_rowWith 7 = .ok (.ifnull 19, 3) := by decide +kernel
theorem dX1_rowWith_10 : decode cX1_rowWith 10 = .ok (.iload_n 2, 1) := by decide +kernel
theorem dX1_rowWith_11 : decode cX1_rowWith 11 = .ok (.ifCond .lt 15, 3) := by decide +kernel
theorem dX1_rowWith_14 : decode cX1_rowWith 14 = .ok (.iload_n 2, 1) := by decide +kernel
theorem dX1_rowWith_15 : decode cX1_rowWith 15 = .ok (.aload_n 3, 1) := by decide +kernel
theorem dX1_rowWith_16 : decode cX1_rowWith 16 = .ok (.getfield 86, 3) := by decide +kernel
theorem dX1_rowWith_19 : decode cX1_rowWith 19 = .ok (.if_icmp .ge 7, 3) := by decide +kernel
theorem dX1_rowWith_22 : decode cX1_rowWith 22 = .ok (.aload_n 3, 1) := by decide +kernel
theorem dX1_rowWith_23 : decode cX1_rowWith 23 = .ok (.goto 4, 3) := by decide +kernel
theorem dX1_rowWith_26 : decode cX1_rowWith 26 = .ok (.aconst_null, 1) := by decide +kernel
theorem dX1_rowWith_27 : decode cX1_rowWith 27 = .ok (.areturn, 1) := by decide +kernel
theorem dX1_stepOf_0 : decode cX1_stepOf 0 = .ok (.aload_n 0, 1) := by decide +kernel
theorem dX1_stepOf_1 : decode cX1_stepOf 1 = .ok (.getfield 23, 3) := by decide +kernel
theorem dX1_stepOf_4 : decode cX1_stepOf 4 = .ok (.iload_n 1, 1) := by decide +kernel
theorem dX1_stepOf_5 : decode cX1_stepOf 5 = .ok (.aaload, 1) := by decide +kernel
theorem dX1_stepOf_6 : decode cX1_stepOf 6 = .ok (.getfield 89, 3) := by decide +kernel
theorem dX1_stepOf_9 : decode cX1_stepOf 9 = .ok (.iload_n 1, 1) := by decide +kernel
theorem dX1_stepOf_10 : decode cX1_stepOf 10 = .ok (.ifCond .le 17, 3) := by decide +kernel
theorem dX1_stepOf_13 : decode cX1_stepOf 13 = .ok (.aload_n 0, 1) := by decide +kernel
theorem dX1_stepOf_14 : decode cX1_stepOf 14 = .ok (.getfield 23, 3) := by decide +kernel
theorem dX1_stepOf_17 : decode cX1_stepOf 17 = .ok (.iload_n 1, 1) := by decide +kernel
theorem dX1_stepOf_18 : decode cX1_stepOf 18 = .ok (.iconst 1, 1) := by decide +kernel
theorem dX1_stepOf_19 : decode cX1_stepOf 19 = .ok (.isub, 1) := by decide +kernel
theorem dX1_stepOf_20 : decode cX1_stepOf 20 = .ok (.aaload, 1) := by decide +kernel
theorem dX1_stepOf_21 : decode cX1_stepOf 21 = .ok (.getfield 89, 3) := by decide +kernel
theorem dX1_stepOf_24 : decode cX1_stepOf 24 = .ok (.goto 4, 3) := by decide +kernel
theorem dX1_stepOf_27 : decode cX1_stepOf 27 = .ok (.iconst 0, 1) := by decide +kernel
theorem dX1_stepOf_28 : decode cX1_stepOf 28 = .ok (.isub, 1) := by decide +kernel
theorem dX1_stepOf_29 : decode cX1_stepOf 29 = .ok (.ireturn, 1) := by decide +kernel
theorem dX1_allShifts_0 : decode cX1_allShifts 0 = .ok (.iconst 0, 1) := by decide +kernel
theorem dX1_allShifts_1 : decode cX1_allShifts 1 = .ok (.istore_n 1, 1) := by decide +kernel
theorem dX1_allShifts_2 : decode cX1_allShifts 2 = .ok (.iconst 0, 1) := by decide +kernel
theorem dX1_allShifts_3 : decode cX1_allShifts 3 = .ok (.istore_n 2, 1) := by decide +kernel
theorem dX1_allShifts_4 : decode cX1_allShifts 4 = .ok (.iload_n 2, 1) := by decide +kernel
theorem dX1_allShifts_5 : decode cX1_allShifts 5 = .ok (.aload_n 0, 1) := by decide +kernel
theorem dX1_allShifts_6 : decode cX1_allShifts 6 = .ok (.getfield 42, 3) := by decide +kernel
theorem dX1_allShifts_9 : decode cX1_allShifts 9 = .ok (.if_icmp .ge 23, 3) := by decide +kernel
theorem dX1_allShifts_12 : decode cX1_allShifts 12 = .ok (.iload_n 1, 1) := by decide +kernel
theorem dX1_allShifts_13 : decode cX1_allShifts 13 = .ok (.aload_n 0, 1) := by decide +kernel
theorem dX1_allShifts_14 : decode cX1_allShifts 14 = .ok (.getfield 23, 3) := by decide +kernel
theorem dX1_allShifts_17 : decode cX1_allShifts 17 = .ok (.iload_n 2, 1) := by decide +kernel
theorem dX1_allShifts_18 : decode cX1_allShifts 18 = .ok (.aaload, 1) := by decide +kernel
theorem dX1_allShifts_19 : decode cX1_allShifts 19 = .ok (.getfield 92, 3) := by decide +kernel
theorem dX1_allShifts_22 : decode cX1_allShifts 22 = .ok (.iload_n 2, 1) := by decide +kernel
theorem dX1_allShifts_23 : decode cX1_allShifts 23 = .ok (.ishl, 1) := by decide +kernel
theorem dX1_allShifts_24 : decode cX1_allShifts 24 = .ok (.ior, 1) := by decide +kernel
theorem dX1_allShifts_25 : decode cX1_allShifts 25 = .ok (.istore_n 1, 1) := by decide +kernel
theorem dX1_allShifts_26 : decode cX1_allShifts 26 = .ok (.iinc 2 1, 3) := by decide +kernel
theorem dX1_allShifts_29 : decode cX1_allShifts 29 = .ok (.goto (-25), 3) := by decide +kernel
theorem dX1_allShifts_32 : decode cX1_allShifts 32 = .ok (.iload_n 1, 1) := by decide +kernel
theorem dX1_allShifts_33 : decode cX1_allShifts 33 = .ok (.ireturn, 1) := by decide +kernel
theorem dX1_shiftAll_0 : decode cX1_shiftAll 0 = .ok (.iconst 0, 1) := by decide +kernel
theorem dX1_shiftAll_1 : decode cX1_shiftAll 1 = .ok (.istore_n 2, 1) := by decide +kernel
theorem dX1_shiftAll_2 : decode cX1_shiftAll 2 = .ok (.iload_n 2, 1) := by decide +kernel
theorem dX1_shiftAll_3 : decode cX1_shiftAll 3 = .ok (.aload_n 0, 1) := by decide +kernel
theorem dX1_shiftAll_4 : decode cX1_shiftAll 4 = .ok (.getfield 42, 3) := by decide +kernel
theorem dX1_shiftAll_7 : decode cX1_shiftAll 7 = .ok (.if_icmp .ge 23, 3) := by decide +kernel
theorem dX1_shiftAll_10 : decode cX1_shiftAll 10 = .ok (.aload_n 0, 1) := by decide +kernel
theorem dX1_shiftAll_11 : decode cX1_shiftAll 11 = .ok (.getfield 23, 3) := by decide +kernel
theorem dX1_shiftAll_14 : decode cX1_shiftAll 14 = .ok (.iload_n 2, 1) := by decide +kernel
theorem dX1_shiftAll_15 : decode cX1_shiftAll 15 = .ok (.aaload, 1) := by decide +kernel
theorem dX1_shiftAll_16 : decode cX1_shiftAll 16 = .ok (.iload_n 1, 1) := by decide +kernel
theorem dX1_shiftAll_17 : decode cX1_shiftAll 17 = .ok (.iload_n 2, 1) := by decide +kernel
theorem dX1_shiftAll_18 : decode cX1_shiftAll 18 = .ok (.ishr, 1) := by decide +kernel
theorem dX1_shiftAll_19 : decode cX1_shiftAll 19 = .ok (.iconst 1, 1) := by decide +kernel
theorem dX1_shiftAll_20 : decode cX1_shiftAll 20 = .ok (.iand, 1) := by decide +kernel
theorem dX1_shiftAll_21 : decode cX1_shiftAll 21 = .ok (.putfield 92, 3) := by decide +kernel
theorem dX1_shiftAll_24 : decode cX1_shiftAll 24 = .ok (.iinc 2 1, 3) := by decide +kernel
theorem dX1_shiftAll_27 : decode cX1_shiftAll 27 = .ok (.goto (-25), 3) := by decide +kernel
theorem dX1_shiftAll_30 : decode cX1_shiftAll 30 = .ok (.return_, 1) := by decide +kernel
theorem dX1_allCounts_0 : decode cX1_allCounts 0 = .ok (.iconst 0, 1) := by decide +kernel
theorem dX1_allCounts_1 : decode cX1_allCounts 1 = .ok (.istore_n 1, 1) := by decide +kernel
theorem dX1_allCounts_2 : decode cX1_allCounts 2 = .ok (.iconst 0, 1) := by decide +kernel
theorem dX1_allCounts_3 : decode cX1_allCounts 3 = .ok (.istore_n 2, 1) := by decide +kernel
theorem dX1_allCounts_4 : decode cX1_allCounts 4 = .ok (.iload_n 2, 1) := by decide +kernel
theorem dX1_allCounts_5 : decode cX1_allCounts 5 = .ok (.iconst 4, 1) := by decide +kernel
theorem dX1_allCounts_6 : decode cX1_allCounts 6 = .ok (.if_icmp .ge 18, 3) := by decide +kernel
theorem dX1_allCounts_9 : decode cX1_allCounts 9 = .ok (.iload_n 1, 1) := by decide +kernel
theorem dX1_allCounts_10 : decode cX1_allCounts 10 = .ok (.aload_n 0, 1) := by decide +kernel
theorem dX1_allCounts_11 : decode cX1_allCounts 11 = .ok (.getfield 18, 3) := by decide +kernel
theorem dX1_allCounts_14 : decode cX1_allCounts 14 = .ok (.iload_n 2, 1) := by decide +kernel
theorem dX1_allCounts_15 : decode cX1_allCounts 15 = .ok (.iaload, 1) := by decide +kernel
theorem dX1_allCounts_16 : decode cX1_allCounts 16 = .ok (.iadd, 1) := by decide +kernel
theorem dX1_allCounts_17 : decode cX1_allCounts 17 = .ok (.istore_n 1, 1) := by decide +kernel
theorem dX1_allCounts_18 : decode cX1_allCounts 18 = .ok (.iinc 2 1, 3) := by decide +kernel
theorem dX1_allCounts_21 : decode cX1_allCounts 21 = .ok (.goto (-17), 3) := by decide +kernel
theorem dX1_allCounts_24 : decode cX1_allCounts 24 = .ok (.iload_n 1, 1) := by decide +kernel
theorem dX1_allCounts_25 : decode cX1_allCounts 25 = .ok (.ireturn, 1) := by decide +kernel
theorem dX1_sortOf_0 : decode cX1_sortOf 0 = .ok (.aload_n 0, 1) := by decide +kernel
theorem dX1_sortOf_1 : decode cX1_sortOf 1 = .ok (.getfield 56, 3) := by decide +kernel
theorem dX1_sortOf_4 : decode cX1_sortOf 4 = .ok (.iconst (-1), 1) := by decide +kernel
theorem dX1_sortOf_5 : decode cX1_sortOf 5 = .ok (.if_icmp .ne 12, 3) := by decide +kernel
theorem dX1_sortOf_8 : decode cX1_sortOf 8 = .ok (.aload_n 1, 1) := by decide +kernel
theorem dX1_sortOf_9 : decode cX1_sortOf 9 = .ok (.getfield 95, 3) := by decide +kernel
theorem dX1_sortOf_12 : decode cX1_sortOf 12 = .ok (.iload_n 2, 1) := by decide +kernel
theorem dX1_sortOf_13 : decode cX1_sortOf 13 = .ok (.iaload, 1) := by decide +kernel
theorem dX1_sortOf_14 : decode cX1_sortOf 14 = .ok (.goto 7, 3) := by decide +kernel
theorem dX1_sortOf_17 : decode cX1_sortOf 17 = .ok (.aload_n 0, 1) := by decide +kernel
theorem dX1_sortOf_18 : decode cX1_sortOf 18 = .ok (.getfield 56, 3) := by decide +kernel
theorem dX1_sortOf_21 : decode cX1_sortOf 21 = .ok (.ireturn, 1) := by decide +kernel
theorem dX1_eyesOf_0 : decode cX1_eyesOf 0 = .ok (.aload_n 1, 1) := by decide +kernel
theorem dX1_eyesOf_1 : decode cX1_eyesOf 1 = .ok (.aload_n 0, 1) := by decide +kernel
theorem dX1_eyesOf_2 : decode cX1_eyesOf 2 = .ok (.getfield 9, 3) := by decide +kernel
theorem dX1_eyesOf_5 : decode cX1_eyesOf 5 = .ok (.aload_n 0, 1) := by decide +kernel
theorem dX1_eyesOf_6 : decode cX1_eyesOf 6 = .ok (.aload_n 1, 1) := by decide +kernel
theorem dX1_eyesOf_7 : decode cX1_eyesOf 7 = .ok (.iload_n 2, 1) := by decide +kernel
theorem dX1_eyesOf_8 : decode cX1_eyesOf 8 = .ok (.invokevirtual 98, 3) := by decide +kernel
theorem dX1_eyesOf_11 : decode cX1_eyesOf 11 = .ok (.iaload, 1) := by decide +kernel
theorem dX1_eyesOf_12 : decode cX1_eyesOf 12 = .ok (.invokevirtual 102, 3) := by decide +kernel
theorem dX1_eyesOf_15 : decode cX1_eyesOf 15 = .ok (.ireturn, 1) := by decide +kernel
theorem dX1_topOf_0 : decode cX1_topOf 0 = .ok (.aload_n 1, 1) := by decide +kernel
theorem dX1_topOf_1 : decode cX1_topOf 1 = .ok (.aload_n 0, 1) := by decide +kernel
theorem dX1_topOf_2 : decode cX1_topOf 2 = .ok (.getfield 68, 3) := by decide +kernel
theorem dX1_topOf_5 : decode cX1_topOf 5 = .ok (.if_acmp .ne 18, 3) := by decide +kernel
theorem dX1_topOf_8 : decode cX1_topOf 8 = .ok (.iload_n 2, 1) := by decide +kernel
theorem dX1_topOf_9 : decode cX1_topOf 9 = .ok (.aload_n 0, 1) := by decide +kernel
theorem dX1_topOf_10 : decode cX1_topOf 10 = .ok (.getfield 62, 3) := by decide +kernel
theorem dX1_topOf_13 : decode cX1_topOf 13 = .ok (.if_icmp .ne 10, 3) := by decide +kernel
theorem dX1_topOf_16 : decode cX1_topOf 16 = .ok (.aload_n 0, 1) := by decide +kernel
theorem dX1_topOf_17 : decode cX1_topOf 17 = .ok (.getfield 65, 3) := by decide +kernel
theorem dX1_topOf_20 : decode cX1_topOf 20 = .ok (.goto 4, 3) := by decide +kernel
theorem dX1_topOf_23 : decode cX1_topOf 23 = .ok (.iconst 0, 1) := by decide +kernel
theorem dX1_topOf_24 : decode cX1_topOf 24 = .ok (.istore_n 3, 1) := by decide +kernel
theorem dX1_topOf_25 : decode cX1_topOf 25 = .ok (.aload_n 1, 1) := by decide +kernel
theorem dX1_topOf_26 : decode cX1_topOf 26 = .ok (.aload_n 0, 1) := by decide +kernel
theorem dX1_topOf_27 : decode cX1_topOf 27 = .ok (.getfield 15, 3) := by decide +kernel
theorem dX1_topOf_30 : decode cX1_topOf 30 = .ok (.aload_n 0, 1) := by decide +kernel
theorem dX1_topOf_31 : decode cX1_topOf 31 = .ok (.aload_n 1, 1) := by decide +kernel
theorem dX1_topOf_32 : decode cX1_topOf 32 = .ok (.iload_n 2, 1) := by decide +kernel
theorem dX1_topOf_33 : decode cX1_topOf 33 = .ok (.invokevirtual 98, 3) := by decide +kernel
theorem dX1_topOf_36 : decode cX1_topOf 36 = .ok (.iaload, 1) := by decide +kernel
theorem dX1_topOf_37 : decode cX1_topOf 37 = .ok (.invokevirtual 102, 3) := by decide +kernel
theorem dX1_topOf_40 : decode cX1_topOf 40 = .ok (.iload_n 3, 1) := by decide +kernel
theorem dX1_topOf_41 : decode cX1_topOf 41 = .ok (.iadd, 1) := by decide +kernel
theorem dX1_topOf_42 : decode cX1_topOf 42 = .ok (.ireturn, 1) := by decide +kernel
theorem dX1_layLine_0 : decode cX1_layLine 0 = .ok (.aload_n 0, 1) := by decide +kernel
theorem dX1_layLine_1 : decode cX1_layLine 1 = .ok (.getfield 75, 3) := by decide +kernel
theorem dX1_layLine_4 : decode cX1_layLine 4 = .ok (.aload_n 1, 1) := by decide +kernel
theorem dX1_layLine_5 : decode cX1_layLine 5 = .ok (.getfield 106, 3) := by decide +kernel
theorem dX1_layLine_8 : decode cX1_layLine 8 = .ok (.aload_n 1, 1) := by decide +kernel
theorem dX1_layLine_9 : decode cX1_layLine 9 = .ok (.iload_n 2, 1) := by decide +kernel
theorem dX1_layLine_10 : decode cX1_layLine 10 = .ok (.invokevirtual 109, 3) := by decide +kernel
theorem dX1_layLine_13 : decode cX1_layLine 13 = .ok (.aload_n 0, 1) := by decide +kernel
theorem dX1_layLine_14 : decode cX1_layLine 14 = .ok (.aload_n 1, 1) := by decide +kernel
theorem dX1_layLine_15 : decode cX1_layLine 15 = .ok (.iload_n 2, 1) := by decide +kernel
theorem dX1_layLine_16 : decode cX1_layLine 16 = .ok (.invokevirtual 112, 3) := by decide +kernel
theorem dX1_layLine_19 : decode cX1_layLine 19 = .ok (.aload_n 0, 1) := by decide +kernel
theorem dX1_layLine_20 : decode cX1_layLine 20 = .ok (.getfield 27, 3) := by decide +kernel
theorem dX1_layLine_23 : decode cX1_layLine 23 = .ok (.iload_n 3, 1) := by decide +kernel
theorem dX1_layLine_24 : decode cX1_layLine 24 = .ok (.iaload, 1) := by decide +kernel
theorem dX1_layLine_25 : decode cX1_layLine 25 = .ok (.aload_n 0, 1) := by decide +kernel
theorem dX1_layLine_26 : decode cX1_layLine 26 = .ok (.getfield 30, 3) := by decide +kernel
theorem dX1_layLine_29 : decode cX1_layLine 29 = .ok (.iload_n 3, 1) := by decide +kernel
theorem dX1_layLine_30 : decode cX1_layLine 30 = .ok (.iaload, 1) := by decide +kernel
theorem dX1_layLine_31 : decode cX1_layLine 31 = .ok (.aload_n 0, 1) := by decide +kernel
theorem dX1_layLine_32 : decode cX1_layLine 32 = .ok (.getfield 59, 3) := by decide +kernel
theorem dX1_layLine_35 : decode cX1_layLine 35 = .ok (.iadd, 1) := by decide +kernel
theorem dX1_layLine_36 : decode cX1_layLine 36 = .ok (.invokevirtual 115, 3) := by decide +kernel
theorem dX1_layLine_39 : decode cX1_layLine 39 = .ok (.return_, 1) := by decide +kernel
theorem dX1_hiderOf_0 : decode cX1_hiderOf 0 = .ok (.aload_n 0, 1) := by decide +kernel
theorem dX1_hiderOf_1 : decode cX1_hiderOf 1 = .ok (.aload_n 1, 1) := by decide +kernel
theorem dX1_hiderOf_2 : decode cX1_hiderOf 2 = .ok (.iload_n 2, 1) := by decide +kernel
theorem dX1_hiderOf_3 : decode cX1_hiderOf 3 = .ok (.iload_n 3, 1) := by decide +kernel
theorem dX1_hiderOf_4 : decode cX1_hiderOf 4 = .ok (.invokevirtual 119, 3) := by decide +kernel
theorem dX1_hiderOf_7 : decode cX1_hiderOf 7 = .ok (.iconst 0, 1) := by decide +kernel
theorem dX1_hiderOf_8 : decode cX1_hiderOf 8 = .ok (.istore 4, 2) := by decide +kernel
theorem dX1_hiderOf_10 : decode cX1_hiderOf 10 = .ok (.aload_n 1, 1) := by decide +kernel
theorem dX1_hiderOf_11 : decode cX1_hiderOf 11 = .ok (.getfield 123, 3) := by decide +kernel
theorem dX1_hiderOf_14 : decode cX1_hiderOf 14 = .ok (.ifCond .eq 46, 3) := by decide +kernel
theorem dX1_hiderOf_17 : decode cX1_hiderOf 17 = .ok (.iload 4, 2) := by decide +kernel
theorem dX1_hiderOf_19 : decode cX1_hiderOf 19 = .ok (.aload_n 1, 1) := by decide +kernel
theorem dX1_hiderOf_20 : decode cX1_hiderOf 20 = .ok (.getfield 127, 3) := by decide +kernel
theorem dX1_hiderOf_23 : decode cX1_hiderOf 23 = .ok (.if_icmp .ge 37, 3) := by decide +kernel
theorem dX1_hiderOf_26 : decode cX1_hiderOf 26 = .ok (.aload_n 0, 1) := by decide +kernel
theorem dX1_hiderOf_27 : decode cX1_hiderOf 27 = .ok (.aload_n 0, 1) := by decide +kernel
theorem dX1_hiderOf_28 : decode cX1_hiderOf 28 = .ok (.getfield 23, 3) := by decide +kernel
theorem dX1_hiderOf_31 : decode cX1_hiderOf 31 = .ok (.iload 4, 2) := by decide +kernel
theorem dX1_hiderOf_33 : decode cX1_hiderOf 33 = .ok (.aaload, 1) := by decide +kernel
theorem dX1_hiderOf_34 : decode cX1_hiderOf 34 = .ok (.invokevirtual 130, 3) := by decide +kernel
theorem dX1_hiderOf_37 : decode cX1_hiderOf 37 = .ok (.istore 5, 2) := by decide +kernel
theorem dX1_hiderOf_39 : decode cX1_hiderOf 39 = .ok (.iload 5, 2) := by decide +kernel
theorem dX1_hiderOf_41 : decode cX1_hiderOf 41 = .ok (.iconst (-1), 1) := by decide +kernel
theorem dX1_hiderOf_42 : decode cX1_hiderOf 42 = .ok (.if_icmp .eq 12, 3) := by decide +kernel
theorem dX1_hiderOf_45 : decode cX1_hiderOf 45 = .ok (.bipush 10, 2) := by decide +kernel
theorem dX1_hiderOf_47 : decode cX1_hiderOf 47 = .ok (.iload 4, 2) := by decide +kernel
theorem dX1_hiderOf_49 : decode cX1_hiderOf 49 = .ok (.imul, 1) := by decide +kernel
theorem dX1_hiderOf_50 : decode cX1_hiderOf 50 = .ok (.iload 5, 2) := by decide +kernel
theorem dX1_hiderOf_52 : decode cX1_hiderOf 52 = .ok (.iadd, 1) := by decide +kernel
theorem dX1_hiderOf_53 : decode cX1_hiderOf 53 = .ok (.ireturn, 1) := by decide +kernel
theorem dX1_hiderOf_54 : decode cX1_hiderOf 54 = .ok (.iinc 4 1, 3) := by decide +kernel
theorem dX1_hiderOf_57 : decode cX1_hiderOf 57 = .ok (.goto (-47), 3) := by decide +kernel
theorem dX1_hiderOf_60 : decode cX1_hiderOf 60 = .ok (.aload_n 0, 1) := by decide +kernel
theorem dX1_hiderOf_61 : decode cX1_hiderOf 61 = .ok (.invokevirtual 134, 3) := by decide +kernel
theorem dX1_hiderOf_64 : decode cX1_hiderOf 64 = .ok (.istore 4, 2) := by decide +kernel
theorem dX1_hiderOf_66 : decode cX1_hiderOf 66 = .ok (.iload 4, 2) := by decide +kernel
theorem dX1_hiderOf_68 : decode cX1_hiderOf 68 = .ok (.iconst (-1), 1) := by decide +kernel
theorem dX1_hiderOf_69 : decode cX1_hiderOf 69 = .ok (.if_icmp .ne 7, 3) := by decide +kernel
theorem dX1_hiderOf_72 : decode cX1_hiderOf 72 = .ok (.iconst (-1), 1) := by decide +kernel
theorem dX1_hiderOf_73 : decode cX1_hiderOf 73 = .ok (.goto 8, 3) := by decide +kernel
theorem dX1_hiderOf_76 : decode cX1_hiderOf 76 = .ok (.bipush 100, 2) := by decide +kernel
theorem dX1_hiderOf_78 : decode cX1_hiderOf 78 = .ok (.iload 4, 2) := by decide +kernel
theorem dX1_hiderOf_80 : decode cX1_hiderOf 80 = .ok (.iadd, 1) := by decide +kernel
theorem dX1_hiderOf_81 : decode cX1_hiderOf 81 = .ok (.ireturn, 1) := by decide +kernel
theorem dX1_hidingSeat_0 : decode cX1_hidingSeat 0 = .ok (.aload_n 1, 1) := by decide +kernel
theorem dX1_hidingSeat_1 : decode cX1_hidingSeat 1 = .ok (.getfield 123, 3) := by decide +kernel
theorem dX1_hidingSeat_4 : decode cX1_hidingSeat 4 = .ok (.ifCond .ne 5, 3) := by decide +kernel
theorem dX1_hidingSeat_7 : decode cX1_hidingSeat 7 = .ok (.iconst (-1), 1) := by decide +kernel
theorem dX1_hidingSeat_8 : decode cX1_hidingSeat 8 = .ok (.ireturn, 1) := by decide +kernel
theorem dX1_hidingSeat_9 : decode cX1_hidingSeat 9 = .ok (.aload_n 0, 1) := by decide +kernel
theorem dX1_hidingSeat_10 : decode cX1_hidingSeat 10 = .ok (.getfield 75, 3) := by decide +kernel
theorem dX1_hidingSeat_13 : decode cX1_hidingSeat 13 = .ok (.getfield 138, 3) := by decide +kernel
theorem dX1_hidingSeat_16 : decode cX1_hidingSeat 16 = .ok (.istore_n 2, 1) := by decide +kernel
theorem dX1_hidingSeat_17 : decode cX1_hidingSeat 17 = .ok (.aload_n 0, 1) := by decide +kernel
theorem dX1_hidingSeat_18 : decode cX1_hidingSeat 18 = .ok (.getfield 75, 3) := by decide +kernel
theorem dX1_hidingSeat_21 : decode cX1_hidingSeat 21 = .ok (.aload_n 1, 1) := by decide +kernel
theorem dX1_hidingSeat_22 : decode cX1_hidingSeat 22 = .ok (.getfield 106, 3) := by decide +kernel
theorem dX1_hidingSeat_25 : decode cX1_hidingSeat 25 = .ok (.aload_n 1, 1) := by decide +kernel
theorem dX1_hidingSeat_26 : decode cX1_hidingSeat 26 = .ok (.iconst 0, 1) := by decide +kernel
theorem dX1_hidingSeat_27 : decode cX1_hidingSeat 27 = .ok (.invokevirtual 109, 3) := by decide +kernel
theorem dX1_hidingSeat_30 : decode cX1_hidingSeat 30 = .ok (.invokevirtual 139, 3) := by decide +kernel
theorem dX1_hidingSeat_33 : decode cX1_hidingSeat 33 = .ok (.istore_n 3, 1) := by decide +kernel
theorem dX1_hidingSeat_34 : decode cX1_hidingSeat 34 = .ok (.iconst 0, 1) := by decide +kernel
theorem dX1_hidingSeat_35 : decode cX1_hidingSeat 35 = .ok (.istore 4, 2) := by decide +kernel
theorem dX1_hidingSeat_37 : decode cX1_hidingSeat 37 = .ok (.iload 4, 2) := by decide +kernel
theorem dX1_hidingSeat_39 : decode cX1_hidingSeat 39 = .ok (.aload_n 1, 1) := by decide +kernel
theorem dX1_hidingSeat_40 : decode cX1_hidingSeat 40 = .ok (.getfield 86, 3) := by decide +kernel
theorem dX1_hidingSeat_43 : decode cX1_hidingSeat 43 = .ok (.if_icmp .ge 56, 3) := by decide +kernel
theorem dX1_hidingSeat_46 : decode cX1_hidingSeat 46 = .ok (.iload_n 3, 1) := by decide +kernel
theorem dX1_hidingSeat_47 : decode cX1_hidingSeat 47 = .ok (.iload_n 2, 1) := by decide +kernel
theorem dX1_hidingSeat_48 : decode cX1_hidingSeat 48 = .ok (.ineg, 1) := by decide +kernel
theorem dX1_hidingSeat_49 : decode cX1_hidingSeat 49 = .ok (.if_icmp .lt 50, 3) := by decide +kernel
theorem dX1_hidingSeat_52 : decode cX1_hidingSeat 52 = .ok (.iload_n 3, 1) := by decide +kernel
theorem dX1_hidingSeat_53 : decode cX1_hidingSeat 53 = .ok (.iload_n 2, 1) := by decide +kernel
theorem dX1_hidingSeat_54 : decode cX1_hidingSeat 54 = .ok (.if_icmp .gt 27, 3) := by decide +kernel
theorem dX1_hidingSeat_57 : decode cX1_hidingSeat 57 = .ok (.aload_n 0, 1) := by decide +kernel
theorem dX1_hidingSeat_58 : decode cX1_hidingSeat 58 = .ok (.getfield 75, 3) := by decide +kernel
theorem dX1_hidingSeat_61 : decode cX1_hidingSeat 61 = .ok (.aload_n 1, 1) := by decide +kernel
theorem dX1_hidingSeat_62 : decode cX1_hidingSeat 62 = .ok (.getfield 106, 3) := by decide +kernel
theorem dX1_hidingSeat_65 : decode cX1_hidingSeat 65 = .ok (.aload_n 0, 1) := by decide +kernel
theorem dX1_hidingSeat_66 : decode cX1_hidingSeat 66 = .ok (.aload_n 1, 1) := by decide +kernel
theorem dX1_hidingSeat_67 : decode cX1_hidingSeat 67 = .ok (.iload 4, 2) := by decide +kernel
theorem dX1_hidingSeat_69 : decode cX1_hidingSeat 69 = .ok (.invokevirtual 143, 3) := by decide +kernel
theorem dX1_hidingSeat_72 : decode cX1_hidingSeat 72 = .ok (.invokevirtual 146, 3) := by decide +kernel
theorem dX1_hidingSeat_75 : decode cX1_hidingSeat 75 = .ok (.ifCond .eq 6, 3) := by decide +kernel
theorem dX1_hidingSeat_78 : decode cX1_hidingSeat 78 = .ok (.iload 4, 2) := by decide +kernel
theorem dX1_hidingSeat_80 : decode cX1_hidingSeat 80 = .ok (.ireturn, 1) := by decide +kernel
theorem dX1_hidingSeat_81 : decode cX1_hidingSeat 81 = .ok (.iload_n 3, 1) := by decide +kernel
theorem dX1_hidingSeat_82 : decode cX1_hidingSeat 82 = .ok (.iconst 2, 1) := by decide +kernel
theorem dX1_hidingSeat_83 : decode cX1_hidingSeat 83 = .ok (.aload_n 0, 1) := by decide +kernel
theorem dX1_hidingSeat_84 : decode cX1_hidingSeat 84 = .ok (.getfield 75, 3) := by decide +kernel
theorem dX1_hidingSeat_87 : decode cX1_hidingSeat 87 = .ok (.getfield 138, 3) := by decide +kernel
theorem dX1_hidingSeat_90 : decode cX1_hidingSeat 90 = .ok (.imul, 1) := by decide +kernel
theorem dX1_hidingSeat_91 : decode cX1_hidingSeat 91 = .ok (.isub, 1) := by decide +kernel
theorem dX1_hidingSeat_92 : decode cX1_hidingSeat 92 = .ok (.istore_n 3, 1) := by decide +kernel
theorem dX1_hidingSeat_93 : decode cX1_hidingSeat 93 = .ok (.iinc 4 1, 3) := by decide +kernel
theorem dX1_hidingSeat_96 : decode cX1_hidingSeat 96 = .ok (.goto (-59), 3) := by decide +kernel
theorem dX1_hidingSeat_99 : decode cX1_hidingSeat 99 = .ok (.iconst (-1), 1) := by decide +kernel
theorem dX1_hidingSeat_100 : decode cX1_hidingSeat 100 = .ok (.ireturn, 1) := by decide +kernel
theorem dX1_hidingPost_0 : decode cX1_hidingPost 0 = .ok (.iconst 0, 1) := by decide +kernel
theorem dX1_hidingPost_1 : decode cX1_hidingPost 1 = .ok (.istore_n 1, 1) := by decide +kernel
theorem dX1_hidingPost_2 : decode cX1_hidingPost 2 = .ok (.iload_n 1, 1) := by decide +kernel
theorem dX1_hidingPost_3 : decode cX1_hidingPost 3 = .ok (.aload_n 0, 1) := by decide +kernel
theorem dX1_hidingPost_4 : decode cX1_hidingPost 4 = .ok (.getfield 49, 3) := by decide +kernel
theorem dX1_hidingPost_7 : decode cX1_hidingPost 7 = .ok (.if_icmp .ge 61, 3) := by decide +kernel
theorem dX1_hidingPost_10 : decode cX1_hidingPost 10 = .ok (.aload_n 0, 1) := by decide +kernel
theorem dX1_hidingPost_11 : decode cX1_hidingPost 11 = .ok (.getfield 75, 3) := by decide +kernel
theorem dX1_hidingPost_14 : decode cX1_hidingPost 14 = .ok (.aload_n 0, 1) := by decide +kernel
theorem dX1_hidingPost_15 : decode cX1_hidingPost 15 = .ok (.getfield 39, 3) := by decide +kernel
theorem dX1_hidingPost_18 : decode cX1_hidingPost 18 = .ok (.iload_n 1, 1) := by decide +kernel
theorem dX1_hidingPost_19 : decode cX1_hidingPost 19 = .ok (.iaload, 1) := by decide +kernel
theorem dX1_hidingPost_20 : decode cX1_hidingPost 20 = .ok (.aload_n 0, 1) := by decide +kernel
theorem dX1_hidingPost_21 : decode cX1_hidingPost 21 = .ok (.getfield 36, 3) := by decide +kernel
theorem dX1_hidingPost_24 : decode cX1_hidingPost 24 = .ok (.iload_n 1, 1) := by decide +kernel
theorem dX1_hidingPost_25 : decode cX1_hidingPost 25 = .ok (.iaload, 1) := by decide +kernel
theorem dX1_hidingPost_26 : decode cX1_hidingPost 26 = .ok (.invokevirtual 139, 3) := by decide +kernel
theorem dX1_hidingPost_29 : decode cX1_hidingPost 29 = .ok (.istore_n 2, 1) := by decide +kernel
theorem dX1_hidingPost_30 : decode cX1_hidingPost 30 = .ok (.aload_n 0, 1) := by decide +kernel
theorem dX1_hidingPost_31 : decode cX1_hidingPost 31 = .ok (.getfield 39, 3) := by decide +kernel
theorem dX1_hidingPost_34 : decode cX1_hidingPost 34 = .ok (.iload_n 1, 1) := by decide +kernel
theorem dX1_hidingPost_35 : decode cX1_hidingPost 35 = .ok (.iaload, 1) := by decide +kernel
theorem dX1_hidingPost_36 : decode cX1_hidingPost 36 = .ok (.aload_n 0, 1) := by decide +kernel
theorem dX1_hidingPost_37 : decode cX1_hidingPost 37 = .ok (.getfield 75, 3) := by decide +kernel
theorem dX1_hidingPost_40 : decode cX1_hidingPost 40 = .ok (.getfield 138, 3) := by decide +kernel
theorem dX1_hidingPost_43 : decode cX1_hidingPost 43 = .ok (.if_icmp .ge 19, 3) := by decide +kernel
theorem dX1_hidingPost_46 : decode cX1_hidingPost 46 = .ok (.iload_n 2, 1) := by decide +kernel
theorem dX1_hidingPost_47 : decode cX1_hidingPost 47 = .ok (.invokestatic 150, 3) := by decide +kernel
theorem dX1_hidingPost_50 : decode cX1_hidingPost 50 = .ok (.aload_n 0, 1) := by decide +kernel
theorem dX1_hidingPost_51 : decode cX1_hidingPost 51 = .ok (.getfield 75, 3) := by decide +kernel
theorem dX1_hidingPost_54 : decode cX1_hidingPost 54 = .ok (.getfield 138, 3) := by decide +kernel
theorem dX1_hidingPost_57 : decode cX1_hidingPost 57 = .ok (.if_icmp .ge 5, 3) := by decide +kernel
theorem dX1_hidingPost_60 : decode cX1_hidingPost 60 = .ok (.iload_n 1, 1) := by decide +kernel
theorem dX1_hidingPost_61 : decode cX1_hidingPost 61 = .ok (.ireturn, 1) := by decide +kernel
theorem dX1_hidingPost_62 : decode cX1_hidingPost 62 = .ok (.iinc 1 1, 3) := by decide +kernel
theorem dX1_hidingPost_65 : decode cX1_hidingPost 65 = .ok (.goto (-63), 3) := by decide +kernel
theorem dX1_hidingPost_68 : decode cX1_hidingPost 68 = .ok (.iconst (-1), 1) := by decide +kernel
theorem dX1_hidingPost_69 : decode cX1_hidingPost 69 = .ok (.ireturn, 1) := by decide +kernel
theorem dX1_chanceOf_0 : decode cX1_chanceOf 0 = .ok (.aload_n 0, 1) := by decide +kernel
theorem dX1_chanceOf_1 : decode cX1_chanceOf 1 = .ok (.aload_n 1, 1) := by decide +kernel
theorem dX1_chanceOf_2 : decode cX1_chanceOf 2 = .ok (.iload_n 2, 1) := by decide +kernel
theorem dX1_chanceOf_3 : decode cX1_chanceOf 3 = .ok (.iload_n 3, 1) := by decide +kernel
theorem dX1_chanceOf_4 : decode cX1_chanceOf 4 = .ok (.invokevirtual 119, 3) := by decide +kernel
theorem dX1_chanceOf_7 : decode cX1_chanceOf 7 = .ok (.aload_n 0, 1) := by decide +kernel
theorem dX1_chanceOf_8 : decode cX1_chanceOf 8 = .ok (.invokevirtual 134, 3) := by decide +kernel
theorem dX1_chanceOf_11 : decode cX1_chanceOf 11 = .ok (.iconst (-1), 1) := by decide +kernel
theorem dX1_chanceOf_12 : decode cX1_chanceOf 12 = .ok (.if_icmp .ne 7, 3) := by decide +kernel
theorem dX1_chanceOf_15 : decode cX1_chanceOf 15 = .ok (.lconst 1, 1) := by decide +kernel
theorem dX1_chanceOf_16 : decode cX1_chanceOf 16 = .ok (.goto 4, 3) := by decide +kernel
theorem dX1_chanceOf_19 : decode cX1_chanceOf 19 = .ok (.lconst 0, 1) := by decide +kernel
theorem dX1_chanceOf_20 : decode cX1_chanceOf 20 = .ok (.lstore 5, 2) := by decide +kernel
theorem dX1_chanceOf_22 : decode cX1_chanceOf 22 = .ok (.lconst 1, 1) := by decide +kernel
theorem dX1_chanceOf_23 : decode cX1_chanceOf 23 = .ok (.lstore 7, 2) := by decide +kernel
theorem dX1_chanceOf_25 : decode cX1_chanceOf 25 = .ok (.aload_n 0, 1) := by decide +kernel
theorem dX1_chanceOf_26 : decode cX1_chanceOf 26 = .ok (.invokevirtual 155, 3) := by decide +kernel
theorem dX1_chanceOf_29 : decode cX1_chanceOf 29 = .ok (.istore 9, 2) := by decide +kernel
theorem dX1_chanceOf_31 : decode cX1_chanceOf 31 = .ok (.iconst 0, 1) := by decide +kernel
theorem dX1_chanceOf_32 : decode cX1_chanceOf 32 = .ok (.istore 10, 2) := by decide +kernel
theorem dX1_chanceOf_34 : decode cX1_chanceOf 34 = .ok (.aload_n 1, 1) := by decide +kernel
theorem dX1_chanceOf_35 : decode cX1_chanceOf 35 = .ok (.getfield 123, 3) := by decide +kernel
theorem dX1_chanceOf_38 : decode cX1_chanceOf 38 = .ok (.ifCond .eq 106, 3) := by decide +kernel
theorem dX1_chanceOf_41 : decode cX1_chanceOf 41 = .ok (.iload 10, 2) := by decide +kernel
theorem dX1_chanceOf_43 : decode cX1_chanceOf 43 = .ok (.aload_n 1, 1) := by decide +kernel
theorem dX1_chanceOf_44 : decode cX1_chanceOf 44 = .ok (.getfield 127, 3) := by decide +kernel
theorem dX1_chanceOf_47 : decode cX1_chanceOf 47 = .ok (.if_icmp .ge 97, 3) := by decide +kernel
theorem dX1_chanceOf_50 : decode cX1_chanceOf 50 = .ok (.aload_n 0, 1) := by decide +kernel
theorem dX1_chanceOf_51 : decode cX1_chanceOf 51 = .ok (.getfield 23, 3) := by decide +kernel
theorem dX1_chanceOf_54 : decode cX1_chanceOf 54 = .ok (.iload 10, 2) := by decide +kernel
theorem dX1_chanceOf_56 : decode cX1_chanceOf 56 = .ok (.aaload, 1) := by decide +kernel
theorem dX1_chanceOf_57 : decode cX1_chanceOf 57 = .ok (.astore 11, 2) := by decide +kernel
theorem dX1_chanceOf_59 : decode cX1_chanceOf 59 = .ok (.iconst 0, 1) := by decide +kernel
theorem dX1_chanceOf_60 : decode cX1_chanceOf 60 = .ok (.istore 12, 2) := by decide +kernel
theorem dX1_chanceOf_62 : decode cX1_chanceOf 62 = .ok (.aload 11, 2) := by decide +kernel
theorem dX1_chanceOf_64 : decode cX1_chanceOf 64 = .ok (.getfield 123, 3) := by decide +kernel
theorem dX1_chanceOf_67 : decode cX1_chanceOf 67 = .ok (.ifCond .eq 71, 3) := by decide +kernel
theorem dX1_chanceOf_70 : decode cX1_chanceOf 70 = .ok (.iload 12, 2) := by decide +kernel
theorem dX1_chanceOf_72 : decode cX1_chanceOf 72 = .ok (.aload 11, 2) := by decide +kernel
theorem dX1_chanceOf_74 : decode cX1_chanceOf 74 = .ok (.getfield 86, 3) := by decide +kernel
theorem dX1_chanceOf_77 : decode cX1_chanceOf 77 = .ok (.if_icmp .ge 61, 3) := by decide +kernel
theorem dX1_chanceOf_80 : decode cX1_chanceOf 80 = .ok (.aload_n 0, 1) := by decide +kernel
theorem dX1_chanceOf_81 : decode cX1_chanceOf 81 = .ok (.getfield 75, 3) := by decide +kernel
theorem dX1_chanceOf_84 : decode cX1_chanceOf 84 = .ok (.aload 11, 2) := by decide +kernel
theorem dX1_chanceOf_86 : decode cX1_chanceOf 86 = .ok (.getfield 106, 3) := by decide +kernel
theorem dX1_chanceOf_89 : decode cX1_chanceOf 89 = .ok (.aload 11, 2) := by decide +kernel
theorem dX1_chanceOf_91 : decode cX1_chanceOf 91 = .ok (.iload 12, 2) := by decide +kernel
theorem dX1_chanceOf_93 : decode cX1_chanceOf 93 = .ok (.invokevirtual 109, 3) := by decide +kernel
theorem dX1_chanceOf_96 : decode cX1_chanceOf 96 = .ok (.invokevirtual 139, 3) := by decide +kernel
theorem dX1_chanceOf_99 : decode cX1_chanceOf 99 = .ok (.invokestatic 150, 3) := by decide +kernel
theorem dX1_chanceOf_102 : decode cX1_chanceOf 102 = .ok (.aload_n 0, 1) := by decide +kernel
theorem dX1_chanceOf_103 : decode cX1_chanceOf 103 = .ok (.getfield 75, 3) := by decide +kernel
theorem dX1_chanceOf_106 : decode cX1_chanceOf 106 = .ok (.getfield 138, 3) := by decide +kernel
theorem dX1_chanceOf_109 : decode cX1_chanceOf 109 = .ok (.if_icmp .gt 23, 3) := by decide +kernel
theorem dX1_chanceOf_112 : decode cX1_chanceOf 112 = .ok (.lload 5, 2) := by decide +kernel
theorem dX1_chanceOf_114 : decode cX1_chanceOf 114 = .ok (.aload_n 0, 1) := by decide +kernel
theorem dX1_chanceOf_115 : decode cX1_chanceOf 115 = .ok (.aload 11, 2) := by decide +kernel
theorem dX1_chanceOf_117 : decode cX1_chanceOf 117 = .ok (.invokevirtual 158, 3) := by decide +kernel
theorem dX1_chanceOf_120 : decode cX1_chanceOf 120 = .ok (.i2l, 1) := by decide +kernel
theorem dX1_chanceOf_121 : decode cX1_chanceOf 121 = .ok (.lmul, 1) := by decide +kernel
theorem dX1_chanceOf_122 : decode cX1_chanceOf 122 = .ok (.lstore 5, 2) := by decide +kernel
theorem dX1_chanceOf_124 : decode cX1_chanceOf 124 = .ok (.lload 7, 2) := by decide +kernel
theorem dX1_chanceOf_126 : decode cX1_chanceOf 126 = .ok (.iload 9, 2) := by decide +kernel
theorem dX1_chanceOf_128 : decode cX1_chanceOf 128 = .ok (.i2l, 1) := by decide +kernel
theorem dX1_chanceOf_129 : decode cX1_chanceOf 129 = .ok (.lmul, 1) := by decide +kernel
theorem dX1_chanceOf_130 : decode cX1_chanceOf 130 = .ok (.lstore 7, 2) := by decide +kernel
theorem dX1_chanceOf_132 : decode cX1_chanceOf 132 = .ok (.iinc 12 1, 3) := by decide +kernel
theorem dX1_chanceOf_135 : decode cX1_chanceOf 135 = .ok (.goto (-73), 3) := by decide +kernel
theorem dX1_chanceOf_138 : decode cX1_chanceOf 138 = .ok (.iinc 10 1, 3) := by decide +kernel
theorem dX1_chanceOf_141 : decode cX1_chanceOf 141 = .ok (.goto (-107), 3) := by decide +kernel
theorem dX1_chanceOf_144 : decode cX1_chanceOf 144 = .ok (.lload 5, 2) := by decide +kernel
theorem dX1_chanceOf_146 : decode cX1_chanceOf 146 = .ok (.lload 7, 2) := by decide +kernel
theorem dX1_chanceOf_148 : decode cX1_chanceOf 148 = .ok (.aload 4, 2) := by decide +kernel
theorem dX1_chanceOf_150 : decode cX1_chanceOf 150 = .ok (.invokestatic 161, 3) := by decide +kernel
theorem dX1_chanceOf_153 : decode cX1_chanceOf 153 = .ok (.return_, 1) := by decide +kernel
theorem dX1_countsOfThoseBelow_0 : decode cX1_countsOfThoseBelow 0 = .ok (.iconst 0, 1) := by decide +kernel
theorem dX1_countsOfThoseBelow_1 : decode cX1_countsOfThoseBelow 1 = .ok (.istore_n 2, 1) := by decide +kernel
theorem dX1_countsOfThoseBelow_2 : decode cX1_countsOfThoseBelow 2 = .ok (.iconst 0, 1) := by decide +kernel
theorem dX1_countsOfThoseBelow_3 : decode cX1_countsOfThoseBelow 3 = .ok (.istore_n 3, 1) := by decide +kernel
theorem dX1_countsOfThoseBelow_4 : decode cX1_countsOfThoseBelow 4 = .ok (.iload_n 3, 1) := by decide +kernel
theorem dX1_countsOfThoseBelow_5 : decode cX1_countsOfThoseBelow 5 = .ok (.iconst 4, 1) := by decide +kernel
theorem dX1_countsOfThoseBelow_6 : decode cX1_countsOfThoseBelow 6 = .ok (.if_icmp .ge 42, 3) := by decide +kernel
theorem dX1_countsOfThoseBelow_9 : decode cX1_countsOfThoseBelow 9 = .ok (.aload_n 0, 1) := by decide +kernel
theorem dX1_countsOfThoseBelow_10 : decode cX1_countsOfThoseBelow 10 = .ok (.getfield 75, 3) := by decide +kernel
theorem dX1_countsOfThoseBelow_13 : decode cX1_countsOfThoseBelow 13 = .ok (.aload_n 1, 1) := by decide +kernel
theorem dX1_countsOfThoseBelow_14 : decode cX1_countsOfThoseBelow 14 = .ok (.getfield 106, 3) := by decide +kernel
theorem dX1_countsOfThoseBelow_17 : decode cX1_countsOfThoseBelow 17 = .ok (.aload_n 1, 1) := by decide +kernel
theorem dX1_countsOfThoseBelow_18 : decode cX1_countsOfThoseBelow 18 = .ok (.aload_n 0, 1) := by decide +kernel
theorem dX1_countsOfThoseBelow_19 : decode cX1_countsOfThoseBelow 19 = .ok (.getfield 15, 3) := by decide +kernel
theorem dX1_countsOfThoseBelow_22 : decode cX1_countsOfThoseBelow 22 = .ok (.iload_n 3, 1) := by decide +kernel
theorem dX1_countsOfThoseBelow_23 : decode cX1_countsOfThoseBelow 23 = .ok (.iaload, 1) := by decide +kernel
theorem dX1_countsOfThoseBelow_24 : decode cX1_countsOfThoseBelow 24 = .ok (.invokevirtual 102, 3) := by decide +kernel
theorem dX1_countsOfThoseBelow_27 : decode cX1_countsOfThoseBelow 27 = .ok (.invokevirtual 146, 3) := by decide +kernel
theorem dX1_countsOfThoseBelow_30 : decode cX1_countsOfThoseBelow 30 = .ok (.ifCond .ne 12, 3) := by decide +kernel
theorem dX1_countsOfThoseBelow_33 : decode cX1_countsOfThoseBelow 33 = .ok (.iload_n 2, 1) := by decide +kernel
theorem dX1_countsOfThoseBelow_34 : decode cX1_countsOfThoseBelow 34 = .ok (.aload_n 0, 1) := by decide +kernel
theorem dX1_countsOfThoseBelow_35 : decode cX1_countsOfThoseBelow 35 = .ok (.getfield 18, 3) := by decide +kernel
theorem dX1_countsOfThoseBelow_38 : decode cX1_countsOfThoseBelow 38 = .ok (.iload_n 3, 1) := by decide +kernel
theorem dX1_countsOfThoseBelow_39 : decode cX1_countsOfThoseBelow 39 = .ok (.iaload, 1) := by decide +kernel
theorem dX1_countsOfThoseBelow_40 : decode cX1_countsOfThoseBelow 40 = .ok (.iadd, 1) := by decide +kernel
theorem dX1_countsOfThoseBelow_41 : decode cX1_countsOfThoseBelow 41 = .ok (.istore_n 2, 1) := by decide +kernel
theorem dX1_countsOfThoseBelow_42 : decode cX1_countsOfThoseBelow 42 = .ok (.iinc 3 1, 3) := by decide +kernel
theorem dX1_countsOfThoseBelow_45 : decode cX1_countsOfThoseBelow 45 = .ok (.goto (-41), 3) := by decide +kernel
theorem dX1_countsOfThoseBelow_48 : decode cX1_countsOfThoseBelow 48 = .ok (.iload_n 2, 1) := by decide +kernel
theorem dX1_countsOfThoseBelow_49 : decode cX1_countsOfThoseBelow 49 = .ok (.ireturn, 1) := by decide +kernel
theorem dX1_seenFrom_0 : decode cX1_seenFrom 0 = .ok (.iconst 0, 1) := by decide +kernel
theorem dX1_seenFrom_1 : decode cX1_seenFrom 1 = .ok (.istore_n 3, 1) := by decide +kernel
theorem dX1_seenFrom_2 : decode cX1_seenFrom 2 = .ok (.iconst 0, 1) := by decide +kernel
theorem dX1_seenFrom_3 : decode cX1_seenFrom 3 = .ok (.istore 4, 2) := by decide +kernel
theorem dX1_seenFrom_5 : decode cX1_seenFrom 5 = .ok (.iload 4, 2) := by decide +kernel
theorem dX1_seenFrom_7 : decode cX1_seenFrom 7 = .ok (.aload_n 0, 1) := by decide +kernel
theorem dX1_seenFrom_8 : decode cX1_seenFrom 8 = .ok (.getfield 46, 3) := by decide +kernel
theorem dX1_seenFrom_11 : decode cX1_seenFrom 11 = .ok (.if_icmp .ge 28, 3) := by decide +kernel
theorem dX1_seenFrom_14 : decode cX1_seenFrom 14 = .ok (.aload_n 0, 1) := by decide +kernel
theorem dX1_seenFrom_15 : decode cX1_seenFrom 15 = .ok (.aload_n 1, 1) := by decide +kernel
theorem dX1_seenFrom_16 : decode cX1_seenFrom 16 = .ok (.iload_n 2, 1) := by decide +kernel
theorem dX1_seenFrom_17 : decode cX1_seenFrom 17 = .ok (.iload 4, 2) := by decide +kernel
theorem dX1_seenFrom_19 : decode cX1_seenFrom 19 = .ok (.invokevirtual 165, 3) := by decide +kernel
theorem dX1_seenFrom_22 : decode cX1_seenFrom 22 = .ok (.iconst (-1), 1) := by decide +kernel
theorem dX1_seenFrom_23 : decode cX1_seenFrom 23 = .ok (.if_icmp .ne 10, 3) := by decide +kernel
theorem dX1_seenFrom_26 : decode cX1_seenFrom 26 = .ok (.iload_n 3, 1) := by decide +kernel
theorem dX1_seenFrom_27 : decode cX1_seenFrom 27 = .ok (.iconst 1, 1) := by decide +kernel
theorem dX1_seenFrom_28 : decode cX1_seenFrom 28 = .ok (.iload 4, 2) := by decide +kernel
theorem dX1_seenFrom_30 : decode cX1_seenFrom 30 = .ok (.ishl, 1) := by decide +kernel
theorem dX1_seenFrom_31 : decode cX1_seenFrom 31 = .ok (.ior, 1) := by decide +kernel
theorem dX1_seenFrom_32 : decode cX1_seenFrom 32 = .ok (.istore_n 3, 1) := by decide +kernel
theorem dX1_seenFrom_33 : decode cX1_seenFrom 33 = .ok (.iinc 4 1, 3) := by decide +kernel
theorem dX1_seenFrom_36 : decode cX1_seenFrom 36 = .ok (.goto (-31), 3) := by decide +kernel
theorem dX1_seenFrom_39 : decode cX1_seenFrom 39 = .ok (.iload_n 3, 1) := by decide +kernel
theorem dX1_seenFrom_40 : decode cX1_seenFrom 40 = .ok (.ireturn, 1) := by decide +kernel
theorem dX1_howManySee_0 : decode cX1_howManySee 0 = .ok (.iconst 0, 1) := by decide +kernel
theorem dX1_howManySee_1 : decode cX1_howManySee 1 = .ok (.istore_n 2, 1) := by decide +kernel
theorem dX1_howManySee_2 : decode cX1_howManySee 2 = .ok (.iconst 0, 1) := by decide +kernel
theorem dX1_howManySee_3 : decode cX1_howManySee 3 = .ok (.istore_n 3, 1) := by decide +kernel
theorem dX1_howManySee_4 : decode cX1_howManySee 4 = .ok (.iload_n 3, 1) := by decide +kernel
theorem dX1_howManySee_5 : decode cX1_howManySee 5 = .ok (.aload_n 0, 1) := by decide +kernel
theorem dX1_howManySee_6 : decode cX1_howManySee 6 = .ok (.getfield 42, 3) := by decide +kernel
theorem dX1_howManySee_9 : decode cX1_howManySee 9 = .ok (.if_icmp .ge 51, 3) := by decide +kernel
theorem dX1_howManySee_12 : decode cX1_howManySee 12 = .ok (.iconst 0, 1) := by decide +kernel
theorem dX1_howManySee_13 : decode cX1_howManySee 13 = .ok (.istore 4, 2) := by decide +kernel
theorem dX1_howManySee_15 : decode cX1_howManySee 15 = .ok (.iload 4, 2) := by decide +kernel
theorem dX1_howManySee_17 : decode cX1_howManySee 17 = .ok (.aload_n 0, 1) := by decide +kernel
theorem dX1_howManySee_18 : decode cX1_howManySee 18 = .ok (.getfield 23, 3) := by decide +kernel
theorem dX1_howManySee_21 : decode cX1_howManySee 21 = .ok (.iload_n 3, 1) := by decide +kernel
theorem dX1_howManySee_22 : decode cX1_howManySee 22 = .ok (.aaload, 1) := by decide +kernel
theorem dX1_howManySee_23 : decode cX1_howManySee 23 = .ok (.getfield 86, 3) := by decide +kernel
theorem dX1_howManySee_26 : decode cX1_howManySee 26 = .ok (.if_icmp .ge 28, 3) := by decide +kernel
theorem dX1_howManySee_29 : decode cX1_howManySee 29 = .ok (.aload_n 0, 1) := by decide +kernel
theorem dX1_howManySee_30 : decode cX1_howManySee 30 = .ok (.aload_n 0, 1) := by decide +kernel
theorem dX1_howManySee_31 : decode cX1_howManySee 31 = .ok (.getfield 23, 3) := by decide +kernel
theorem dX1_howManySee_34 : decode cX1_howManySee 34 = .ok (.iload_n 3, 1) := by decide +kernel
theorem dX1_howManySee_35 : decode cX1_howManySee 35 = .ok (.aaload, 1) := by decide +kernel
theorem dX1_howManySee_36 : decode cX1_howManySee 36 = .ok (.iload 4, 2) := by decide +kernel
theorem dX1_howManySee_38 : decode cX1_howManySee 38 = .ok (.invokevirtual 169, 3) := by decide +kernel
theorem dX1_howManySee_41 : decode cX1_howManySee 41 = .ok (.iload_n 1, 1) := by decide +kernel
theorem dX1_howManySee_42 : decode cX1_howManySee 42 = .ok (.if_icmp .ne 6, 3) := by decide +kernel
theorem dX1_howManySee_45 : decode cX1_howManySee 45 = .ok (.iinc 2 1, 3) := by decide +kernel
theorem dX1_howManySee_48 : decode cX1_howManySee 48 = .ok (.iinc 4 1, 3) := by decide +kernel
theorem dX1_howManySee_51 : decode cX1_howManySee 51 = .ok (.goto (-36), 3) := by decide +kernel
theorem dX1_howManySee_54 : decode cX1_howManySee 54 = .ok (.iinc 3 1, 3) := by decide +kernel
theorem dX1_howManySee_57 : decode cX1_howManySee 57 = .ok (.goto (-53), 3) := by decide +kernel
theorem dX1_howManySee_60 : decode cX1_howManySee 60 = .ok (.iload_n 2, 1) := by decide +kernel
theorem dX1_howManySee_61 : decode cX1_howManySee 61 = .ok (.ireturn, 1) := by decide +kernel
theorem dX1_firstThatMissesOne_0 : decode cX1_firstThatMissesOne 0 = .ok (.iconst 1, 1) := by decide +kernel
theorem dX1_firstThatMissesOne_1 : decode cX1_firstThatMissesOne 1 = .ok (.aload_n 0, 1) := by decide +kernel
theorem dX1_firstThatMissesOne_2 : decode cX1_firstThatMissesOne 2 = .ok (.getfield 46, 3) := by decide +kernel
theorem dX1_firstThatMissesOne_5 : decode cX1_firstThatMissesOne 5 = .ok (.ishl, 1) := by decide +kernel
theorem dX1_firstThatMissesOne_6 : decode cX1_firstThatMissesOne 6 = .ok (.iconst 1, 1) := by decide +kernel
theorem dX1_firstThatMissesOne_7 : decode cX1_firstThatMissesOne 7 = .ok (.isub, 1) := by decide +kernel
theorem dX1_firstThatMissesOne_8 : decode cX1_firstThatMissesOne 8 = .ok (.istore_n 1, 1) := by decide +kernel
theorem dX1_firstThatMissesOne_9 : decode cX1_firstThatMissesOne 9 = .ok (.iconst 0, 1) := by decide +kernel
theorem dX1_firstThatMissesOne_10 : decode cX1_firstThatMissesOne 10 = .ok (.istore_n 2, 1) := by decide +kernel
theorem dX1_firstThatMissesOne_11 : decode cX1_firstThatMissesOne 11 = .ok (.iload_n 2, 1) := by decide +kernel
theorem dX1_firstThatMissesOne_12 : decode cX1_firstThatMissesOne 12 = .ok (.aload_n 0, 1) := by decide +kernel
theorem dX1_firstThatMissesOne_13 : decode cX1_firstThatMissesOne 13 = .ok (.getfield 42, 3) := by decide +kernel
theorem dX1_firstThatMissesOne_16 : decode cX1_firstThatMissesOne 16 = .ok (.if_icmp .ge 47, 3) := by decide +kernel
theorem dX1_firstThatMissesOne_19 : decode cX1_firstThatMissesOne 19 = .ok (.iconst 0, 1) := by decide +kernel
theorem dX1_firstThatMissesOne_20 : decode cX1_firstThatMissesOne 20 = .ok (.istore_n 3, 1) := by decide +kernel
theorem dX1_firstThatMissesOne_21 : decode cX1_firstThatMissesOne 21 = .ok (.iload_n 3, 1) := by decide +kernel
theorem dX1_firstThatMissesOne_22 : decode cX1_firstThatMissesOne 22 = .ok (.aload_n 0, 1) := by decide +kernel
theorem dX1_firstThatMissesOne_23 : decode cX1_firstThatMissesOne 23 = .ok (.getfield 23, 3) := by decide +kernel
theorem dX1_firstThatMissesOne_26 : decode cX1_firstThatMissesOne 26 = .ok (.iload_n 2, 1) := by decide +kernel
theorem dX1_firstThatMissesOne_27 : decode cX1_firstThatMissesOne 27 = .ok (.aaload, 1) := by decide +kernel
theorem dX1_firstThatMissesOne_28 : decode cX1_firstThatMissesOne 28 = .ok (.getfield 86, 3) := by decide +kernel
theorem dX1_firstThatMissesOne_31 : decode cX1_firstThatMissesOne 31 = .ok (.if_icmp .ge 26, 3) := by decide +kernel
theorem dX1_firstThatMissesOne_34 : decode cX1_firstThatMissesOne 34 = .ok (.aload_n 0, 1) := by decide +kernel
theorem dX1_firstThatMissesOne_35 : decode cX1_firstThatMissesOne 35 = .ok (.aload_n 0, 1) := by decide +kernel
theorem dX1_firstThatMissesOne_36 : decode cX1_firstThatMissesOne 36 = .ok (.getfield 23, 3) := by decide +kernel
theorem dX1_firstThatMissesOne_39 : decode cX1_firstThatMissesOne 39 = .ok (.iload_n 2, 1) := by decide +kernel
theorem dX1_firstThatMissesOne_40 : decode cX1_firstThatMissesOne 40 = .ok (.aaload, 1) := by decide +kernel
theorem dX1_firstThatMissesOne_41 : decode cX1_firstThatMissesOne 41 = .ok (.iload_n 3, 1) := by decide +kernel
theorem dX1_firstThatMissesOne_42 : decode cX1_firstThatMissesOne 42 = .ok (.invokevirtual 169, 3) := by decide +kernel
theorem dX1_firstThatMissesOne_45 : decode cX1_firstThatMissesOne 45 = .ok (.iload_n 1, 1) := by decide +kernel
theorem dX1_firstThatMissesOne_46 : decode cX1_firstThatMissesOne 46 = .ok (.if_icmp .eq 5, 3) := by decide +kernel
theorem dX1_firstThatMissesOne_49 : decode cX1_firstThatMissesOne 49 = .ok (.iload_n 2, 1) := by decide +kernel
theorem dX1_firstThatMissesOne_50 : decode cX1_firstThatMissesOne 50 = .ok (.ireturn, 1) := by decide +kernel
theorem dX1_firstThatMissesOne_51 : decode cX1_firstThatMissesOne 51 = .ok (.iinc 3 1, 3) := by decide +kernel
theorem dX1_firstThatMissesOne_54 : decode cX1_firstThatMissesOne 54 = .ok (.goto (-33), 3) := by decide +kernel
theorem dX1_firstThatMissesOne_57 : decode cX1_firstThatMissesOne 57 = .ok (.iinc 2 1, 3) := by decide +kernel
theorem dX1_firstThatMissesOne_60 : decode cX1_firstThatMissesOne 60 = .ok (.goto (-49), 3) := by decide +kernel
theorem dX1_firstThatMissesOne_63 : decode cX1_firstThatMissesOne 63 = .ok (.iconst (-1), 1) := by decide +kernel
theorem dX1_firstThatMissesOne_64 : decode cX1_firstThatMissesOne 64 = .ok (.ireturn, 1) := by decide +kernel
theorem dX1_leastFloor_0 : decode cX1_leastFloor 0 = .ok (.aload_n 1, 1) := by decide +kernel
theorem dX1_leastFloor_1 : decode cX1_leastFloor 1 = .ok (.getfield 89, 3) := by decide +kernel
theorem dX1_leastFloor_4 : decode cX1_leastFloor 4 = .ok (.istore_n 3, 1) := by decide +kernel
theorem dX1_leastFloor_5 : decode cX1_leastFloor 5 = .ok (.aload_n 1, 1) := by decide +kernel
theorem dX1_leastFloor_6 : decode cX1_leastFloor 6 = .ok (.iload_n 2, 1) := by decide +kernel
theorem dX1_leastFloor_7 : decode cX1_leastFloor 7 = .ok (.putfield 89, 3) := by decide +kernel
theorem dX1_leastFloor_10 : decode cX1_leastFloor 10 = .ok (.iconst 0, 1) := by decide +kernel
theorem dX1_leastFloor_11 : decode cX1_leastFloor 11 = .ok (.istore 4, 2) := by decide +kernel
theorem dX1_leastFloor_13 : decode cX1_leastFloor 13 = .ok (.iload 4, 2) := by decide +kernel
theorem dX1_leastFloor_15 : decode cX1_leastFloor 15 = .ok (.aload_n 1, 1) := by decide +kernel
theorem dX1_leastFloor_16 : decode cX1_leastFloor 16 = .ok (.getfield 86, 3) := by decide +kernel
theorem dX1_leastFloor_19 : decode cX1_leastFloor 19 = .ok (.if_icmp .ge 62, 3) := by decide +kernel
theorem dX1_leastFloor_22 : decode cX1_leastFloor 22 = .ok (.iconst 0, 1) := by decide +kernel
theorem dX1_leastFloor_23 : decode cX1_leastFloor 23 = .ok (.istore 5, 2) := by decide +kernel
theorem dX1_leastFloor_25 : decode cX1_leastFloor 25 = .ok (.iload 5, 2) := by decide +kernel
theorem dX1_leastFloor_27 : decode cX1_leastFloor 27 = .ok (.aload_n 0, 1) := by decide +kernel
theorem dX1_leastFloor_28 : decode cX1_leastFloor 28 = .ok (.getfield 46, 3) := by decide +kernel
theorem dX1_leastFloor_31 : decode cX1_leastFloor 31 = .ok (.if_icmp .ge 44, 3) := by decide +kernel
theorem dX1_leastFloor_34 : decode cX1_leastFloor 34 = .ok (.aload_n 1, 1) := by decide +kernel
theorem dX1_leastFloor_35 : decode cX1_leastFloor 35 = .ok (.getfield 89, 3) := by decide +kernel
theorem dX1_leastFloor_38 : decode cX1_leastFloor 38 = .ok (.bipush 99, 2) := by decide +kernel
theorem dX1_leastFloor_40 : decode cX1_leastFloor 40 = .ok (.if_icmp .gt 29, 3) := by decide +kernel
theorem dX1_leastFloor_43 : decode cX1_leastFloor 43 = .ok (.aload_n 0, 1) := by decide +kernel
theorem dX1_leastFloor_44 : decode cX1_leastFloor 44 = .ok (.aload_n 1, 1) := by decide +kernel
theorem dX1_leastFloor_45 : decode cX1_leastFloor 45 = .ok (.iload 4, 2) := by decide +kernel
theorem dX1_leastFloor_47 : decode cX1_leastFloor 47 = .ok (.iload 5, 2) := by decide +kernel
theorem dX1_leastFloor_49 : decode cX1_leastFloor 49 = .ok (.invokevirtual 165, 3) := by decide +kernel
theorem dX1_leastFloor_52 : decode cX1_leastFloor 52 = .ok (.iconst (-1), 1) := by decide +kernel
theorem dX1_leastFloor_53 : decode cX1_leastFloor 53 = .ok (.if_icmp .eq 16, 3) := by decide +kernel
theorem dX1_leastFloor_56 : decode cX1_leastFloor 56 = .ok (.aload_n 1, 1) := by decide +kernel
theorem dX1_leastFloor_57 : decode cX1_leastFloor 57 = .ok (.dup, 1) := by decide +kernel
theorem dX1_leastFloor_58 : decode cX1_leastFloor 58 = .ok (.getfield 89, 3) := by decide +kernel
theorem dX1_leastFloor_61 : decode cX1_leastFloor 61 = .ok (.iconst 1, 1) := by decide +kernel
theorem dX1_leastFloor_62 : decode cX1_leastFloor 62 = .ok (.iadd, 1) := by decide +kernel
theorem dX1_leastFloor_63 : decode cX1_leastFloor 63 = .ok (.putfield 89, 3) := by decide +kernel
theorem dX1_leastFloor_66 : decode cX1_leastFloor 66 = .ok (.goto (-32), 3) := by decide +kernel
theorem dX1_leastFloor_69 : decode cX1_leastFloor 69 = .ok (.iinc 5 1, 3) := by decide +kernel
theorem dX1_leastFloor_72 : decode cX1_leastFloor 72 = .ok (.goto (-47), 3) := by decide +kernel
theorem dX1_leastFloor_75 : decode cX1_leastFloor 75 = .ok (.iinc 4 1, 3) := by decide +kernel
theorem dX1_leastFloor_78 : decode cX1_leastFloor 78 = .ok (.goto (-65), 3) := by decide +kernel
theorem dX1_leastFloor_81 : decode cX1_leastFloor 81 = .ok (.aload_n 1, 1) := by decide +kernel
theorem dX1_leastFloor_82 : decode cX1_leastFloor 82 = .ok (.getfield 89, 3) := by decide +kernel
theorem dX1_leastFloor_85 : decode cX1_leastFloor 85 = .ok (.istore 4, 2) := by decide +kernel
theorem dX1_leastFloor_87 : decode cX1_leastFloor 87 = .ok (.aload_n 1, 1) := by decide +kernel
theorem dX1_leastFloor_88 : decode cX1_leastFloor 88 = .ok (.iload_n 3, 1) := by decide +kernel
theorem dX1_leastFloor_89 : decode cX1_leastFloor 89 = .ok (.putfield 89, 3) := by decide +kernel
theorem dX1_leastFloor_92 : decode cX1_leastFloor 92 = .ok (.iload 4, 2) := by decide +kernel
theorem dX1_leastFloor_94 : decode cX1_leastFloor 94 = .ok (.bipush 99, 2) := by decide +kernel
theorem dX1_leastFloor_96 : decode cX1_leastFloor 96 = .ok (.if_icmp .gt 8, 3) := by decide +kernel
theorem dX1_leastFloor_99 : decode cX1_leastFloor 99 = .ok (.iload 4, 2) := by decide +kernel
theorem dX1_leastFloor_101 : decode cX1_leastFloor 101 = .ok (.goto 4, 3) := by decide +kernel
theorem dX1_leastFloor_104 : decode cX1_leastFloor 104 = .ok (.iconst (-1), 1) := by decide +kernel
theorem dX1_leastFloor_105 : decode cX1_leastFloor 105 = .ok (.ireturn, 1) := by decide +kernel
theorem dX1_likeOf_0 : decode cX1_likeOf 0 = .ok (.aload_n 0, 1) := by decide +kernel
theorem dX1_likeOf_1 : decode cX1_likeOf 1 = .ok (.aload_n 1, 1) := by decide +kernel
theorem dX1_likeOf_2 : decode cX1_likeOf 2 = .ok (.iload_n 2, 1) := by decide +kernel
theorem dX1_likeOf_3 : decode cX1_likeOf 3 = .ok (.invokevirtual 172, 3) := by decide +kernel
theorem dX1_likeOf_6 : decode cX1_likeOf 6 = .ok (.aload_n 0, 1) := by decide +kernel
theorem dX1_likeOf_7 : decode cX1_likeOf 7 = .ok (.getfield 79, 3) := by decide +kernel
theorem dX1_likeOf_10 : decode cX1_likeOf 10 = .ok (.iconst 0, 1) := by decide +kernel
theorem dX1_likeOf_11 : decode cX1_likeOf 11 = .ok (.aload_n 0, 1) := by decide +kernel
theorem dX1_likeOf_12 : decode cX1_likeOf 12 = .ok (.getfield 33, 3) := by decide +kernel
theorem dX1_likeOf_15 : decode cX1_likeOf 15 = .ok (.iload_n 3, 1) := by decide +kernel
theorem dX1_likeOf_16 : decode cX1_likeOf 16 = .ok (.iaload, 1) := by decide +kernel
theorem dX1_likeOf_17 : decode cX1_likeOf 17 = .ok (.iastore, 1) := by decide +kernel
theorem dX1_likeOf_18 : decode cX1_likeOf 18 = .ok (.aload_n 0, 1) := by decide +kernel
theorem dX1_likeOf_19 : decode cX1_likeOf 19 = .ok (.getfield 79, 3) := by decide +kernel
theorem dX1_likeOf_22 : decode cX1_likeOf 22 = .ok (.iconst 1, 1) := by decide +kernel
theorem dX1_likeOf_23 : decode cX1_likeOf 23 = .ok (.aload_n 0, 1) := by decide +kernel
theorem dX1_likeOf_24 : decode cX1_likeOf 24 = .ok (.getfield 30, 3) := by decide +kernel
theorem dX1_likeOf_27 : decode cX1_likeOf 27 = .ok (.iload_n 3, 1) := by decide +kernel
theorem dX1_likeOf_28 : decode cX1_likeOf 28 = .ok (.iaload, 1) := by decide +kernel
theorem dX1_likeOf_29 : decode cX1_likeOf 29 = .ok (.aload_n 0, 1) := by decide +kernel
theorem dX1_likeOf_30 : decode cX1_likeOf 30 = .ok (.getfield 59, 3) := by decide +kernel
theorem dX1_likeOf_33 : decode cX1_likeOf 33 = .ok (.iadd, 1) := by decide +kernel
theorem dX1_likeOf_34 : decode cX1_likeOf 34 = .ok (.iastore, 1) := by decide +kernel
theorem dX1_likeOf_35 : decode cX1_likeOf 35 = .ok (.aload_n 0, 1) := by decide +kernel
theorem dX1_likeOf_36 : decode cX1_likeOf 36 = .ok (.iconst 0, 1) := by decide +kernel
theorem dX1_likeOf_37 : decode cX1_likeOf 37 = .ok (.bipush 99, 2) := by decide +kernel
theorem dX1_likeOf_39 : decode cX1_likeOf 39 = .ok (.invokevirtual 176, 3) := by decide +kernel
theorem dX1_likeOf_42 : decode cX1_likeOf 42 = .ok (.ireturn, 1) := by decide +kernel
theorem dX1_worthOf_0 : decode cX1_worthOf 0 = .ok (.iconst 0, 1) := by decide +kernel
theorem dX1_worthOf_1 : decode cX1_worthOf 1 = .ok (.istore_n 3, 1) := by decide +kernel
theorem dX1_worthOf_2 : decode cX1_worthOf 2 = .ok (.iconst 0, 1) := by decide +kernel
theorem dX1_worthOf_3 : decode cX1_worthOf 3 = .ok (.istore 4, 2) := by decide +kernel
theorem dX1_worthOf_5 : decode cX1_worthOf 5 = .ok (.iload 4, 2) := by decide +kernel
theorem dX1_worthOf_7 : decode cX1_worthOf 7 = .ok (.aload_n 0, 1) := by decide +kernel
theorem dX1_worthOf_8 : decode cX1_worthOf 8 = .ok (.getfield 46, 3) := by decide +kernel
theorem dX1_worthOf_11 : decode cX1_worthOf 11 = .ok (.if_icmp .ge 32, 3) := by decide +kernel
theorem dX1_worthOf_14 : decode cX1_worthOf 14 = .ok (.aload_n 0, 1) := by decide +kernel
theorem dX1_worthOf_15 : decode cX1_worthOf 15 = .ok (.aload_n 1, 1) := by decide +kernel
theorem dX1_worthOf_16 : decode cX1_worthOf 16 = .ok (.iload_n 2, 1) := by decide +kernel
theorem dX1_worthOf_17 : decode cX1_worthOf 17 = .ok (.iload 4, 2) := by decide +kernel
theorem dX1_worthOf_19 : decode cX1_worthOf 19 = .ok (.invokevirtual 165, 3) := by decide +kernel
theorem dX1_worthOf_22 : decode cX1_worthOf 22 = .ok (.iconst (-1), 1) := by decide +kernel
theorem dX1_worthOf_23 : decode cX1_worthOf 23 = .ok (.if_icmp .ne 14, 3) := by decide +kernel
theorem dX1_worthOf_26 : decode cX1_worthOf 26 = .ok (.iload_n 3, 1) := by decide +kernel
theorem dX1_worthOf_27 : decode cX1_worthOf 27 = .ok (.aload_n 0, 1) := by decide +kernel
theorem dX1_worthOf_28 : decode cX1_worthOf 28 = .ok (.aload_n 1, 1) := by decide +kernel
theorem dX1_worthOf_29 : decode cX1_worthOf 29 = .ok (.iload_n 2, 1) := by decide +kernel
theorem dX1_worthOf_30 : decode cX1_worthOf 30 = .ok (.iload 4, 2) := by decide +kernel
theorem dX1_worthOf_32 : decode cX1_worthOf 32 = .ok (.invokevirtual 179, 3) := by decide +kernel
theorem dX1_worthOf_35 : decode cX1_worthOf 35 = .ok (.iadd, 1) := by decide +kernel
theorem dX1_worthOf_36 : decode cX1_worthOf 36 = .ok (.istore_n 3, 1) := by decide +kernel
theorem dX1_worthOf_37 : decode cX1_worthOf 37 = .ok (.iinc 4 1, 3) := by decide +kernel
theorem dX1_worthOf_40 : decode cX1_worthOf 40 = .ok (.goto (-35), 3) := by decide +kernel
theorem dX1_worthOf_43 : decode cX1_worthOf 43 = .ok (.iload_n 3, 1) := by decide +kernel
theorem dX1_worthOf_44 : decode cX1_worthOf 44 = .ok (.ireturn, 1) := by decide +kernel
theorem dX1_allWorth_0 : decode cX1_allWorth 0 = .ok (.iconst 0, 1) := by decide +kernel
theorem dX1_allWorth_1 : decode cX1_allWorth 1 = .ok (.istore_n 1, 1) := by decide +kernel
theorem dX1_allWorth_2 : decode cX1_allWorth 2 = .ok (.iconst 0, 1) := by decide +kernel
theorem dX1_allWorth_3 : decode cX1_allWorth 3 = .ok (.istore_n 2, 1) := by decide +kernel
theorem dX1_allWorth_4 : decode cX1_allWorth 4 = .ok (.iload_n 2, 1) := by decide +kernel
theorem dX1_allWorth_5 : decode cX1_allWorth 5 = .ok (.aload_n 0, 1) := by decide +kernel
theorem dX1_allWorth_6 : decode cX1_allWorth 6 = .ok (.getfield 42, 3) := by decide +kernel
theorem dX1_allWorth_9 : decode cX1_allWorth 9 = .ok (.if_icmp .ge 44, 3) := by decide +kernel
theorem dX1_allWorth_12 : decode cX1_allWorth 12 = .ok (.iconst 0, 1) := by decide +kernel
theorem dX1_allWorth_13 : decode cX1_allWorth 13 = .ok (.istore_n 3, 1) := by decide +kernel
theorem dX1_allWorth_14 : decode cX1_allWorth 14 = .ok (.iload_n 3, 1) := by decide +kernel
theorem dX1_allWorth_15 : decode cX1_allWorth 15 = .ok (.aload_n 0, 1) := by decide +kernel
theorem dX1_allWorth_16 : decode cX1_allWorth 16 = .ok (.getfield 23, 3) := by decide +kernel
theorem dX1_allWorth_19 : decode cX1_allWorth 19 = .ok (.iload_n 2, 1) := by decide +kernel
theorem dX1_allWorth_20 : decode cX1_allWorth 20 = .ok (.aaload, 1) := by decide +kernel
theorem dX1_allWorth_21 : decode cX1_allWorth 21 = .ok (.getfield 86, 3) := by decide +kernel
theorem dX1_allWorth_24 : decode cX1_allWorth 24 = .ok (.if_icmp .ge 23, 3) := by decide +kernel
theorem dX1_allWorth_27 : decode cX1_allWorth 27 = .ok (.iload_n 1, 1) := by decide +kernel
theorem dX1_allWorth_28 : decode cX1_allWorth 28 = .ok (.aload_n 0, 1) := by decide +kernel
theorem dX1_allWorth_29 : decode cX1_allWorth 29 = .ok (.aload_n 0, 1) := by decide +kernel
theorem dX1_allWorth_30 : decode cX1_allWorth 30 = .ok (.getfield 23, 3) := by decide +kernel
theorem dX1_allWorth_33 : decode cX1_allWorth 33 = .ok (.iload_n 2, 1) := by decide +kernel
theorem dX1_allWorth_34 : decode cX1_allWorth 34 = .ok (.aaload, 1) := by decide +kernel
theorem dX1_allWorth_35 : decode cX1_allWorth 35 = .ok (.iload_n 3, 1) := by decide +kernel
theorem dX1_allWorth_36 : decode cX1_allWorth 36 = .ok (.invokevirtual 182, 3) := by decide +kernel
theorem dX1_allWorth_39 : decode cX1_allWorth 39 = .ok (.iadd, 1) := by decide +kernel
theorem dX1_allWorth_40 : decode cX1_allWorth 40 = .ok (.istore_n 1, 1) := by decide +kernel
theorem dX1_allWorth_41 : decode cX1_allWorth 41 = .ok (.iinc 3 1, 3) := by decide +kernel
theorem dX1_allWorth_44 : decode cX1_allWorth 44 = .ok (.goto (-30), 3) := by decide +kernel
theorem dX1_allWorth_47 : decode cX1_allWorth 47 = .ok (.iinc 2 1, 3) := by decide +kernel
theorem dX1_allWorth_50 : decode cX1_allWorth 50 = .ok (.goto (-46), 3) := by decide +kernel
theorem dX1_allWorth_53 : decode cX1_allWorth 53 = .ok (.iload_n 1, 1) := by decide +kernel
theorem dX1_allWorth_54 : decode cX1_allWorth 54 = .ok (.ireturn, 1) := by decide +kernel
theorem dX1_priceOf_0 : decode cX1_priceOf 0 = .ok (.aload_n 0, 1) := by decide +kernel
theorem dX1_priceOf_1 : decode cX1_priceOf 1 = .ok (.aload_n 1, 1) := by decide +kernel
theorem dX1_priceOf_2 : decode cX1_priceOf 2 = .ok (.iload_n 2, 1) := by decide +kernel
theorem dX1_priceOf_3 : decode cX1_priceOf 3 = .ok (.invokevirtual 182, 3) := by decide +kernel
theorem dX1_priceOf_6 : decode cX1_priceOf 6 = .ok (.istore_n 3, 1) := by decide +kernel
theorem dX1_priceOf_7 : decode cX1_priceOf 7 = .ok (.aload_n 0, 1) := by decide +kernel
theorem dX1_priceOf_8 : decode cX1_priceOf 8 = .ok (.aload_n 1, 1) := by decide +kernel
theorem dX1_priceOf_9 : decode cX1_priceOf 9 = .ok (.iload_n 2, 1) := by decide +kernel
theorem dX1_priceOf_10 : decode cX1_priceOf 10 = .ok (.invokevirtual 172, 3) := by decide +kernel
theorem dX1_priceOf_13 : decode cX1_priceOf 13 = .ok (.aload_n 0, 1) := by decide +kernel
theorem dX1_priceOf_14 : decode cX1_priceOf 14 = .ok (.getfield 79, 3) := by decide +kernel
theorem dX1_priceOf_17 : decode cX1_priceOf 17 = .ok (.iconst 0, 1) := by decide +kernel
theorem dX1_priceOf_18 : decode cX1_priceOf 18 = .ok (.iload_n 3, 1) := by decide +kernel
theorem dX1_priceOf_19 : decode cX1_priceOf 19 = .ok (.iastore, 1) := by decide +kernel
theorem dX1_priceOf_20 : decode cX1_priceOf 20 = .ok (.aload_n 0, 1) := by decide +kernel
theorem dX1_priceOf_21 : decode cX1_priceOf 21 = .ok (.getfield 79, 3) := by decide +kernel
theorem dX1_priceOf_24 : decode cX1_priceOf 24 = .ok (.iconst 1, 1) := by decide +kernel
theorem dX1_priceOf_25 : decode cX1_priceOf 25 = .ok (.iconst 0, 1) := by decide +kernel
theorem dX1_priceOf_26 : decode cX1_priceOf 26 = .ok (.iastore, 1) := by decide +kernel
theorem dX1_priceOf_27 : decode cX1_priceOf 27 = .ok (.aload_n 0, 1) := by decide +kernel
theorem dX1_priceOf_28 : decode cX1_priceOf 28 = .ok (.iconst 1, 1) := by decide +kernel
theorem dX1_priceOf_29 : decode cX1_priceOf 29 = .ok (.sipush 999, 3) := by decide +kernel
theorem dX1_priceOf_32 : decode cX1_priceOf 32 = .ok (.invokevirtual 176, 3) := by decide +kernel
theorem dX1_priceOf_35 : decode cX1_priceOf 35 = .ok (.ireturn, 1) := by decide +kernel
theorem dX1_pricesInto_0 : decode cX1_pricesInto 0 = .ok (.iconst 0, 1) := by decide +kernel
theorem dX1_pricesInto_1 : decode cX1_pricesInto 1 = .ok (.istore_n 2, 1) := by decide +kernel
theorem dX1_pricesInto_2 : decode cX1_pricesInto 2 = .ok (.iconst 0, 1) := by decide +kernel
theorem dX1_pricesInto_3 : decode cX1_pricesInto 3 = .ok (.istore_n 3, 1) := by decide +kernel
theorem dX1_pricesInto_4 : decode cX1_pricesInto 4 = .ok (.iload_n 3, 1) := by decide +kernel
theorem dX1_pricesInto_5 : decode cX1_pricesInto 5 = .ok (.aload_n 0, 1) := by decide +kernel
theorem dX1_pricesInto_6 : decode cX1_pricesInto 6 = .ok (.getfield 42, 3) := by decide +kernel
theorem dX1_pricesInto_9 : decode cX1_pricesInto 9 = .ok (.if_icmp .ge 56, 3) := by decide +kernel
theorem dX1_pricesInto_12 : decode cX1_pricesInto 12 = .ok (.iconst 0, 1) := by decide +kernel
theorem dX1_pricesInto_13 : decode cX1_pricesInto 13 = .ok (.istore 4, 2) := by decide +kernel
theorem dX1_pricesInto_15 : decode cX1_pricesInto 15 = .ok (.iload 4, 2) := by decide +kernel
theorem dX1_pricesInto_17 : decode cX1_pricesInto 17 = .ok (.aload_n 0, 1) := by decide +kernel
theorem dX1_pricesInto_18 : decode cX1_pricesInto 18 = .ok (.getfield 23, 3) := by decide +kernel
theorem dX1_pricesInto_21 : decode cX1_pricesInto 21 = .ok (.iload_n 3, 1) := by decide +kernel
theorem dX1_pricesInto_22 : decode cX1_pricesInto 22 = .ok (.aaload, 1) := by decide +kernel
theorem dX1_pricesInto_23 : decode cX1_pricesInto 23 = .ok (.getfield 86, 3) := by decide +kernel
theorem dX1_pricesInto_26 : decode cX1_pricesInto 26 = .ok (.if_icmp .ge 33, 3) := by decide +kernel
theorem dX1_pricesInto_29 : decode cX1_pricesInto 29 = .ok (.iload_n 2, 1) := by decide +kernel
theorem dX1_pricesInto_30 : decode cX1_pricesInto 30 = .ok (.aload_n 1, 1) := by decide +kernel
theorem dX1_pricesInto_31 : decode cX1_pricesInto 31 = .ok (.arraylength, 1) := by decide +kernel
theorem dX1_pricesInto_32 : decode cX1_pricesInto 32 = .ok (.if_icmp .ge 27, 3) := by decide +kernel
theorem dX1_pricesInto_35 : decode cX1_pricesInto 35 = .ok (.aload_n 1, 1) := by decide +kernel
theorem dX1_pricesInto_36 : decode cX1_pricesInto 36 = .ok (.iload_n 2, 1) := by decide +kernel
theorem dX1_pricesInto_37 : decode cX1_pricesInto 37 = .ok (.aload_n 0, 1) := by decide +kernel
theorem dX1_pricesInto_38 : decode cX1_pricesInto 38 = .ok (.aload_n 0, 1) := by decide +kernel
theorem dX1_pricesInto_39 : decode cX1_pricesInto 39 = .ok (.getfield 23, 3) := by decide +kernel
theorem dX1_pricesInto_42 : decode cX1_pricesInto 42 = .ok (.iload_n 3, 1) := by decide +kernel
theorem dX1_pricesInto_43 : decode cX1_pricesInto 43 = .ok (.aaload, 1) := by decide +kernel
theorem dX1_pricesInto_44 : decode cX1_pricesInto 44 = .ok (.iload 4, 2) := by decide +kernel
theorem dX1_pricesInto_46 : decode cX1_pricesInto 46 = .ok (.invokevirtual 185, 3) := by decide +kernel
theorem dX1_pricesInto_49 : decode cX1_pricesInto 49 = .ok (.iastore, 1) := by decide +kernel
theorem dX1_pricesInto_50 : decode cX1_pricesInto 50 = .ok (.iinc 2 1, 3) := by decide +kernel
theorem dX1_pricesInto_53 : decode cX1_pricesInto 53 = .ok (.iinc 4 1, 3) := by decide +kernel
theorem dX1_pricesInto_56 : decode cX1_pricesInto 56 = .ok (.goto (-41), 3) := by decide +kernel
theorem dX1_pricesInto_59 : decode cX1_pricesInto 59 = .ok (.iinc 3 1, 3) := by decide +kernel
theorem dX1_pricesInto_62 : decode cX1_pricesInto 62 = .ok (.goto (-58), 3) := by decide +kernel
theorem dX1_pricesInto_65 : decode cX1_pricesInto 65 = .ok (.iload_n 2, 1) := by decide +kernel
theorem dX1_pricesInto_66 : decode cX1_pricesInto 66 = .ok (.ireturn, 1) := by decide +kernel
theorem dX1_allPrices_0 : decode cX1_allPrices 0 = .ok (.iconst 0, 1) := by decide +kernel
theorem dX1_allPrices_1 : decode cX1_allPrices 1 = .ok (.istore_n 1, 1) := by decide +kernel
theorem dX1_allPrices_2 : decode cX1_allPrices 2 = .ok (.iconst 0, 1) := by decide +kernel
theorem dX1_allPrices_3 : decode cX1_allPrices 3 = .ok (.istore_n 2, 1) := by decide +kernel
theorem dX1_allPrices_4 : decode cX1_allPrices 4 = .ok (.iload_n 2, 1) := by decide +kernel
theorem dX1_allPrices_5 : decode cX1_allPrices 5 = .ok (.aload_n 0, 1) := by decide +kernel
theorem dX1_allPrices_6 : decode cX1_allPrices 6 = .ok (.getfield 42, 3) := by decide +kernel
theorem dX1_allPrices_9 : decode cX1_allPrices 9 = .ok (.if_icmp .ge 44, 3) := by decide +kernel
theorem dX1_allPrices_12 : decode cX1_allPrices 12 = .ok (.iconst 0, 1) := by decide +kernel
theorem dX1_allPrices_13 : decode cX1_allPrices 13 = .ok (.istore_n 3, 1) := by decide +kernel
theorem dX1_allPrices_14 : decode cX1_allPrices 14 = .ok (.iload_n 3, 1) := by decide +kernel
theorem dX1_allPrices_15 : decode cX1_allPrices 15 = .ok (.aload_n 0, 1) := by decide +kernel
theorem dX1_allPrices_16 : decode cX1_allPrices 16 = .ok (.getfield 23, 3) := by decide +kernel
theorem dX1_allPrices_19 : decode cX1_allPrices 19 = .ok (.iload_n 2, 1) := by decide +kernel
theorem dX1_allPrices_20 : decode cX1_allPrices 20 = .ok (.aaload, 1) := by decide +kernel
theorem dX1_allPrices_21 : decode cX1_allPrices 21 = .ok (.getfield 86, 3) := by decide +kernel
theorem dX1_allPrices_24 : decode cX1_allPrices 24 = .ok (.if_icmp .ge 23, 3) := by decide +kernel
theorem dX1_allPrices_27 : decode cX1_allPrices 27 = .ok (.iload_n 1, 1) := by decide +kernel
theorem dX1_allPrices_28 : decode cX1_allPrices 28 = .ok (.aload_n 0, 1) := by decide +kernel
theorem dX1_allPrices_29 : decode cX1_allPrices 29 = .ok (.aload_n 0, 1) := by decide +kernel
theorem dX1_allPrices_30 : decode cX1_allPrices 30 = .ok (.getfield 23, 3) := by decide +kernel
theorem dX1_allPrices_33 : decode cX1_allPrices 33 = .ok (.iload_n 2, 1) := by decide +kernel
theorem dX1_allPrices_34 : decode cX1_allPrices 34 = .ok (.aaload, 1) := by decide +kernel
theorem dX1_allPrices_35 : decode cX1_allPrices 35 = .ok (.iload_n 3, 1) := by decide +kernel
theorem dX1_allPrices_36 : decode cX1_allPrices 36 = .ok (.invokevirtual 185, 3) := by decide +kernel
theorem dX1_allPrices_39 : decode cX1_allPrices 39 = .ok (.iadd, 1) := by decide +kernel
theorem dX1_allPrices_40 : decode cX1_allPrices 40 = .ok (.istore_n 1, 1) := by decide +kernel
theorem dX1_allPrices_41 : decode cX1_allPrices 41 = .ok (.iinc 3 1, 3) := by decide +kernel
theorem dX1_allPrices_44 : decode cX1_allPrices 44 = .ok (.goto (-30), 3) := by decide +kernel
theorem dX1_allPrices_47 : decode cX1_allPrices 47 = .ok (.iinc 2 1, 3) := by decide +kernel
theorem dX1_allPrices_50 : decode cX1_allPrices 50 = .ok (.goto (-46), 3) := by decide +kernel
theorem dX1_allPrices_53 : decode cX1_allPrices 53 = .ok (.iload_n 1, 1) := by decide +kernel
theorem dX1_allPrices_54 : decode cX1_allPrices 54 = .ok (.ireturn, 1) := by decide +kernel
theorem dX1_costOfRows_0 : decode cX1_costOfRows 0 = .ok (.iconst 0, 1) := by decide +kernel
theorem dX1_costOfRows_1 : decode cX1_costOfRows 1 = .ok (.istore_n 1, 1) := by decide +kernel
theorem dX1_costOfRows_2 : decode cX1_costOfRows 2 = .ok (.iconst 0, 1) := by decide +kernel
theorem dX1_costOfRows_3 : decode cX1_costOfRows 3 = .ok (.istore_n 2, 1) := by decide +kernel
theorem dX1_costOfRows_4 : decode cX1_costOfRows 4 = .ok (.iload_n 2, 1) := by decide +kernel
theorem dX1_costOfRows_5 : decode cX1_costOfRows 5 = .ok (.aload_n 0, 1) := by decide +kernel
theorem dX1_costOfRows_6 : decode cX1_costOfRows 6 = .ok (.getfield 42, 3) := by decide +kernel
theorem dX1_costOfRows_9 : decode cX1_costOfRows 9 = .ok (.if_icmp .ge 80, 3) := by decide +kernel
theorem dX1_costOfRows_12 : decode cX1_costOfRows 12 = .ok (.aload_n 0, 1) := by decide +kernel
theorem dX1_costOfRows_13 : decode cX1_costOfRows 13 = .ok (.iload_n 2, 1) := by decide +kernel
theorem dX1_costOfRows_14 : decode cX1_costOfRows 14 = .ok (.invokevirtual 188, 3) := by decide +kernel
theorem dX1_costOfRows_17 : decode cX1_costOfRows 17 = .ok (.istore_n 3, 1) := by decide +kernel
theorem dX1_costOfRows_18 : decode cX1_costOfRows 18 = .ok (.iload_n 3, 1) := by decide +kernel
theorem dX1_costOfRows_19 : decode cX1_costOfRows 19 = .ok (.ifCond .eq 64, 3) := by decide +kernel
theorem dX1_costOfRows_22 : decode cX1_costOfRows 22 = .ok (.aload_n 0, 1) := by decide +kernel
theorem dX1_costOfRows_23 : decode cX1_costOfRows 23 = .ok (.getfield 79, 3) := by decide +kernel
theorem dX1_costOfRows_26 : decode cX1_costOfRows 26 = .ok (.iconst 0, 1) := by decide +kernel
theorem dX1_costOfRows_27 : decode cX1_costOfRows 27 = .ok (.iconst 0, 1) := by decide +kernel
theorem dX1_costOfRows_28 : decode cX1_costOfRows 28 = .ok (.iastore, 1) := by decide +kernel
theorem dX1_costOfRows_29 : decode cX1_costOfRows 29 = .ok (.aload_n 0, 1) := by decide +kernel
theorem dX1_costOfRows_30 : decode cX1_costOfRows 30 = .ok (.getfield 79, 3) := by decide +kernel
theorem dX1_costOfRows_33 : decode cX1_costOfRows 33 = .ok (.iconst 1, 1) := by decide +kernel
theorem dX1_costOfRows_34 : decode cX1_costOfRows 34 = .ok (.iload_n 3, 1) := by decide +kernel
theorem dX1_costOfRows_35 : decode cX1_costOfRows 35 = .ok (.iastore, 1) := by decide +kernel
theorem dX1_costOfRows_36 : decode cX1_costOfRows 36 = .ok (.aload_n 0, 1) := by decide +kernel
theorem dX1_costOfRows_37 : decode cX1_costOfRows 37 = .ok (.getfield 79, 3) := by decide +kernel
theorem dX1_costOfRows_40 : decode cX1_costOfRows 40 = .ok (.iconst 2, 1) := by decide +kernel
theorem dX1_costOfRows_41 : decode cX1_costOfRows 41 = .ok (.iload_n 2, 1) := by decide +kernel
theorem dX1_costOfRows_42 : decode cX1_costOfRows 42 = .ok (.iastore, 1) := by decide +kernel
theorem dX1_costOfRows_43 : decode cX1_costOfRows 43 = .ok (.aload_n 0, 1) := by decide +kernel
theorem dX1_costOfRows_44 : decode cX1_costOfRows 44 = .ok (.getfield 79, 3) := by decide +kernel
theorem dX1_costOfRows_47 : decode cX1_costOfRows 47 = .ok (.iconst 3, 1) := by decide +kernel
theorem dX1_costOfRows_48 : decode cX1_costOfRows 48 = .ok (.iconst 0, 1) := by decide +kernel
theorem dX1_costOfRows_49 : decode cX1_costOfRows 49 = .ok (.iastore, 1) := by decide +kernel
theorem dX1_costOfRows_50 : decode cX1_costOfRows 50 = .ok (.aload_n 0, 1) := by decide +kernel
theorem dX1_costOfRows_51 : decode cX1_costOfRows 51 = .ok (.getfield 79, 3) := by decide +kernel
theorem dX1_costOfRows_54 : decode cX1_costOfRows 54 = .ok (.iconst 4, 1) := by decide +kernel
theorem dX1_costOfRows_55 : decode cX1_costOfRows 55 = .ok (.aload_n 0, 1) := by decide +kernel
theorem dX1_costOfRows_56 : decode cX1_costOfRows 56 = .ok (.getfield 23, 3) := by decide +kernel
theorem dX1_costOfRows_59 : decode cX1_costOfRows 59 = .ok (.iload_n 2, 1) := by decide +kernel
theorem dX1_costOfRows_60 : decode cX1_costOfRows 60 = .ok (.aaload, 1) := by decide +kernel
theorem dX1_costOfRows_61 : decode cX1_costOfRows 61 = .ok (.getfield 89, 3) := by decide +kernel
theorem dX1_costOfRows_64 : decode cX1_costOfRows 64 = .ok (.iastore, 1) := by decide +kernel
theorem dX1_costOfRows_65 : decode cX1_costOfRows 65 = .ok (.aload_n 0, 1) := by decide +kernel
theorem dX1_costOfRows_66 : decode cX1_costOfRows 66 = .ok (.getfield 79, 3) := by decide +kernel
theorem dX1_costOfRows_69 : decode cX1_costOfRows 69 = .ok (.iconst 5, 1) := by decide +kernel
theorem dX1_costOfRows_70 : decode cX1_costOfRows 70 = .ok (.iconst 0, 1) := by decide +kernel
theorem dX1_costOfRows_71 : decode cX1_costOfRows 71 = .ok (.iastore, 1) := by decide +kernel
theorem dX1_costOfRows_72 : decode cX1_costOfRows 72 = .ok (.iload_n 1, 1) := by decide +kernel
theorem dX1_costOfRows_73 : decode cX1_costOfRows 73 = .ok (.aload_n 0, 1) := by decide +kernel
theorem dX1_costOfRows_74 : decode cX1_costOfRows 74 = .ok (.iconst 2, 1) := by decide +kernel
theorem dX1_costOfRows_75 : decode cX1_costOfRows 75 = .ok (.sipush 999, 3) := by decide +kernel
theorem dX1_costOfRows_78 : decode cX1_costOfRows 78 = .ok (.invokevirtual 176, 3) := by decide +kernel
theorem dX1_costOfRows_81 : decode cX1_costOfRows 81 = .ok (.iadd, 1) := by decide +kernel
theorem dX1_costOfRows_82 : decode cX1_costOfRows 82 = .ok (.istore_n 1, 1) := by decide +kernel
theorem dX1_costOfRows_83 : decode cX1_costOfRows 83 = .ok (.iinc 2 1, 3) := by decide +kernel
theorem dX1_costOfRows_86 : decode cX1_costOfRows 86 = .ok (.goto (-82), 3) := by decide +kernel
theorem dX1_costOfRows_89 : decode cX1_costOfRows 89 = .ok (.iload_n 1, 1) := by decide +kernel
theorem dX1_costOfRows_90 : decode cX1_costOfRows 90 = .ok (.ireturn, 1) := by decide +kernel
theorem dX1_nameSeat_0 : decode cX1_nameSeat 0 = .ok (.aload_n 0, 1) := by decide +kernel
theorem dX1_nameSeat_1 : decode cX1_nameSeat 1 = .ok (.getfield 79, 3) := by decide +kernel
theorem dX1_nameSeat_4 : decode cX1_nameSeat 4 = .ok (.iconst 2, 1) := by decide +kernel
theorem dX1_nameSeat_5 : decode cX1_nameSeat 5 = .ok (.aload_n 1, 1) := by decide +kernel
theorem dX1_nameSeat_6 : decode cX1_nameSeat 6 = .ok (.getfield 127, 3) := by decide +kernel
theorem dX1_nameSeat_9 : decode cX1_nameSeat 9 = .ok (.iastore, 1) := by decide +kernel
theorem dX1_nameSeat_10 : decode cX1_nameSeat 10 = .ok (.aload_n 0, 1) := by decide +kernel
theorem dX1_nameSeat_11 : decode cX1_nameSeat 11 = .ok (.getfield 79, 3) := by decide +kernel
theorem dX1_nameSeat_14 : decode cX1_nameSeat 14 = .ok (.iconst 3, 1) := by decide +kernel
theorem dX1_nameSeat_15 : decode cX1_nameSeat 15 = .ok (.aload_n 1, 1) := by decide +kernel
theorem dX1_nameSeat_16 : decode cX1_nameSeat 16 = .ok (.iload_n 2, 1) := by decide +kernel
theorem dX1_nameSeat_17 : decode cX1_nameSeat 17 = .ok (.invokevirtual 109, 3) := by decide +kernel
theorem dX1_nameSeat_20 : decode cX1_nameSeat 20 = .ok (.iastore, 1) := by decide +kernel
theorem dX1_nameSeat_21 : decode cX1_nameSeat 21 = .ok (.aload_n 0, 1) := by decide +kernel
theorem dX1_nameSeat_22 : decode cX1_nameSeat 22 = .ok (.getfield 79, 3) := by decide +kernel
theorem dX1_nameSeat_25 : decode cX1_nameSeat 25 = .ok (.iconst 4, 1) := by decide +kernel
theorem dX1_nameSeat_26 : decode cX1_nameSeat 26 = .ok (.aload_n 1, 1) := by decide +kernel
theorem dX1_nameSeat_27 : decode cX1_nameSeat 27 = .ok (.invokevirtual 191, 3) := by decide +kernel
theorem dX1_nameSeat_30 : decode cX1_nameSeat 30 = .ok (.iastore, 1) := by decide +kernel
theorem dX1_nameSeat_31 : decode cX1_nameSeat 31 = .ok (.aload_n 0, 1) := by decide +kernel
theorem dX1_nameSeat_32 : decode cX1_nameSeat 32 = .ok (.getfield 79, 3) := by decide +kernel
theorem dX1_nameSeat_35 : decode cX1_nameSeat 35 = .ok (.iconst 5, 1) := by decide +kernel
theorem dX1_nameSeat_36 : decode cX1_nameSeat 36 = .ok (.aload_n 0, 1) := by decide +kernel
theorem dX1_nameSeat_37 : decode cX1_nameSeat 37 = .ok (.aload_n 1, 1) := by decide +kernel
theorem dX1_nameSeat_38 : decode cX1_nameSeat 38 = .ok (.iload_n 2, 1) := by decide +kernel
theorem dX1_nameSeat_39 : decode cX1_nameSeat 39 = .ok (.invokevirtual 98, 3) := by decide +kernel
theorem dX1_nameSeat_42 : decode cX1_nameSeat 42 = .ok (.iastore, 1) := by decide +kernel
theorem dX1_nameSeat_43 : decode cX1_nameSeat 43 = .ok (.return_, 1) := by decide +kernel
theorem dX1_byLaw_0 : decode cX1_byLaw 0 = .ok (.aload_n 0, 1) := by decide +kernel
theorem dX1_byLaw_1 : decode cX1_byLaw 1 = .ok (.getfield 52, 3) := by decide +kernel
theorem dX1_byLaw_4 : decode cX1_byLaw 4 = .ok (.ifnonnull 7, 3) := by decide +kernel
theorem dX1_byLaw_7 : decode cX1_byLaw 7 = .ok (.iconst 0, 1) := by decide +kernel
theorem dX1_byLaw_8 : decode cX1_byLaw 8 = .ok (.goto 15, 3) := by decide +kernel
theorem dX1_byLaw_11 : decode cX1_byLaw 11 = .ok (.aload_n 0, 1) := by decide +kernel
theorem dX1_byLaw_12 : decode cX1_byLaw 12 = .ok (.getfield 52, 3) := by decide +kernel
theorem dX1_byLaw_15 : decode cX1_byLaw 15 = .ok (.iload_n 1, 1) := by decide +kernel
theorem dX1_byLaw_16 : decode cX1_byLaw 16 = .ok (.aload_n 0, 1) := by decide +kernel
theorem dX1_byLaw_17 : decode cX1_byLaw 17 = .ok (.getfield 79, 3) := by decide +kernel
theorem dX1_byLaw_20 : decode cX1_byLaw 20 = .ok (.invokevirtual 194, 3) := by decide +kernel
theorem dX1_byLaw_23 : decode cX1_byLaw 23 = .ok (.istore_n 3, 1) := by decide +kernel
theorem dX1_byLaw_24 : decode cX1_byLaw 24 = .ok (.iconst 0, 1) := by decide +kernel
theorem dX1_byLaw_25 : decode cX1_byLaw 25 = .ok (.iload_n 2, 1) := by decide +kernel
theorem dX1_byLaw_26 : decode cX1_byLaw 26 = .ok (.iload_n 3, 1) := by decide +kernel
theorem dX1_byLaw_27 : decode cX1_byLaw 27 = .ok (.invokestatic 200, 3) := by decide +kernel
theorem dX1_byLaw_30 : decode cX1_byLaw 30 = .ok (.invokestatic 203, 3) := by decide +kernel
theorem dX1_byLaw_33 : decode cX1_byLaw 33 = .ok (.ireturn, 1) := by decide +kernel
theorem dX2_init_0 : decode cX2_init 0 = .ok (.aload_n 0, 1) := by decide +kernel
theorem dX2_init_1 : decode cX2_init 1 = .ok (.invokespecial 3, 3) := by decide +kernel
theorem dX2_init_4 : decode cX2_init 4 = .ok (.aload_n 0, 1) := by decide +kernel
theorem dX2_init_5 : decode cX2_init 5 = .ok (.iconst 0, 1) := by decide +kernel
theorem dX2_init_6 : decode cX2_init 6 = .ok (.putfield 9, 3) := by decide +kernel
theorem dX2_init_9 : decode cX2_init 9 = .ok (.aload_n 0, 1) := by decide +kernel
theorem dX2_init_10 : decode cX2_init 10 = .ok (.iconst 0, 1) := by decide +kernel
theorem dX2_init_11 : decode cX2_init 11 = .ok (.putfield 15, 3) := by decide +kernel
theorem dX2_init_14 : decode cX2_init 14 = .ok (.aload_n 0, 1) := by decide +kernel
theorem dX2_init_15 : decode cX2_init 15 = .ok (.iconst 0, 1) := by decide +kernel
theorem dX2_init_16 : decode cX2_init 16 = .ok (.putfield 19, 3) := by decide +kernel
theorem dX2_init_19 : decode cX2_init 19 = .ok (.aload_n 0, 1) := by decide +kernel
theorem dX2_init_20 : decode cX2_init 20 = .ok (.iconst 0, 1) := by decide +kernel
theorem dX2_init_21 : decode cX2_init 21 = .ok (.putfield 22, 3) := by decide +kernel
theorem dX2_init_24 : decode cX2_init 24 = .ok (.aload_n 0, 1) := by decide +kernel
theorem dX2_init_25 : decode cX2_init 25 = .ok (.bipush 6, 2) := by decide +kernel
theorem dX2_init_27 : decode cX2_init 27 = .ok (.newarray .int, 2) := by decide +kernel
theorem dX2_init_29 : decode cX2_init 29 = .ok (.putfield 25, 3) := by decide +kernel
theorem dX2_init_32 : decode cX2_init 32 = .ok (.aload_n 0, 1) := by decide +kernel
theorem dX2_init_33 : decode cX2_init 33 = .ok (.bipush 48, 2) := by decide +kernel
theorem dX2_init_35 : decode cX2_init 35 = .ok (.newarray .int, 2) := by decide +kernel
theorem dX2_init_37 : decode cX2_init 37 = .ok (.putfield 29, 3) := by decide +kernel
theorem dX2_init_40 : decode cX2_init 40 = .ok (.aload_n 0, 1) := by decide +kernel
theorem dX2_init_41 : decode cX2_init 41 = .ok (.iconst 4, 1) := by decide +kernel
theorem dX2_init_42 : decode cX2_init 42 = .ok (.newarray .int, 2) := by decide +kernel
theorem dX2_init_44 : decode cX2_init 44 = .ok (.putfield 32, 3) := by decide +kernel
theorem dX2_init_47 : decode cX2_init 47 = .ok (.aload_n 0, 1) := by decide +kernel
theorem dX2_init_48 : decode cX2_init 48 = .ok (.iconst 4, 1) := by decide +kernel
theorem dX2_init_49 : decode cX2_init 49 = .ok (.newarray .int, 2) := by decide +kernel
theorem dX2_init_51 : decode cX2_init 51 = .ok (.putfield 35, 3) := by decide +kernel
theorem dX2_init_54 : decode cX2_init 54 = .ok (.aload_n 0, 1) := by decide +kernel
theorem dX2_init_55 : decode cX2_init 55 = .ok (.iconst 4, 1) := by decide +kernel
theorem dX2_init_56 : decode cX2_init 56 = .ok (.newarray .int, 2) := by decide +kernel
theorem dX2_init_58 : decode cX2_init 58 = .ok (.putfield 38, 3) := by decide +kernel
theorem dX2_init_61 : decode cX2_init 61 = .ok (.aload_n 0, 1) := by decide +kernel
theorem dX2_init_62 : decode cX2_init 62 = .ok (.iconst 4, 1) := by decide +kernel
theorem dX2_init_63 : decode cX2_init 63 = .ok (.newarray .int, 2) := by decide +kernel
theorem dX2_init_65 : decode cX2_init 65 = .ok (.putfield 41, 3) := by decide +kernel
theorem dX2_init_68 : decode cX2_init 68 = .ok (.aload_n 0, 1) := by decide +kernel
theorem dX2_init_69 : decode cX2_init 69 = .ok (.iconst 4, 1) := by decide +kernel
theorem dX2_init_70 : decode cX2_init 70 = .ok (.newarray .int, 2) := by decide +kernel
theorem dX2_init_72 : decode cX2_init 72 = .ok (.putfield 44, 3) := by decide +kernel
theorem dX2_init_75 : decode cX2_init 75 = .ok (.aload_n 0, 1) := by decide +kernel
theorem dX2_init_76 : decode cX2_init 76 = .ok (.iconst 0, 1) := by decide +kernel
theorem dX2_init_77 : decode cX2_init 77 = .ok (.putfield 47, 3) := by decide +kernel
theorem dX2_init_80 : decode cX2_init 80 = .ok (.return_, 1) := by decide +kernel
theorem dX2_keep_0 : decode cX2_keep 0 = .ok (.aload_n 0, 1) := by decide +kernel
theorem dX2_keep_1 : decode cX2_keep 1 = .ok (.iconst 1, 1) := by decide +kernel
theorem dX2_keep_2 : decode cX2_keep 2 = .ok (.putfield 9, 3) := by decide +kernel
theorem dX2_keep_5 : decode cX2_keep 5 = .ok (.aload_n 0, 1) := by decide +kernel
theorem dX2_keep_6 : decode cX2_keep 6 = .ok (.iload_n 2, 1) := by decide +kernel
theorem dX2_keep_7 : decode cX2_keep 7 = .ok (.putfield 15, 3) := by decide +kernel
theorem dX2_keep_10 : decode cX2_keep 10 = .ok (.aload_n 0, 1) := by decide +kernel
theorem dX2_keep_11 : decode cX2_keep 11 = .ok (.aload_n 1, 1) := by decide +kernel
theorem dX2_keep_12 : decode cX2_keep 12 = .ok (.getfield 50, 3) := by decide +kernel
theorem dX2_keep_15 : decode cX2_keep 15 = .ok (.putfield 19, 3) := by decide +kernel
theorem dX2_keep_18 : decode cX2_keep 18 = .ok (.aload_n 0, 1) := by decide +kernel
theorem dX2_keep_19 : decode cX2_keep 19 = .ok (.aload_n 1, 1) := by decide +kernel
theorem dX2_keep_20 : decode cX2_keep 20 = .ok (.getfield 53, 3) := by decide +kernel
theorem dX2_keep_23 : decode cX2_keep 23 = .ok (.putfield 22, 3) := by decide +kernel
theorem dX2_keep_26 : decode cX2_keep 26 = .ok (.aload_n 0, 1) := by decide +kernel
theorem dX2_keep_27 : decode cX2_keep 27 = .ok (.aload_n 1, 1) := by decide +kernel
theorem dX2_keep_28 : decode cX2_keep 28 = .ok (.invokevirtual 54, 3) := by decide +kernel
theorem dX2_keep_31 : decode cX2_keep 31 = .ok (.putfield 47, 3) := by decide +kernel
theorem dX2_keep_34 : decode cX2_keep 34 = .ok (.iconst 0, 1) := by decide +kernel
theorem dX2_keep_35 : decode cX2_keep 35 = .ok (.istore_n 3, 1) := by decide +kernel
theorem dX2_keep_36 : decode cX2_keep 36 = .ok (.iload_n 3, 1) := by decide +kernel
theorem dX2_keep_37 : decode cX2_keep 37 = .ok (.aload_n 0, 1) := by decide +kernel
theorem dX2_keep_38 : decode cX2_keep 38 = .ok (.getfield 19, 3) := by decide +kernel
theorem dX2_keep_41 : decode cX2_keep 41 = .ok (.if_icmp .ge 47, 3) := by decide +kernel
theorem dX2_keep_44 : decode cX2_keep 44 = .ok (.aload_n 0, 1) := by decide +kernel
theorem dX2_keep_45 : decode cX2_keep 45 = .ok (.getfield 25, 3) := by decide +kernel
theorem dX2_keep_48 : decode cX2_keep 48 = .ok (.iload_n 3, 1) := by decide +kernel
theorem dX2_keep_49 : decode cX2_keep 49 = .ok (.aload_n 1, 1) := by decide +kernel
theorem dX2_keep_50 : decode cX2_keep 50 = .ok (.getfield 58, 3) := by decide +kernel
theorem dX2_keep_53 : decode cX2_keep 53 = .ok (.iload_n 3, 1) := by decide +kernel
theorem dX2_keep_54 : decode cX2_keep 54 = .ok (.aaload, 1) := by decide +kernel
theorem dX2_keep_55 : decode cX2_keep 55 = .ok (.getfield 62, 3) := by decide +kernel
theorem dX2_keep_58 : decode cX2_keep 58 = .ok (.iastore, 1) := by decide +kernel
theorem dX2_keep_59 : decode cX2_keep 59 = .ok (.aload_n 1, 1) := by decide +kernel
theorem dX2_keep_60 : decode cX2_keep 60 = .ok (.getfield 58, 3) := by decide +kernel
theorem dX2_keep_63 : decode cX2_keep 63 = .ok (.iload_n 3, 1) := by decide +kernel
theorem dX2_keep_64 : decode cX2_keep 64 = .ok (.aaload, 1) := by decide +kernel
theorem dX2_keep_65 : decode cX2_keep 65 = .ok (.getfield 67, 3) := by decide +kernel
theorem dX2_keep_68 : decode cX2_keep 68 = .ok (.iconst 0, 1) := by decide +kernel
theorem dX2_keep_69 : decode cX2_keep 69 = .ok (.aload_n 0, 1) := by decide +kernel
theorem dX2_keep_70 : decode cX2_keep 70 = .ok (.getfield 29, 3) := by decide +kernel
theorem dX2_keep_73 : decode cX2_keep 73 = .ok (.iload_n 3, 1) := by decide +kernel
theorem dX2_keep_74 : decode cX2_keep 74 = .ok (.bipush 8, 2) := by decide +kernel
theorem dX2_keep_76 : decode cX2_keep 76 = .ok (.imul, 1) := by decide +kernel
theorem dX2_keep_77 : decode cX2_keep 77 = .ok (.bipush 8, 2) := by decide +kernel
theorem dX2_keep_79 : decode cX2_keep 79 = .ok (.invokestatic 68, 3) := by decide +kernel
theorem dX2_keep_82 : decode cX2_keep 82 = .ok (.iinc 3 1, 3) := by decide +kernel
theorem dX2_keep_85 : decode cX2_keep 85 = .ok (.goto (-49), 3) := by decide +kernel
theorem dX2_keep_88 : decode cX2_keep 88 = .ok (.aload_n 1, 1) := by decide +kernel
theorem dX2_keep_89 : decode cX2_keep 89 = .ok (.getfield 74, 3) := by decide +kernel
theorem dX2_keep_92 : decode cX2_keep 92 = .ok (.iconst 0, 1) := by decide +kernel
theorem dX2_keep_93 : decode cX2_keep 93 = .ok (.aload_n 0, 1) := by decide +kernel
theorem dX2_keep_94 : decode cX2_keep 94 = .ok (.getfield 32, 3) := by decide +kernel
theorem dX2_keep_97 : decode cX2_keep 97 = .ok (.iconst 0, 1) := by decide +kernel
theorem dX2_keep_98 : decode cX2_keep 98 = .ok (.iconst 4, 1) := by decide +kernel
theorem dX2_keep_99 : decode cX2_keep 99 = .ok (.invokestatic 68, 3) := by decide +kernel
theorem dX2_keep_102 : decode cX2_keep 102 = .ok (.aload_n 1, 1) := by decide +kernel
theorem dX2_keep_103 : decode cX2_keep 103 = .ok (.getfield 75, 3) := by decide +kernel
theorem dX2_keep_106 : decode cX2_keep 106 = .ok (.iconst 0, 1) := by decide +kernel
theorem dX2_keep_107 : decode cX2_keep 107 = .ok (.aload_n 0, 1) := by decide +kernel
theorem dX2_keep_108 : decode cX2_keep 108 = .ok (.getfield 35, 3) := by decide +kernel
theorem dX2_keep_111 : decode cX2_keep 111 = .ok (.iconst 0, 1) := by decide +kernel
theorem dX2_keep_112 : decode cX2_keep 112 = .ok (.iconst 4, 1) := by decide +kernel
theorem dX2_keep_113 : decode cX2_keep 113 = .ok (.invokestatic 68, 3) := by decide +kernel
theorem dX2_keep_116 : decode cX2_keep 116 = .ok (.aload_n 1, 1) := by decide +kernel
theorem dX2_keep_117 : decode cX2_keep 117 = .ok (.getfield 76, 3) := by decide +kernel
theorem dX2_keep_120 : decode cX2_keep 120 = .ok (.iconst 0, 1) := by decide +kernel
theorem dX2_keep_121 : decode cX2_keep 121 = .ok (.aload_n 0, 1) := by decide +kernel
theorem dX2_keep_122 : decode cX2_keep 122 = .ok (.getfield 38, 3) := by decide +kernel
theorem dX2_keep_125 : decode cX2_keep 125 = .ok (.iconst 0, 1) := by decide +kernel
theorem dX2_keep_126 : decode cX2_keep 126 = .ok (.iconst 4, 1) := by decide +kernel
theorem dX2_keep_127 : decode cX2_keep 127 = .ok (.invokestatic 68, 3) := by decide +kernel
theorem dX2_keep_130 : decode cX2_keep 130 = .ok (.aload_n 1, 1) := by decide +kernel
theorem dX2_keep_131 : decode cX2_keep 131 = .ok (.getfield 77, 3) := by decide +kernel
theorem dX2_keep_134 : decode cX2_keep 134 = .ok (.iconst 0, 1) := by decide +kernel
theorem dX2_keep_135 : decode cX2_keep 135 = .ok (.aload_n 0, 1) := by decide +kernel
theorem dX2_keep_136 : decode cX2_keep 136 = .ok (.getfield 41, 3) := by decide +kernel
theorem dX2_keep_139 : decode cX2_keep 139 = .ok (.iconst 0, 1) := by decide +kernel
theorem dX2_keep_140 : decode cX2_keep 140 = .ok (.aload_n 0, 1) := by decide +kernel
theorem dX2_keep_141 : decode cX2_keep 141 = .ok (.getfield 22, 3) := by decide +kernel
theorem dX2_keep_144 : decode cX2_keep 144 = .ok (.invokestatic 68, 3) := by decide +kernel
theorem dX2_keep_147 : decode cX2_keep 147 = .ok (.aload_n 1, 1) := by decide +kernel
theorem dX2_keep_148 : decode cX2_keep 148 = .ok (.getfield 78, 3) := by decide +kernel
theorem dX2_keep_151 : decode cX2_keep 151 = .ok (.iconst 0, 1) := by decide +kernel
theorem dX2_keep_152 : decode cX2_keep 152 = .ok (.aload_n 0, 1) := by decide +kernel
theorem dX2_keep_153 : decode cX2_keep 153 = .ok (.getfield 44, 3) := by decide +kernel
theorem dX2_keep_156 : decode cX2_keep 156 = .ok (.iconst 0, 1) := by decide +kernel
theorem dX2_keep_157 : decode cX2_keep 157 = .ok (.aload_n 0, 1) := by decide +kernel
theorem dX2_keep_158 : decode cX2_keep 158 = .ok (.getfield 22, 3) := by decide +kernel
theorem dX2_keep_161 : decode cX2_keep 161 = .ok (.invokestatic 68, 3) := by decide +kernel
theorem dX2_keep_164 : decode cX2_keep 164 = .ok (.return_, 1) := by decide +kernel
theorem dX2_restore_0 : decode cX2_restore 0 = .ok (.iconst 0, 1) := by decide +kernel
theorem dX2_restore_1 : decode cX2_restore 1 = .ok (.istore_n 2, 1) := by decide +kernel
theorem dX2_restore_2 : decode cX2_restore 2 = .ok (.iload_n 2, 1) := by decide +kernel
theorem dX2_restore_3 : decode cX2_restore 3 = .ok (.aload_n 0, 1) := by decide +kernel
theorem dX2_restore_4 : decode cX2_restore 4 = .ok (.getfield 19, 3) := by decide +kernel
theorem dX2_restore_7 : decode cX2_restore 7 = .ok (.if_icmp .ge 64, 3) := by decide +kernel
theorem dX2_restore_10 : decode cX2_restore 10 = .ok (.aload_n 1, 1) := by decide +kernel
theorem dX2_restore_11 : decode cX2_restore 11 = .ok (.getfield 58, 3) := by decide +kernel
theorem dX2_restore_14 : decode cX2_restore 14 = .ok (.iload_n 2, 1) := by decide +kernel
theorem dX2_restore_15 : decode cX2_restore 15 = .ok (.aaload, 1) := by decide +kernel
theorem dX2_restore_16 : decode cX2_restore 16 = .ok (.aload_n 0, 1) := by decide +kernel
theorem dX2_restore_17 : decode cX2_restore 17 = .ok (.getfield 25, 3) := by decide +kernel
theorem dX2_restore_20 : decode cX2_restore 20 = .ok (.iload_n 2, 1) := by decide +kernel
theorem dX2_restore_21 : decode cX2_restore 21 = .ok (.iaload, 1) := by decide +kernel
theorem dX2_restore_22 : decode cX2_restore 22 = .ok (.putfield 62, 3) := by decide +kernel
theorem dX2_restore_25 : decode cX2_restore 25 = .ok (.aload_n 1, 1) := by decide +kernel
theorem dX2_restore_26 : decode cX2_restore 26 = .ok (.getfield 58, 3) := by decide +kernel
theorem dX2_restore_29 : decode cX2_restore 29 = .ok (.iload_n 2, 1) := by decide +kernel
theorem dX2_restore_30 : decode cX2_restore 30 = .ok (.aaload, 1) := by decide +kernel
theorem dX2_restore_31 : decode cX2_restore 31 = .ok (.aload_n 0, 1) := by decide +kernel
theorem dX2_restore_32 : decode cX2_restore 32 = .ok (.getfield 47, 3) := by decide +kernel
theorem dX2_restore_35 : decode cX2_restore 35 = .ok (.iload_n 2, 1) := by decide +kernel
theorem dX2_restore_36 : decode cX2_restore 36 = .ok (.ishr, 1) := by decide +kernel
theorem dX2_restore_37 : decode cX2_restore 37 = .ok (.iconst 1, 1) := by decide +kernel
theorem dX2_restore_38 : decode cX2_restore 38 = .ok (.iand, 1) := by decide +kernel
theorem dX2_restore_39 : decode cX2_restore 39 = .ok (.putfield 79, 3) := by decide +kernel
theorem dX2_restore_42 : decode cX2_restore 42 = .ok (.aload_n 0, 1) := by decide +kernel
theorem dX2_restore_43 : decode cX2_restore 43 = .ok (.getfield 29, 3) := by decide +kernel
theorem dX2_restore_46 : decode cX2_restore 46 = .ok (.iload_n 2, 1) := by decide +kernel
theorem dX2_restore_47 : decode cX2_restore 47 = .ok (.bipush 8, 2) := by decide +kernel
theorem dX2_restore_49 : decode cX2_restore 49 = .ok (.imul, 1) := by decide +kernel
theorem dX2_restore_50 : decode cX2_restore 50 = .ok (.aload_n 1, 1) := by decide +kernel
theorem dX2_restore_51 : decode cX2_restore 51 = .ok (.getfield 58, 3) := by decide +kernel
theorem dX2_restore_54 : decode cX2_restore 54 = .ok (.iload_n 2, 1) := by decide +kernel
theorem dX2_restore_55 : decode cX2_restore 55 = .ok (.aaload, 1) := by decide +kernel
theorem dX2_restore_56 : decode cX2_restore 56 = .ok (.getfield 67, 3) := by decide +kernel
theorem dX2_restore_59 : decode cX2_restore 59 = .ok (.iconst 0, 1) := by decide +kernel
theorem dX2_restore_60 : decode cX2_restore 60 = .ok (.bipush 8, 2) := by decide +kernel
theorem dX2_restore_62 : decode cX2_restore 62 = .ok (.invokestatic 68, 3) := by decide +kernel
theorem dX2_restore_65 : decode cX2_restore 65 = .ok (.iinc 2 1, 3) := by decide +kernel
theorem dX2_restore_68 : decode cX2_restore 68 = .ok (.goto (-66), 3) := by decide +kernel
theorem dX2_restore_71 : decode cX2_restore 71 = .ok (.aload_n 0, 1) := by decide +kernel
theorem dX2_restore_72 : decode cX2_restore 72 = .ok (.getfield 32, 3) := by decide +kernel
theorem dX2_restore_75 : decode cX2_restore 75 = .ok (.iconst 0, 1) := by decide +kernel
theorem dX2_restore_76 : decode cX2_restore 76 = .ok (.aload_n 1, 1) := by decide +kernel
theorem dX2_restore_77 : decode cX2_restore 77 = .ok (.getfield 74, 3) := by decide +kernel
theorem dX2_restore_80 : decode cX2_restore 80 = .ok (.iconst 0, 1) := by decide +kernel
theorem dX2_restore_81 : decode cX2_restore 81 = .ok (.iconst 4, 1) := by decide +kernel
theorem dX2_restore_82 : decode cX2_restore 82 = .ok (.invokestatic 68, 3) := by decide +kernel
theorem dX2_restore_85 : decode cX2_restore 85 = .ok (.aload_n 0, 1) := by decide +kernel
theorem dX2_restore_86 : decode cX2_restore 86 = .ok (.getfield 35, 3) := by decide +kernel
theorem dX2_restore_89 : decode cX2_restore 89 = .ok (.iconst 0, 1) := by decide +kernel
theorem dX2_restore_90 : decode cX2_restore 90 = .ok (.aload_n 1, 1) := by decide +kernel
theorem dX2_restore_91 : decode cX2_restore 91 = .ok (.getfield 75, 3) := by decide +kernel
theorem dX2_restore_94 : decode cX2_restore 94 = .ok (.iconst 0, 1) := by decide +kernel
theorem dX2_restore_95 : decode cX2_restore 95 = .ok (.iconst 4, 1) := by decide +kernel
theorem dX2_restore_96 : decode cX2_restore 96 = .ok (.invokestatic 68, 3) := by decide +kernel
theorem dX2_restore_99 : decode cX2_restore 99 = .ok (.aload_n 0, 1) := by decide +kernel
theorem dX2_restore_100 : decode cX2_restore 100 = .ok (.getfield 38, 3) := by decide +kernel
theorem dX2_restore_103 : decode cX2_restore 103 = .ok (.iconst 0, 1) := by decide +kernel
theorem dX2_restore_104 : decode cX2_restore 104 = .ok (.aload_n 1, 1) := by decide +kernel
theorem dX2_restore_105 : decode cX2_restore 105 = .ok (.getfield 76, 3) := by decide +kernel
theorem dX2_restore_108 : decode cX2_restore 108 = .ok (.iconst 0, 1) := by decide +kernel
theorem dX2_restore_109 : decode cX2_restore 109 = .ok (.iconst 4, 1) := by decide +kernel
theorem dX2_restore_110 : decode cX2_restore 110 = .ok (.invokestatic 68, 3) := by decide +kernel
theorem dX2_restore_113 : decode cX2_restore 113 = .ok (.aload_n 0, 1) := by decide +kernel
theorem dX2_restore_114 : decode cX2_restore 114 = .ok (.getfield 41, 3) := by decide +kernel
theorem dX2_restore_117 : decode cX2_restore 117 = .ok (.iconst 0, 1) := by decide +kernel
theorem dX2_restore_118 : decode cX2_restore 118 = .ok (.aload_n 1, 1) := by decide +kernel
theorem dX2_restore_119 : decode cX2_restore 119 = .ok (.getfield 77, 3) := by decide +kernel
theorem dX2_restore_122 : decode cX2_restore 122 = .ok (.iconst 0, 1) := by decide +kernel
theorem dX2_restore_123 : decode cX2_restore 123 = .ok (.aload_n 0, 1) := by decide +kernel
theorem dX2_restore_124 : decode cX2_restore 124 = .ok (.getfield 22, 3) := by decide +kernel
theorem dX2_restore_127 : decode cX2_restore 127 = .ok (.invokestatic 68, 3) := by decide +kernel
theorem dX2_restore_130 : decode cX2_restore 130 = .ok (.aload_n 0, 1) := by decide +kernel
theorem dX2_restore_131 : decode cX2_restore 131 = .ok (.getfield 44, 3) := by decide +kernel
theorem dX2_restore_134 : decode cX2_restore 134 = .ok (.iconst 0, 1) := by decide +kernel
theorem dX2_restore_135 : decode cX2_restore 135 = .ok (.aload_n 1, 1) := by decide +kernel
theorem dX2_restore_136 : decode cX2_restore 136 = .ok (.getfield 78, 3) := by decide +kernel
theorem dX2_restore_139 : decode cX2_restore 139 = .ok (.iconst 0, 1) := by decide +kernel
theorem dX2_restore_140 : decode cX2_restore 140 = .ok (.aload_n 0, 1) := by decide +kernel
theorem dX2_restore_141 : decode cX2_restore 141 = .ok (.getfield 22, 3) := by decide +kernel
theorem dX2_restore_144 : decode cX2_restore 144 = .ok (.invokestatic 68, 3) := by decide +kernel
theorem dX2_restore_147 : decode cX2_restore 147 = .ok (.return_, 1) := by decide +kernel
theorem dX4_init_0 : decode cX4_init 0 = .ok (.aload_n 0, 1) := by decide +kernel
theorem dX4_init_1 : decode cX4_init 1 = .ok (.invokespecial 1, 3) := by decide +kernel
theorem dX4_init_4 : decode cX4_init 4 = .ok (.return_, 1) := by decide +kernel
theorem dX4_lay_0 : decode cX4_lay 0 = .ok (.aload_n 0, 1) := by decide +kernel
theorem dX4_lay_1 : decode cX4_lay 1 = .ok (.iload_n 1, 1) := by decide +kernel
theorem dX4_lay_2 : decode cX4_lay 2 = .ok (.putfield 7, 3) := by decide +kernel
theorem dX4_lay_5 : decode cX4_lay 5 = .ok (.aload_n 0, 1) := by decide +kernel
theorem dX4_lay_6 : decode cX4_lay 6 = .ok (.iload 4, 2) := by decide +kernel
theorem dX4_lay_8 : decode cX4_lay 8 = .ok (.putfield 13, 3) := by decide +kernel
theorem dX4_lay_11 : decode cX4_lay 11 = .ok (.aload_n 0, 1) := by decide +kernel
theorem dX4_lay_12 : decode cX4_lay 12 = .ok (.iload_n 2, 1) := by decide +kernel
theorem dX4_lay_13 : decode cX4_lay 13 = .ok (.iload 4, 2) := by decide +kernel
theorem dX4_lay_15 : decode cX4_lay 15 = .ok (.isub, 1) := by decide +kernel
theorem dX4_lay_16 : decode cX4_lay 16 = .ok (.putfield 16, 3) := by decide +kernel
theorem dX4_lay_19 : decode cX4_lay 19 = .ok (.aload_n 0, 1) := by decide +kernel
theorem dX4_lay_20 : decode cX4_lay 20 = .ok (.iload 5, 2) := by decide +kernel
theorem dX4_lay_22 : decode cX4_lay 22 = .ok (.putfield 19, 3) := by decide +kernel
theorem dX4_lay_25 : decode cX4_lay 25 = .ok (.aload_n 0, 1) := by decide +kernel
theorem dX4_lay_26 : decode cX4_lay 26 = .ok (.iload_n 3, 1) := by decide +kernel
theorem dX4_lay_27 : decode cX4_lay 27 = .ok (.iload 5, 2) := by decide +kernel
theorem dX4_lay_29 : decode cX4_lay 29 = .ok (.isub, 1) := by decide +kernel
theorem dX4_lay_30 : decode cX4_lay 30 = .ok (.putfield 22, 3) := by decide +kernel
theorem dX4_lay_33 : decode cX4_lay 33 = .ok (.return_, 1) := by decide +kernel
theorem dX4_besides_0 : decode cX4_besides 0 = .ok (.aload_n 0, 1) := by decide +kernel
theorem dX4_besides_1 : decode cX4_besides 1 = .ok (.getfield 13, 3) := by decide +kernel
theorem dX4_besides_4 : decode cX4_besides 4 = .ok (.iload_n 2, 1) := by decide +kernel
theorem dX4_besides_5 : decode cX4_besides 5 = .ok (.isub, 1) := by decide +kernel
theorem dX4_besides_6 : decode cX4_besides 6 = .ok (.aload_n 0, 1) := by decide +kernel
theorem dX4_besides_7 : decode cX4_besides 7 = .ok (.getfield 7, 3) := by decide +kernel
theorem dX4_besides_10 : decode cX4_besides 10 = .ok (.imul, 1) := by decide +kernel
theorem dX4_besides_11 : decode cX4_besides 11 = .ok (.aload_n 0, 1) := by decide +kernel
theorem dX4_besides_12 : decode cX4_besides 12 = .ok (.getfield 16, 3) := by decide +kernel
theorem dX4_besides_15 : decode cX4_besides 15 = .ok (.iload_n 1, 1) := by decide +kernel
theorem dX4_besides_16 : decode cX4_besides 16 = .ok (.imul, 1) := by decide +kernel
theorem dX4_besides_17 : decode cX4_besides 17 = .ok (.iadd, 1) := by decide +kernel
theorem dX4_besides_18 : decode cX4_besides 18 = .ok (.ireturn, 1) := by decide +kernel
theorem dX4_isTouchedBy_0 : decode cX4_isTouchedBy 0 = .ok (.iload_n 2, 1) := by decide +kernel
theorem dX4_isTouchedBy_1 : decode cX4_isTouchedBy 1 = .ok (.aload_n 0, 1) := by decide +kernel
theorem dX4_isTouchedBy_2 : decode cX4_isTouchedBy 2 = .ok (.getfield 7, 3) := by decide +kernel
theorem dX4_isTouchedBy_5 : decode cX4_isTouchedBy 5 = .ok (.imul, 1) := by decide +kernel
theorem dX4_isTouchedBy_6 : decode cX4_isTouchedBy 6 = .ok (.aload_n 0, 1) := by decide +kernel
theorem dX4_isTouchedBy_7 : decode cX4_isTouchedBy 7 = .ok (.getfield 19, 3) := by decide +kernel
theorem dX4_isTouchedBy_10 : decode cX4_isTouchedBy 10 = .ok (.aload_n 0, 1) := by decide +kernel
theorem dX4_isTouchedBy_11 : decode cX4_isTouchedBy 11 = .ok (.getfield 7, 3) := by decide +kernel
theorem dX4_isTouchedBy_14 : decode cX4_isTouchedBy 14 = .ok (.imul, 1) := by decide +kernel
theorem dX4_isTouchedBy_15 : decode cX4_isTouchedBy 15 = .ok (.aload_n 0, 1) := by decide +kernel
theorem dX4_isTouchedBy_16 : decode cX4_isTouchedBy 16 = .ok (.getfield 22, 3) := by decide +kernel
theorem dX4_isTouchedBy_19 : decode cX4_isTouchedBy 19 = .ok (.iload_n 1, 1) := by decide +kernel
theorem dX4_isTouchedBy_20 : decode cX4_isTouchedBy 20 = .ok (.imul, 1) := by decide +kernel
theorem dX4_isTouchedBy_21 : decode cX4_isTouchedBy 21 = .ok (.iadd, 1) := by decide +kernel
theorem dX4_isTouchedBy_22 : decode cX4_isTouchedBy 22 = .ok (.if_icmp .lt 7, 3) := by decide +kernel
theorem dX4_isTouchedBy_25 : decode cX4_isTouchedBy 25 = .ok (.iconst 1, 1) := by decide +kernel
theorem dX4_isTouchedBy_26 : decode cX4_isTouchedBy 26 = .ok (.goto 4, 3) := by decide +kernel
theorem dX4_isTouchedBy_29 : decode cX4_isTouchedBy 29 = .ok (.iconst 0, 1) := by decide +kernel
theorem dX4_isTouchedBy_30 : decode cX4_isTouchedBy 30 = .ok (.ireturn, 1) := by decide +kernel
theorem dX7_init_0 : decode cX7_init 0 = .ok (.aload_n 0, 1) := by decide +kernel
theorem dX7_init_1 : decode cX7_init 1 = .ok (.invokespecial 3, 3) := by decide +kernel
theorem dX7_init_4 : decode cX7_init 4 = .ok (.aload_n 0, 1) := by decide +kernel
theorem dX7_init_5 : decode cX7_init 5 = .ok (.iconst (-1), 1) := by decide +kernel
theorem dX7_init_6 : decode cX7_init 6 = .ok (.putfield 11, 3) := by decide +kernel
theorem dX7_init_9 : decode cX7_init 9 = .ok (.aload_n 0, 1) := by decide +kernel
theorem dX7_init_10 : decode cX7_init 10 = .ok (.aconst_null, 1) := by decide +kernel
theorem dX7_init_11 : decode cX7_init 11 = .ok (.putfield 15, 3) := by decide +kernel
theorem dX7_init_14 : decode cX7_init 14 = .ok (.aload_n 0, 1) := by decide +kernel
theorem dX7_init_15 : decode cX7_init 15 = .ok (.iconst 0, 1) := by decide +kernel
theorem dX7_init_16 : decode cX7_init 16 = .ok (.putfield 19, 3) := by decide +kernel
theorem dX7_init_19 : decode cX7_init 19 = .ok (.aload_n 0, 1) := by decide +kernel
theorem dX7_init_20 : decode cX7_init 20 = .ok (.iconst 0, 1) := by decide +kernel
theorem dX7_init_21 : decode cX7_init 21 = .ok (.putfield 22, 3) := by decide +kernel
theorem dX7_init_24 : decode cX7_init 24 = .ok (.aload_n 0, 1) := by decide +kernel
theorem dX7_init_25 : decode cX7_init 25 = .ok (.iconst 0, 1) := by decide +kernel
theorem dX7_init_26 : decode cX7_init 26 = .ok (.putfield 25, 3) := by decide +kernel
theorem dX7_init_29 : decode cX7_init 29 = .ok (.aload_n 0, 1) := by decide +kernel
theorem dX7_init_30 : decode cX7_init 30 = .ok (.iconst 0, 1) := by decide +kernel
theorem dX7_init_31 : decode cX7_init 31 = .ok (.putfield 28, 3) := by decide +kernel
theorem dX7_init_34 : decode cX7_init 34 = .ok (.aload_n 0, 1) := by decide +kernel
theorem dX7_init_35 : decode cX7_init 35 = .ok (.iconst 0, 1) := by decide +kernel
theorem dX7_init_36 : decode cX7_init 36 = .ok (.putfield 31, 3) := by decide +kernel
theorem dX7_init_39 : decode cX7_init 39 = .ok (.aload_n 0, 1) := by decide +kernel
theorem dX7_init_40 : decode cX7_init 40 = .ok (.iconst 0, 1) := by decide +kernel
theorem dX7_init_41 : decode cX7_init 41 = .ok (.putfield 34, 3) := by decide +kernel
theorem dX7_init_44 : decode cX7_init 44 = .ok (.aload_n 0, 1) := by decide +kernel
theorem dX7_init_45 : decode cX7_init 45 = .ok (.sipush 160, 3) := by decide +kernel
theorem dX7_init_48 : decode cX7_init 48 = .ok (.newarray .int, 2) := by decide +kernel
theorem dX7_init_50 : decode cX7_init 50 = .ok (.putfield 37, 3) := by decide +kernel
theorem dX7_init_53 : decode cX7_init 53 = .ok (.aload_n 0, 1) := by decide +kernel
theorem dX7_init_54 : decode cX7_init 54 = .ok (.iconst 3, 1) := by decide +kernel
theorem dX7_init_55 : decode cX7_init 55 = .ok (.newarray .int, 2) := by decide +kernel
theorem dX7_init_57 : decode cX7_init 57 = .ok (.putfield 41, 3) := by decide +kernel
theorem dX7_init_60 : decode cX7_init 60 = .ok (.aload_n 0, 1) := by decide +kernel
theorem dX7_init_61 : decode cX7_init 61 = .ok (.iconst 0, 1) := by decide +kernel
theorem dX7_init_62 : decode cX7_init 62 = .ok (.putfield 44, 3) := by decide +kernel
theorem dX7_init_65 : decode cX7_init 65 = .ok (.return_, 1) := by decide +kernel
theorem dX7_read_0 : decode cX7_read 0 = .ok (.aload_n 0, 1) := by decide +kernel
theorem dX7_read_1 : decode cX7_read 1 = .ok (.aload_n 1, 1) := by decide +kernel
theorem dX7_read_2 : decode cX7_read 2 = .ok (.putfield 15, 3) := by decide +kernel
theorem dX7_read_5 : decode cX7_read 5 = .ok (.aload_n 0, 1) := by decide +kernel
theorem dX7_read_6 : decode cX7_read 6 = .ok (.iload_n 2, 1) := by decide +kernel
theorem dX7_read_7 : decode cX7_read 7 = .ok (.aload_n 1, 1) := by decide +kernel
theorem dX7_read_8 : decode cX7_read 8 = .ok (.arraylength, 1) := by decide +kernel
theorem dX7_read_9 : decode cX7_read 9 = .ok (.invokestatic 47, 3) := by decide +kernel
theorem dX7_read_12 : decode cX7_read 12 = .ok (.putfield 19, 3) := by decide +kernel
theorem dX7_read_15 : decode cX7_read 15 = .ok (.aload_n 0, 1) := by decide +kernel
theorem dX7_read_16 : decode cX7_read 16 = .ok (.iconst 0, 1) := by decide +kernel
theorem dX7_read_17 : decode cX7_read 17 = .ok (.putfield 22, 3) := by decide +kernel
theorem dX7_read_20 : decode cX7_read 20 = .ok (.aload_n 0, 1) := by decide +kernel
theorem dX7_read_21 : decode cX7_read 21 = .ok (.iconst 0, 1) := by decide +kernel
theorem dX7_read_22 : decode cX7_read 22 = .ok (.putfield 34, 3) := by decide +kernel
theorem dX7_read_25 : decode cX7_read 25 = .ok (.aload_n 0, 1) := by decide +kernel
theorem dX7_read_26 : decode cX7_read 26 = .ok (.iconst 0, 1) := by decide +kernel
theorem dX7_read_27 : decode cX7_read 27 = .ok (.putfield 44, 3) := by decide +kernel
theorem dX7_read_30 : decode cX7_read 30 = .ok (.aload_n 0, 1) := by decide +kernel
theorem dX7_read_31 : decode cX7_read 31 = .ok (.iconst (-1), 1) := by decide +kernel
theorem dX7_read_32 : decode cX7_read 32 = .ok (.putfield 11, 3) := by decide +kernel
theorem dX7_read_35 : decode cX7_read 35 = .ok (.aload_n 0, 1) := by decide +kernel
theorem dX7_read_36 : decode cX7_read 36 = .ok (.invokevirtual 53, 3) := by decide +kernel
theorem dX7_read_39 : decode cX7_read 39 = .ok (.iconst 0, 1) := by decide +kernel
theorem dX7_read_40 : decode cX7_read 40 = .ok (.istore_n 3, 1) := by decide +kernel
theorem dX7_read_41 : decode cX7_read 41 = .ok (.iload_n 3, 1) := by decide +kernel
theorem dX7_read_42 : decode cX7_read 42 = .ok (.iconst 3, 1) := by decide +kernel
theorem dX7_read_43 : decode cX7_read 43 = .ok (.if_icmp .ge 54, 3) := by decide +kernel
theorem dX7_read_46 : decode cX7_read 46 = .ok (.aload_n 0, 1) := by decide +kernel
theorem dX7_read_47 : decode cX7_read 47 = .ok (.iload_n 3, 1) := by decide +kernel
theorem dX7_read_48 : decode cX7_read 48 = .ok (.ifCond .ne 8, 3) := by decide +kernel
theorem dX7_read_51 : decode cX7_read 51 = .ok (.bipush 7, 2) := by decide +kernel
theorem dX7_read_53 : decode cX7_read 53 = .ok (.goto 15, 3) := by decide +kernel
theorem dX7_read_56 : decode cX7_read 56 = .ok (.iload_n 3, 1) := by decide +kernel
theorem dX7_read_57 : decode cX7_read 57 = .ok (.iconst 1, 1) := by decide +kernel
theorem dX7_read_58 : decode cX7_read 58 = .ok (.if_icmp .ne 8, 3) := by decide +kernel
theorem dX7_read_61 : decode cX7_read 61 = .ok (.bipush 8, 2) := by decide +kernel
theorem dX7_read_63 : decode cX7_read 63 = .ok (.goto 5, 3) := by decide +kernel
theorem dX7_read_66 : decode cX7_read 66 = .ok (.bipush 9, 2) := by decide +kernel
theorem dX7_read_68 : decode cX7_read 68 = .ok (.invokevirtual 56, 3) := by decide +kernel
theorem dX7_read_71 : decode cX7_read 71 = .ok (.aload_n 0, 1) := by decide +kernel
theorem dX7_read_72 : decode cX7_read 72 = .ok (.invokevirtual 60, 3) := by decide +kernel
theorem dX7_read_75 : decode cX7_read 75 = .ok (.aload_n 0, 1) := by decide +kernel
theorem dX7_read_76 : decode cX7_read 76 = .ok (.bipush 59, 2) := by decide +kernel
theorem dX7_read_78 : decode cX7_read 78 = .ok (.invokevirtual 56, 3) := by decide +kernel
theorem dX7_read_81 : decode cX7_read 81 = .ok (.aload_n 0, 1) := by decide +kernel
theorem dX7_read_82 : decode cX7_read 82 = .ok (.getfield 41, 3) := by decide +kernel
theorem dX7_read_85 : decode cX7_read 85 = .ok (.iload_n 3, 1) := by decide +kernel
theorem dX7_read_86 : decode cX7_read 86 = .ok (.aload_n 0, 1) := by decide +kernel
theorem dX7_read_87 : decode cX7_read 87 = .ok (.getfield 44, 3) := by decide +kernel
theorem dX7_read_90 : decode cX7_read 90 = .ok (.iastore, 1) := by decide +kernel
theorem dX7_read_91 : decode cX7_read 91 = .ok (.iinc 3 1, 3) := by decide +kernel
theorem dX7_read_94 : decode cX7_read 94 = .ok (.goto (-53), 3) := by decide +kernel
theorem dX7_read_97 : decode cX7_read 97 = .ok (.aload_n 0, 1) := by decide +kernel
theorem dX7_read_98 : decode cX7_read 98 = .ok (.iconst 0, 1) := by decide +kernel
theorem dX7_read_99 : decode cX7_read 99 = .ok (.invokevirtual 56, 3) := by decide +kernel
theorem dX7_read_102 : decode cX7_read 102 = .ok (.aload_n 0, 1) := by decide +kernel
theorem dX7_read_103 : decode cX7_read 103 = .ok (.getfield 11, 3) := by decide +kernel
theorem dX7_read_106 : decode cX7_read 106 = .ok (.iconst (-1), 1) := by decide +kernel
theorem dX7_read_107 : decode cX7_read 107 = .ok (.if_icmp .ne 32, 3) := by decide +kernel
theorem dX7_read_110 : decode cX7_read 110 = .ok (.new 63, 3) := by decide +kernel
theorem dX7_read_113 : decode cX7_read 113 = .ok (.dup, 1) := by decide +kernel
theorem dX7_read_114 : decode cX7_read 114 = .ok (.aload_n 0, 1) := by decide +kernel
theorem dX7_read_115 : decode cX7_read 115 = .ok (.getfield 37, 3) := by decide +kernel
theorem dX7_read_118 : decode cX7_read 118 = .ok (.aload_n 0, 1) := by decide +kernel
theorem dX7_read_119 : decode cX7_read 119 = .ok (.getfield 44, 3) := by decide +kernel
theorem dX7_read_122 : decode cX7_read 122 = .ok (.invokestatic 65, 3) := by decide +kernel
theorem dX7_read_125 : decode cX7_read 125 = .ok (.aload_n 0, 1) := by decide +kernel
theorem dX7_read_126 : decode cX7_read 126 = .ok (.getfield 41, 3) := by decide +kernel
theorem dX7_read_129 : decode cX7_read 129 = .ok (.iconst 3, 1) := by decide +kernel
theorem dX7_read_130 : decode cX7_read 130 = .ok (.invokestatic 65, 3) := by decide +kernel
theorem dX7_read_133 : decode cX7_read 133 = .ok (.invokespecial 69, 3) := by decide +kernel
theorem dX7_read_136 : decode cX7_read 136 = .ok (.goto 4, 3) := by decide +kernel
theorem dX7_read_139 : decode cX7_read 139 = .ok (.aconst_null, 1) := by decide +kernel
theorem dX7_read_140 : decode cX7_read 140 = .ok (.areturn, 1) := by decide +kernel
theorem dX7_firstOf_0 : decode cX7_firstOf 0 = .ok (.iload_n 1, 1) := by decide +kernel
theorem dX7_firstOf_1 : decode cX7_firstOf 1 = .ok (.aload_n 0, 1) := by decide +kernel
theorem dX7_firstOf_2 : decode cX7_firstOf 2 = .ok (.arraylength, 1) := by decide +kernel
theorem dX7_firstOf_3 : decode cX7_firstOf 3 = .ok (.invokestatic 47, 3) := by decide +kernel
theorem dX7_firstOf_6 : decode cX7_firstOf 6 = .ok (.newarray .int, 2) := by decide +kernel
theorem dX7_firstOf_8 : decode cX7_firstOf 8 = .ok (.astore_n 2, 1) := by decide +kernel
theorem dX7_firstOf_9 : decode cX7_firstOf 9 = .ok (.aload_n 0, 1) := by decide +kernel
theorem dX7_firstOf_10 : decode cX7_firstOf 10 = .ok (.iconst 0, 1) := by decide +kernel
theorem dX7_firstOf_11 : decode cX7_firstOf 11 = .ok (.aload_n 2, 1) := by decide +kernel
theorem dX7_firstOf_12 : decode cX7_firstOf 12 = .ok (.iconst 0, 1) := by decide +kernel
theorem dX7_firstOf_13 : decode cX7_firstOf 13 = .ok (.aload_n 2, 1) := by decide +kernel
theorem dX7_firstOf_14 : decode cX7_firstOf 14 = .ok (.arraylength, 1) := by decide +kernel
theorem dX7_firstOf_15 : decode cX7_firstOf 15 = .ok (.invokestatic 72, 3) := by decide +kernel
theorem dX7_firstOf_18 : decode cX7_firstOf 18 = .ok (.aload_n 2, 1) := by decide +kernel
theorem dX7_firstOf_19 : decode cX7_firstOf 19 = .ok (.areturn, 1) := by decide +kernel
theorem dX7_refuse_0 : decode cX7_refuse 0 = .ok (.aload_n 0, 1) := by decide +kernel
theorem dX7_refuse_1 : decode cX7_refuse 1 = .ok (.getfield 11, 3) := by decide +kernel
theorem dX7_refuse_4 : decode cX7_refuse 4 = .ok (.iconst (-1), 1) := by decide +kernel
theorem dX7_refuse_5 : decode cX7_refuse 5 = .ok (.if_icmp .ne 17, 3) := by decide +kernel
theorem dX7_refuse_8 : decode cX7_refuse 8 = .ok (.aload_n 0, 1) := by decide +kernel
theorem dX7_refuse_9 : decode cX7_refuse 9 = .ok (.aload_n 0, 1) := by decide +kernel
theorem dX7_refuse_10 : decode cX7_refuse 10 = .ok (.getfield 25, 3) := by decide +kernel
theorem dX7_refuse_13 : decode cX7_refuse 13 = .ok (.putfield 11, 3) := by decide +kernel
theorem dX7_refuse_16 : decode cX7_refuse 16 = .ok (.aload_n 0, 1) := by decide +kernel
theorem dX7_refuse_17 : decode cX7_refuse 17 = .ok (.bipush 10, 2) := by decide +kernel
theorem dX7_refuse_19 : decode cX7_refuse 19 = .ok (.putfield 28, 3) := by decide +kernel
theorem dX7_refuse_22 : decode cX7_refuse 22 = .ok (.return_, 1) := by decide +kernel
theorem dX7_expect_0 : decode cX7_expect 0 = .ok (.aload_n 0, 1) := by decide +kernel
theorem dX7_expect_1 : decode cX7_expect 1 = .ok (.getfield 28, 3) := by decide +kernel
theorem dX7_expect_4 : decode cX7_expect 4 = .ok (.iload_n 1, 1) := by decide +kernel
theorem dX7_expect_5 : decode cX7_expect 5 = .ok (.if_icmp .ne 10, 3) := by decide +kernel
theorem dX7_expect_8 : decode cX7_expect 8 = .ok (.aload_n 0, 1) := by decide +kernel
theorem dX7_expect_9 : decode cX7_expect 9 = .ok (.invokevirtual 53, 3) := by decide +kernel
theorem dX7_expect_12 : decode cX7_expect 12 = .ok (.goto 7, 3) := by decide +kernel
theorem dX7_expect_15 : decode cX7_expect 15 = .ok (.aload_n 0, 1) := by decide +kernel
theorem dX7_expect_16 : decode cX7_expect 16 = .ok (.invokevirtual 78, 3) := by decide +kernel
theorem dX7_expect_19 : decode cX7_expect 19 = .ok (.return_, 1) := by decide +kernel
theorem dX7_opens_0 : decode cX7_opens 0 = .ok (.aload_n 0, 1) := by decide +kernel
theorem dX7_opens_1 : decode cX7_opens 1 = .ok (.getfield 34, 3) := by decide +kernel
theorem dX7_opens_4 : decode cX7_opens 4 = .ok (.iconst 5, 1) := by decide +kernel
theorem dX7_opens_5 : decode cX7_opens 5 = .ok (.if_icmp .lt 9, 3) := by decide +kernel
theorem dX7_opens_8 : decode cX7_opens 8 = .ok (.aload_n 0, 1) := by decide +kernel
theorem dX7_opens_9 : decode cX7_opens 9 = .ok (.invokevirtual 78, 3) := by decide +kernel
theorem dX7_opens_12 : decode cX7_opens 12 = .ok (.iconst 0, 1) := by decide +kernel
theorem dX7_opens_13 : decode cX7_opens 13 = .ok (.ireturn, 1) := by decide +kernel
theorem dX7_opens_14 : decode cX7_opens 14 = .ok (.aload_n 0, 1) := by decide +kernel
theorem dX7_opens_15 : decode cX7_opens 15 = .ok (.dup, 1) := by decide +kernel
theorem dX7_opens_16 : decode cX7_opens 16 = .ok (.getfield 34, 3) := by decide +kernel
theorem dX7_opens_19 : decode cX7_opens 19 = .ok (.iconst 1, 1) := by decide +kernel
theorem dX7_opens_20 : decode cX7_opens 20 = .ok (.iadd, 1) := by decide +kernel
theorem dX7_opens_21 : decode cX7_opens 21 = .ok (.putfield 34, 3) := by decide +kernel
theorem dX7_opens_24 : decode cX7_opens 24 = .ok (.aload_n 0, 1) := by decide +kernel
theorem dX7_opens_25 : decode cX7_opens 25 = .ok (.invokevirtual 53, 3) := by decide +kernel
theorem dX7_opens_28 : decode cX7_opens 28 = .ok (.iconst 1, 1) := by decide +kernel
theorem dX7_opens_29 : decode cX7_opens 29 = .ok (.ireturn, 1) := by decide +kernel
theorem dX7_put_0 : decode cX7_put 0 = .ok (.aload_n 0, 1) := by decide +kernel
theorem dX7_put_1 : decode cX7_put 1 = .ok (.getfield 44, 3) := by decide +kernel
theorem dX7_put_4 : decode cX7_put 4 = .ok (.aload_n 0, 1) := by decide +kernel
theorem dX7_put_5 : decode cX7_put 5 = .ok (.getfield 37, 3) := by decide +kernel
theorem dX7_put_8 : decode cX7_put 8 = .ok (.arraylength, 1) := by decide +kernel
theorem dX7_put_9 : decode cX7_put 9 = .ok (.if_icmp .ge 28, 3) := by decide +kernel
theorem dX7_put_12 : decode cX7_put 12 = .ok (.aload_n 0, 1) := by decide +kernel
theorem dX7_put_13 : decode cX7_put 13 = .ok (.getfield 37, 3) := by decide +kernel
theorem dX7_put_16 : decode cX7_put 16 = .ok (.aload_n 0, 1) := by decide +kernel
theorem dX7_put_17 : decode cX7_put 17 = .ok (.getfield 44, 3) := by decide +kernel
theorem dX7_put_20 : decode cX7_put 20 = .ok (.iload_n 1, 1) := by decide +kernel
theorem dX7_put_21 : decode cX7_put 21 = .ok (.bipush 14, 2) := by decide +kernel
theorem dX7_put_23 : decode cX7_put 23 = .ok (.ishl, 1) := by decide +kernel
theorem dX7_put_24 : decode cX7_put 24 = .ok (.iload_n 2, 1) := by decide +kernel
theorem dX7_put_25 : decode cX7_put 25 = .ok (.ior, 1) := by decide +kernel
theorem dX7_put_26 : decode cX7_put 26 = .ok (.iastore, 1) := by decide +kernel
theorem dX7_put_27 : decode cX7_put 27 = .ok (.aload_n 0, 1) := by decide +kernel
theorem dX7_put_28 : decode cX7_put 28 = .ok (.dup, 1) := by decide +kernel
theorem dX7_put_29 : decode cX7_put 29 = .ok (.getfield 44, 3) := by decide +kernel
theorem dX7_put_32 : decode cX7_put 32 = .ok (.iconst 1, 1) := by decide +kernel
theorem dX7_put_33 : decode cX7_put 33 = .ok (.iadd, 1) := by decide +kernel
theorem dX7_put_34 : decode cX7_put 34 = .ok (.putfield 44, 3) := by decide +kernel
theorem dX7_put_37 : decode cX7_put 37 = .ok (.return_, 1) := by decide +kernel
theorem dX7_readOr_0 : decode cX7_readOr 0 = .ok (.aload_n 0, 1) := by decide +kernel
theorem dX7_readOr_1 : decode cX7_readOr 1 = .ok (.invokevirtual 81, 3) := by decide +kernel
theorem dX7_readOr_4 : decode cX7_readOr 4 = .ok (.iconst 0, 1) := by decide +kernel
theorem dX7_readOr_5 : decode cX7_readOr 5 = .ok (.istore_n 1, 1) := by decide +kernel
theorem dX7_readOr_6 : decode cX7_readOr 6 = .ok (.iload_n 1, 1) := by decide +kernel
theorem dX7_readOr_7 : decode cX7_readOr 7 = .ok (.sipush 160, 3) := by decide +kernel
theorem dX7_readOr_10 : decode cX7_readOr 10 = .ok (.if_icmp .ge 31, 3) := by decide +kernel
theorem dX7_readOr_13 : decode cX7_readOr 13 = .ok (.aload_n 0, 1) := by decide +kernel
theorem dX7_readOr_14 : decode cX7_readOr 14 = .ok (.getfield 28, 3) := by decide +kernel
theorem dX7_readOr_17 : decode cX7_readOr 17 = .ok (.iconst 3, 1) := by decide +kernel
theorem dX7_readOr_18 : decode cX7_readOr 18 = .ok (.if_icmp .ne 23, 3) := by decide +kernel
theorem dX7_readOr_21 : decode cX7_readOr 21 = .ok (.aload_n 0, 1) := by decide +kernel
theorem dX7_readOr_22 : decode cX7_readOr 22 = .ok (.invokevirtual 53, 3) := by decide +kernel
theorem dX7_readOr_25 : decode cX7_readOr 25 = .ok (.aload_n 0, 1) := by decide +kernel
theorem dX7_readOr_26 : decode cX7_readOr 26 = .ok (.invokevirtual 81, 3) := by decide +kernel
theorem dX7_readOr_29 : decode cX7_readOr 29 = .ok (.aload_n 0, 1) := by decide +kernel
theorem dX7_readOr_30 : decode cX7_readOr 30 = .ok (.iconst 3, 1) := by decide +kernel
theorem dX7_readOr_31 : decode cX7_readOr 31 = .ok (.iconst 0, 1) := by decide +kernel
theorem dX7_readOr_32 : decode cX7_readOr 32 = .ok (.invokevirtual 84, 3) := by decide +kernel
theorem dX7_readOr_35 : decode cX7_readOr 35 = .ok (.iinc 1 1, 3) := by decide +kernel
theorem dX7_readOr_38 : decode cX7_readOr 38 = .ok (.goto (-32), 3) := by decide +kernel
theorem dX7_readOr_41 : decode cX7_readOr 41 = .ok (.return_, 1) := by decide +kernel
theorem dX7_readAnd_0 : decode cX7_readAnd 0 = .ok (.aload_n 0, 1) := by decide +kernel
theorem dX7_readAnd_1 : decode cX7_readAnd 1 = .ok (.invokevirtual 88, 3) := by decide +kernel
theorem dX7_readAnd_4 : decode cX7_readAnd 4 = .ok (.iconst 0, 1) := by decide +kernel
theorem dX7_readAnd_5 : decode cX7_readAnd 5 = .ok (.istore_n 1, 1) := by decide +kernel
theorem dX7_readAnd_6 : decode cX7_readAnd 6 = .ok (.iload_n 1, 1) := by decide +kernel
theorem dX7_readAnd_7 : decode cX7_readAnd 7 = .ok (.sipush 160, 3) := by decide +kernel
theorem dX7_readAnd_10 : decode cX7_readAnd 10 = .ok (.if_icmp .ge 31, 3) := by decide +kernel
theorem dX7_readAnd_13 : decode cX7_readAnd 13 = .ok (.aload_n 0, 1) := by decide +kernel
theorem dX7_readAnd_14 : decode cX7_readAnd 14 = .ok (.getfield 28, 3) := by decide +kernel
theorem dX7_readAnd_17 : decode cX7_readAnd 17 = .ok (.iconst 4, 1) := by decide +kernel
theorem dX7_readAnd_18 : decode cX7_readAnd 18 = .ok (.if_icmp .ne 23, 3) := by decide +kernel
theorem dX7_readAnd_21 : decode cX7_readAnd 21 = .ok (.aload_n 0, 1) := by decide +kernel
theorem dX7_readAnd_22 : decode cX7_readAnd 22 = .ok (.invokevirtual 53, 3) := by decide +kernel
theorem dX7_readAnd_25 : decode cX7_readAnd 25 = .ok (.aload_n 0, 1) := by decide +kernel
theorem dX7_readAnd_26 : decode cX7_readAnd 26 = .ok (.invokevirtual 88, 3) := by decide +kernel
theorem dX7_readAnd_29 : decode cX7_readAnd 29 = .ok (.aload_n 0, 1) := by decide +kernel
theorem dX7_readAnd_30 : decode cX7_readAnd 30 = .ok (.iconst 4, 1) := by decide +kernel
theorem dX7_readAnd_31 : decode cX7_readAnd 31 = .ok (.iconst 0, 1) := by decide +kernel
theorem dX7_readAnd_32 : decode cX7_readAnd 32 = .ok (.invokevirtual 84, 3) := by decide +kernel
theorem dX7_readAnd_35 : decode cX7_readAnd 35 = .ok (.iinc 1 1, 3) := by decide +kernel
theorem dX7_readAnd_38 : decode cX7_readAnd 38 = .ok (.goto (-32), 3) := by decide +kernel
theorem dX7_readAnd_41 : decode cX7_readAnd 41 = .ok (.return_, 1) := by decide +kernel
theorem dX7_readNot_0 : decode cX7_readNot 0 = .ok (.aload_n 0, 1) := by decide +kernel
theorem dX7_readNot_1 : decode cX7_readNot 1 = .ok (.getfield 28, 3) := by decide +kernel
theorem dX7_readNot_4 : decode cX7_readNot 4 = .ok (.iconst 5, 1) := by decide +kernel
theorem dX7_readNot_5 : decode cX7_readNot 5 = .ok (.if_icmp .eq 10, 3) := by decide +kernel
theorem dX7_readNot_8 : decode cX7_readNot 8 = .ok (.aload_n 0, 1) := by decide +kernel
theorem dX7_readNot_9 : decode cX7_readNot 9 = .ok (.invokevirtual 91, 3) := by decide +kernel
theorem dX7_readNot_12 : decode cX7_readNot 12 = .ok (.goto 30, 3) := by decide +kernel
theorem dX7_readNot_15 : decode cX7_readNot 15 = .ok (.aload_n 0, 1) := by decide +kernel
theorem dX7_readNot_16 : decode cX7_readNot 16 = .ok (.invokevirtual 94, 3) := by decide +kernel
theorem dX7_readNot_19 : decode cX7_readNot 19 = .ok (.ifCond .eq 23, 3) := by decide +kernel
theorem dX7_readNot_22 : decode cX7_readNot 22 = .ok (.aload_n 0, 1) := by decide +kernel
theorem dX7_readNot_23 : decode cX7_readNot 23 = .ok (.invokevirtual 88, 3) := by decide +kernel
theorem dX7_readNot_26 : decode cX7_readNot 26 = .ok (.aload_n 0, 1) := by decide +kernel
theorem dX7_readNot_27 : decode cX7_readNot 27 = .ok (.iconst 5, 1) := by decide +kernel
theorem dX7_readNot_28 : decode cX7_readNot 28 = .ok (.iconst 0, 1) := by decide +kernel
theorem dX7_readNot_29 : decode cX7_readNot 29 = .ok (.invokevirtual 84, 3) := by decide +kernel
theorem dX7_readNot_32 : decode cX7_readNot 32 = .ok (.aload_n 0, 1) := by decide +kernel
theorem dX7_readNot_33 : decode cX7_readNot 33 = .ok (.dup, 1) := by decide +kernel
theorem dX7_readNot_34 : decode cX7_readNot 34 = .ok (.getfield 34, 3) := by decide +kernel
theorem dX7_readNot_37 : decode cX7_readNot 37 = .ok (.iconst 1, 1) := by decide +kernel
theorem dX7_readNot_38 : decode cX7_readNot 38 = .ok (.isub, 1) := by decide +kernel
theorem dX7_readNot_39 : decode cX7_readNot 39 = .ok (.putfield 34, 3) := by decide +kernel
theorem dX7_readNot_42 : decode cX7_readNot 42 = .ok (.return_, 1) := by decide +kernel
theorem dX7_readComparison_0 : decode cX7_readComparison 0 = .ok (.aload_n 0, 1) := by decide +kernel
theorem dX7_readComparison_1 : decode cX7_readComparison 1 = .ok (.invokevirtual 98, 3) := by decide +kernel
theorem dX7_readComparison_4 : decode cX7_readComparison 4 = .ok (.aload_n 0, 1) := by decide +kernel
theorem dX7_readComparison_5 : decode cX7_readComparison 5 = .ok (.getfield 28, 3) := by decide +kernel
theorem dX7_readComparison_8 : decode cX7_readComparison 8 = .ok (.istore_n 1, 1) := by decide +kernel
theorem dX7_readComparison_9 : decode cX7_readComparison 9 = .ok (.iload_n 1, 1) := by decide +kernel
theorem dX7_readComparison_10 : decode cX7_readComparison 10 = .ok (.bipush 60, 2) := by decide +kernel
theorem dX7_readComparison_12 : decode cX7_readComparison 12 = .ok (.if_icmp .eq 9, 3) := by decide +kernel
theorem dX7_readComparison_15 : decode cX7_readComparison 15 = .ok (.iload_n 1, 1) := by decide +kernel
theorem dX7_readComparison_16 : decode cX7_readComparison 16 = .ok (.bipush 61, 2) := by decide +kernel
theorem dX7_readComparison_18 : decode cX7_readComparison 18 = .ok (.if_icmp .ne 17, 3) := by decide +kernel
theorem dX7_readComparison_21 : decode cX7_readComparison 21 = .ok (.aload_n 0, 1) := by decide +kernel
theorem dX7_readComparison_22 : decode cX7_readComparison 22 = .ok (.invokevirtual 53, 3) := by decide +kernel
theorem dX7_readComparison_25 : decode cX7_readComparison 25 = .ok (.aload_n 0, 1) := by decide +kernel
theorem dX7_readComparison_26 : decode cX7_readComparison 26 = .ok (.invokevirtual 98, 3) := by decide +kernel
theorem dX7_readComparison_29 : decode cX7_readComparison 29 = .ok (.aload_n 0, 1) := by decide +kernel
theorem dX7_readComparison_30 : decode cX7_readComparison 30 = .ok (.iload_n 1, 1) := by decide +kernel
theorem dX7_readComparison_31 : decode cX7_readComparison 31 = .ok (.iconst 0, 1) := by decide +kernel
theorem dX7_readComparison_32 : decode cX7_readComparison 32 = .ok (.invokevirtual 84, 3) := by decide +kernel
theorem dX7_readComparison_35 : decode cX7_readComparison 35 = .ok (.return_, 1) := by decide +kernel
theorem dX7_readSum_0 : decode cX7_readSum 0 = .ok (.aload_n 0, 1) := by decide +kernel
theorem dX7_readSum_1 : decode cX7_readSum 1 = .ok (.invokevirtual 101, 3) := by decide +kernel
theorem dX7_readSum_4 : decode cX7_readSum 4 = .ok (.iconst 0, 1) := by decide +kernel
theorem dX7_readSum_5 : decode cX7_readSum 5 = .ok (.istore_n 1, 1) := by decide +kernel
theorem dX7_readSum_6 : decode cX7_readSum 6 = .ok (.iload_n 1, 1) := by decide +kernel
theorem dX7_readSum_7 : decode cX7_readSum 7 = .ok (.sipush 160, 3) := by decide +kernel
theorem dX7_readSum_10 : decode cX7_readSum 10 = .ok (.if_icmp .ge 46, 3) := by decide +kernel
theorem dX7_readSum_13 : decode cX7_readSum 13 = .ok (.aload_n 0, 1) := by decide +kernel
theorem dX7_readSum_14 : decode cX7_readSum 14 = .ok (.getfield 28, 3) := by decide +kernel
theorem dX7_readSum_17 : decode cX7_readSum 17 = .ok (.bipush 43, 2) := by decide +kernel
theorem dX7_readSum_19 : decode cX7_readSum 19 = .ok (.if_icmp .eq 12, 3) := by decide +kernel
theorem dX7_readSum_22 : decode cX7_readSum 22 = .ok (.aload_n 0, 1) := by decide +kernel
theorem dX7_readSum_23 : decode cX7_readSum 23 = .ok (.getfield 28, 3) := by decide +kernel
theorem dX7_readSum_26 : decode cX7_readSum 26 = .ok (.bipush 45, 2) := by decide +kernel
theorem dX7_readSum_28 : decode cX7_readSum 28 = .ok (.if_icmp .ne 28, 3) := by decide +kernel
theorem dX7_readSum_31 : decode cX7_readSum 31 = .ok (.aload_n 0, 1) := by decide +kernel
theorem dX7_readSum_32 : decode cX7_readSum 32 = .ok (.getfield 28, 3) := by decide +kernel
theorem dX7_readSum_35 : decode cX7_readSum 35 = .ok (.istore_n 2, 1) := by decide +kernel
theorem dX7_readSum_36 : decode cX7_readSum 36 = .ok (.aload_n 0, 1) := by decide +kernel
theorem dX7_readSum_37 : decode cX7_readSum 37 = .ok (.invokevirtual 53, 3) := by decide +kernel
theorem dX7_readSum_40 : decode cX7_readSum 40 = .ok (.aload_n 0, 1) := by decide +kernel
theorem dX7_readSum_41 : decode cX7_readSum 41 = .ok (.invokevirtual 101, 3) := by decide +kernel
theorem dX7_readSum_44 : decode cX7_readSum 44 = .ok (.aload_n 0, 1) := by decide +kernel
theorem dX7_readSum_45 : decode cX7_readSum 45 = .ok (.iload_n 2, 1) := by decide +kernel
theorem dX7_readSum_46 : decode cX7_readSum 46 = .ok (.iconst 0, 1) := by decide +kernel
theorem dX7_readSum_47 : decode cX7_readSum 47 = .ok (.invokevirtual 84, 3) := by decide +kernel
theorem dX7_readSum_50 : decode cX7_readSum 50 = .ok (.iinc 1 1, 3) := by decide +kernel
theorem dX7_readSum_53 : decode cX7_readSum 53 = .ok (.goto (-47), 3) := by decide +kernel
theorem dX7_readSum_56 : decode cX7_readSum 56 = .ok (.return_, 1) := by decide +kernel
theorem dX7_readTerm_0 : decode cX7_readTerm 0 = .ok (.aload_n 0, 1) := by decide +kernel
theorem dX7_readTerm_1 : decode cX7_readTerm 1 = .ok (.invokevirtual 104, 3) := by decide +kernel
theorem dX7_readTerm_4 : decode cX7_readTerm 4 = .ok (.iconst 0, 1) := by decide +kernel
theorem dX7_readTerm_5 : decode cX7_readTerm 5 = .ok (.istore_n 1, 1) := by decide +kernel
theorem dX7_readTerm_6 : decode cX7_readTerm 6 = .ok (.iload_n 1, 1) := by decide +kernel
theorem dX7_readTerm_7 : decode cX7_readTerm 7 = .ok (.sipush 160, 3) := by decide +kernel
theorem dX7_readTerm_10 : decode cX7_readTerm 10 = .ok (.if_icmp .ge 33, 3) := by decide +kernel
theorem dX7_readTerm_13 : decode cX7_readTerm 13 = .ok (.aload_n 0, 1) := by decide +kernel
theorem dX7_readTerm_14 : decode cX7_readTerm 14 = .ok (.getfield 28, 3) := by decide +kernel
theorem dX7_readTerm_17 : decode cX7_readTerm 17 = .ok (.bipush 42, 2) := by decide +kernel
theorem dX7_readTerm_19 : decode cX7_readTerm 19 = .ok (.if_icmp .ne 24, 3) := by decide +kernel
theorem dX7_readTerm_22 : decode cX7_readTerm 22 = .ok (.aload_n 0, 1) := by decide +kernel
theorem dX7_readTerm_23 : decode cX7_readTerm 23 = .ok (.invokevirtual 53, 3) := by decide +kernel
theorem dX7_readTerm_26 : decode cX7_readTerm 26 = .ok (.aload_n 0, 1) := by decide +kernel
theorem dX7_readTerm_27 : decode cX7_readTerm 27 = .ok (.invokevirtual 104, 3) := by decide +kernel
theorem dX7_readTerm_30 : decode cX7_readTerm 30 = .ok (.aload_n 0, 1) := by decide +kernel
theorem dX7_readTerm_31 : decode cX7_readTerm 31 = .ok (.bipush 42, 2) := by decide +kernel
theorem dX7_readTerm_33 : decode cX7_readTerm 33 = .ok (.iconst 0, 1) := by decide +kernel
theorem dX7_readTerm_34 : decode cX7_readTerm 34 = .ok (.invokevirtual 84, 3) := by decide +kernel
theorem dX7_readTerm_37 : decode cX7_readTerm 37 = .ok (.iinc 1 1, 3) := by decide +kernel
theorem dX7_readTerm_40 : decode cX7_readTerm 40 = .ok (.goto (-34), 3) := by decide +kernel
theorem dX7_readTerm_43 : decode cX7_readTerm 43 = .ok (.return_, 1) := by decide +kernel
theorem dX7_readOne_0 : decode cX7_readOne 0 = .ok (.aload_n 0, 1) := by decide +kernel
theorem dX7_readOne_1 : decode cX7_readOne 1 = .ok (.getfield 28, 3) := by decide +kernel
theorem dX7_readOne_4 : decode cX7_readOne 4 = .ok (.iconst 1, 1) := by decide +kernel
theorem dX7_readOne_5 : decode cX7_readOne 5 = .ok (.if_icmp .eq 11, 3) := by decide +kernel
theorem dX7_readOne_8 : decode cX7_readOne 8 = .ok (.aload_n 0, 1) := by decide +kernel
theorem dX7_readOne_9 : decode cX7_readOne 9 = .ok (.getfield 28, 3) := by decide +kernel
theorem dX7_readOne_12 : decode cX7_readOne 12 = .ok (.iconst 2, 1) := by decide +kernel
theorem dX7_readOne_13 : decode cX7_readOne 13 = .ok (.if_icmp .ne 22, 3) := by decide +kernel
theorem dX7_readOne_16 : decode cX7_readOne 16 = .ok (.aload_n 0, 1) := by decide +kernel
theorem dX7_readOne_17 : decode cX7_readOne 17 = .ok (.aload_n 0, 1) := by decide +kernel
theorem dX7_readOne_18 : decode cX7_readOne 18 = .ok (.getfield 28, 3) := by decide +kernel
theorem dX7_readOne_21 : decode cX7_readOne 21 = .ok (.aload_n 0, 1) := by decide +kernel
theorem dX7_readOne_22 : decode cX7_readOne 22 = .ok (.getfield 31, 3) := by decide +kernel
theorem dX7_readOne_25 : decode cX7_readOne 25 = .ok (.invokevirtual 84, 3) := by decide +kernel
theorem dX7_readOne_28 : decode cX7_readOne 28 = .ok (.aload_n 0, 1) := by decide +kernel
theorem dX7_readOne_29 : decode cX7_readOne 29 = .ok (.invokevirtual 53, 3) := by decide +kernel
theorem dX7_readOne_32 : decode cX7_readOne 32 = .ok (.goto 86, 3) := by decide +kernel
theorem dX7_readOne_35 : decode cX7_readOne 35 = .ok (.aload_n 0, 1) := by decide +kernel
theorem dX7_readOne_36 : decode cX7_readOne 36 = .ok (.getfield 28, 3) := by decide +kernel
theorem dX7_readOne_39 : decode cX7_readOne 39 = .ok (.bipush 45, 2) := by decide +kernel
theorem dX7_readOne_41 : decode cX7_readOne 41 = .ok (.if_icmp .ne 34, 3) := by decide +kernel
theorem dX7_readOne_44 : decode cX7_readOne 44 = .ok (.aload_n 0, 1) := by decide +kernel
theorem dX7_readOne_45 : decode cX7_readOne 45 = .ok (.invokevirtual 94, 3) := by decide +kernel
theorem dX7_readOne_48 : decode cX7_readOne 48 = .ok (.ifCond .eq 70, 3) := by decide +kernel
theorem dX7_readOne_51 : decode cX7_readOne 51 = .ok (.aload_n 0, 1) := by decide +kernel
theorem dX7_readOne_52 : decode cX7_readOne 52 = .ok (.invokevirtual 104, 3) := by decide +kernel
theorem dX7_readOne_55 : decode cX7_readOne 55 = .ok (.aload_n 0, 1) := by decide +kernel
theorem dX7_readOne_56 : decode cX7_readOne 56 = .ok (.bipush 6, 2) := by decide +kernel
theorem dX7_readOne_58 : decode cX7_readOne 58 = .ok (.iconst 0, 1) := by decide +kernel
theorem dX7_readOne_59 : decode cX7_readOne 59 = .ok (.invokevirtual 84, 3) := by decide +kernel
theorem dX7_readOne_62 : decode cX7_readOne 62 = .ok (.aload_n 0, 1) := by decide +kernel
theorem dX7_readOne_63 : decode cX7_readOne 63 = .ok (.dup, 1) := by decide +kernel
theorem dX7_readOne_64 : decode cX7_readOne 64 = .ok (.getfield 34, 3) := by decide +kernel
theorem dX7_readOne_67 : decode cX7_readOne 67 = .ok (.iconst 1, 1) := by decide +kernel
theorem dX7_readOne_68 : decode cX7_readOne 68 = .ok (.isub, 1) := by decide +kernel
theorem dX7_readOne_69 : decode cX7_readOne 69 = .ok (.putfield 34, 3) := by decide +kernel
theorem dX7_readOne_72 : decode cX7_readOne 72 = .ok (.goto 46, 3) := by decide +kernel
theorem dX7_readOne_75 : decode cX7_readOne 75 = .ok (.aload_n 0, 1) := by decide +kernel
theorem dX7_readOne_76 : decode cX7_readOne 76 = .ok (.getfield 28, 3) := by decide +kernel
theorem dX7_readOne_79 : decode cX7_readOne 79 = .ok (.bipush 40, 2) := by decide +kernel
theorem dX7_readOne_81 : decode cX7_readOne 81 = .ok (.if_icmp .ne 33, 3) := by decide +kernel
theorem dX7_readOne_84 : decode cX7_readOne 84 = .ok (.aload_n 0, 1) := by decide +kernel
theorem dX7_readOne_85 : decode cX7_readOne 85 = .ok (.invokevirtual 94, 3) := by decide +kernel
theorem dX7_readOne_88 : decode cX7_readOne 88 = .ok (.ifCond .eq 30, 3) := by decide +kernel
theorem dX7_readOne_91 : decode cX7_readOne 91 = .ok (.aload_n 0, 1) := by decide +kernel
theorem dX7_readOne_92 : decode cX7_readOne 92 = .ok (.invokevirtual 60, 3) := by decide +kernel
theorem dX7_readOne_95 : decode cX7_readOne 95 = .ok (.aload_n 0, 1) := by decide +kernel
theorem dX7_readOne_96 : decode cX7_readOne 96 = .ok (.bipush 41, 2) := by decide +kernel
theorem dX7_readOne_98 : decode cX7_readOne 98 = .ok (.invokevirtual 56, 3) := by decide +kernel
theorem dX7_readOne_101 : decode cX7_readOne 101 = .ok (.aload_n 0, 1) := by decide +kernel
theorem dX7_readOne_102 : decode cX7_readOne 102 = .ok (.dup, 1) := by decide +kernel
theorem dX7_readOne_103 : decode cX7_readOne 103 = .ok (.getfield 34, 3) := by decide +kernel
theorem dX7_readOne_106 : decode cX7_readOne 106 = .ok (.iconst 1, 1) := by decide +kernel
theorem dX7_readOne_107 : decode cX7_readOne 107 = .ok (.isub, 1) := by decide +kernel
theorem dX7_readOne_108 : decode cX7_readOne 108 = .ok (.putfield 34, 3) := by decide +kernel
theorem dX7_readOne_111 : decode cX7_readOne 111 = .ok (.goto 7, 3) := by decide +kernel
theorem dX7_readOne_114 : decode cX7_readOne 114 = .ok (.aload_n 0, 1) := by decide +kernel
theorem dX7_readOne_115 : decode cX7_readOne 115 = .ok (.invokevirtual 78, 3) := by decide +kernel
theorem dX7_readOne_118 : decode cX7_readOne 118 = .ok (.return_, 1) := by decide +kernel
theorem dX7_advance_0 : decode cX7_advance 0 = .ok (.aload_n 0, 1) := by decide +kernel
theorem dX7_advance_1 : decode cX7_advance 1 = .ok (.getfield 11, 3) := by decide +kernel
theorem dX7_advance_4 : decode cX7_advance 4 = .ok (.iconst (-1), 1) := by decide +kernel
theorem dX7_advance_5 : decode cX7_advance 5 = .ok (.if_icmp .eq 4, 3) := by decide +kernel
theorem dX7_advance_8 : decode cX7_advance 8 = .ok (.return_, 1) := by decide +kernel
theorem dX7_advance_9 : decode cX7_advance 9 = .ok (.aload_n 0, 1) := by decide +kernel
theorem dX7_advance_10 : decode cX7_advance 10 = .ok (.getfield 22, 3) := by decide +kernel
theorem dX7_advance_13 : decode cX7_advance 13 = .ok (.aload_n 0, 1) := by decide +kernel
theorem dX7_advance_14 : decode cX7_advance 14 = .ok (.getfield 19, 3) := by decide +kernel
theorem dX7_advance_17 : decode cX7_advance 17 = .ok (.if_icmp .ge 44, 3) := by decide +kernel
theorem dX7_advance_20 : decode cX7_advance 20 = .ok (.aload_n 0, 1) := by decide +kernel
theorem dX7_advance_21 : decode cX7_advance 21 = .ok (.getfield 15, 3) := by decide +kernel
theorem dX7_advance_24 : decode cX7_advance 24 = .ok (.aload_n 0, 1) := by decide +kernel
theorem dX7_advance_25 : decode cX7_advance 25 = .ok (.getfield 22, 3) := by decide +kernel
theorem dX7_advance_28 : decode cX7_advance 28 = .ok (.baload, 1) := by decide +kernel
theorem dX7_advance_29 : decode cX7_advance 29 = .ok (.bipush 32, 2) := by decide +kernel
theorem dX7_advance_31 : decode cX7_advance 31 = .ok (.if_icmp .eq 17, 3) := by decide +kernel
theorem dX7_advance_34 : decode cX7_advance 34 = .ok (.aload_n 0, 1) := by decide +kernel
theorem dX7_advance_35 : decode cX7_advance 35 = .ok (.getfield 15, 3) := by decide +kernel
theorem dX7_advance_38 : decode cX7_advance 38 = .ok (.aload_n 0, 1) := by decide +kernel
theorem dX7_advance_39 : decode cX7_advance 39 = .ok (.getfield 22, 3) := by decide +kernel
theorem dX7_advance_42 : decode cX7_advance 42 = .ok (.baload, 1) := by decide +kernel
theorem dX7_advance_43 : decode cX7_advance 43 = .ok (.bipush 10, 2) := by decide +kernel
theorem dX7_advance_45 : decode cX7_advance 45 = .ok (.if_icmp .ne 16, 3) := by decide +kernel
theorem dX7_advance_48 : decode cX7_advance 48 = .ok (.aload_n 0, 1) := by decide +kernel
theorem dX7_advance_49 : decode cX7_advance 49 = .ok (.dup, 1) := by decide +kernel
theorem dX7_advance_50 : decode cX7_advance 50 = .ok (.getfield 22, 3) := by decide +kernel
theorem dX7_advance_53 : decode cX7_advance 53 = .ok (.iconst 1, 1) := by decide +kernel
theorem dX7_advance_54 : decode cX7_advance 54 = .ok (.iadd, 1) := by decide +kernel
theorem dX7_advance_55 : decode cX7_advance 55 = .ok (.putfield 22, 3) := by decide +kernel
theorem dX7_advance_58 : decode cX7_advance 58 = .ok (.goto (-49), 3) := by decide +kernel
theorem dX7_advance_61 : decode cX7_advance 61 = .ok (.aload_n 0, 1) := by decide +kernel
theorem dX7_advance_62 : decode cX7_advance 62 = .ok (.aload_n 0, 1) := by decide +kernel
theorem dX7_advance_63 : decode cX7_advance 63 = .ok (.getfield 22, 3) := by decide +kernel
theorem dX7_advance_66 : decode cX7_advance 66 = .ok (.putfield 25, 3) := by decide +kernel
theorem dX7_advance_69 : decode cX7_advance 69 = .ok (.aload_n 0, 1) := by decide +kernel
theorem dX7_advance_70 : decode cX7_advance 70 = .ok (.getfield 22, 3) := by decide +kernel
theorem dX7_advance_73 : decode cX7_advance 73 = .ok (.aload_n 0, 1) := by decide +kernel
theorem dX7_advance_74 : decode cX7_advance 74 = .ok (.getfield 19, 3) := by decide +kernel
theorem dX7_advance_77 : decode cX7_advance 77 = .ok (.if_icmp .ge 15, 3) := by decide +kernel
theorem dX7_advance_80 : decode cX7_advance 80 = .ok (.aload_n 0, 1) := by decide +kernel
theorem dX7_advance_81 : decode cX7_advance 81 = .ok (.getfield 15, 3) := by decide +kernel
theorem dX7_advance_84 : decode cX7_advance 84 = .ok (.aload_n 0, 1) := by decide +kernel
theorem dX7_advance_85 : decode cX7_advance 85 = .ok (.getfield 22, 3) := by decide +kernel
theorem dX7_advance_88 : decode cX7_advance 88 = .ok (.baload, 1) := by decide +kernel
theorem dX7_advance_89 : decode cX7_advance 89 = .ok (.goto 4, 3) := by decide +kernel
theorem dX7_advance_92 : decode cX7_advance 92 = .ok (.iconst 0, 1) := by decide +kernel
theorem dX7_advance_93 : decode cX7_advance 93 = .ok (.istore_n 1, 1) := by decide +kernel
theorem dX7_advance_94 : decode cX7_advance 94 = .ok (.aload_n 0, 1) := by decide +kernel
theorem dX7_advance_95 : decode cX7_advance 95 = .ok (.getfield 22, 3) := by decide +kernel
theorem dX7_advance_98 : decode cX7_advance 98 = .ok (.aload_n 0, 1) := by decide +kernel
theorem dX7_advance_99 : decode cX7_advance 99 = .ok (.getfield 19, 3) := by decide +kernel
theorem dX7_advance_102 : decode cX7_advance 102 = .ok (.if_icmp .lt 11, 3) := by decide +kernel
theorem dX7_advance_105 : decode cX7_advance 105 = .ok (.aload_n 0, 1) := by decide +kernel
theorem dX7_advance_106 : decode cX7_advance 106 = .ok (.iconst 0, 1) := by decide +kernel
theorem dX7_advance_107 : decode cX7_advance 107 = .ok (.putfield 28, 3) := by decide +kernel
theorem dX7_advance_110 : decode cX7_advance 110 = .ok (.goto 58, 3) := by decide +kernel
theorem dX7_advance_113 : decode cX7_advance 113 = .ok (.iload_n 1, 1) := by decide +kernel
theorem dX7_advance_114 : decode cX7_advance 114 = .ok (.invokestatic 107, 3) := by decide +kernel
theorem dX7_advance_117 : decode cX7_advance 117 = .ok (.ifCond .eq 10, 3) := by decide +kernel
theorem dX7_advance_120 : decode cX7_advance 120 = .ok (.aload_n 0, 1) := by decide +kernel
theorem dX7_advance_121 : decode cX7_advance 121 = .ok (.invokevirtual 111, 3) := by decide +kernel
theorem dX7_advance_124 : decode cX7_advance 124 = .ok (.goto 44, 3) := by decide +kernel
theorem dX7_advance_127 : decode cX7_advance 127 = .ok (.iload_n 1, 1) := by decide +kernel
theorem dX7_advance_128 : decode cX7_advance 128 = .ok (.invokestatic 114, 3) := by decide +kernel
theorem dX7_advance_131 : decode cX7_advance 131 = .ok (.ifCond .eq 10, 3) := by decide +kernel
theorem dX7_advance_134 : decode cX7_advance 134 = .ok (.aload_n 0, 1) := by decide +kernel
theorem dX7_advance_135 : decode cX7_advance 135 = .ok (.invokevirtual 117, 3) := by decide +kernel
theorem dX7_advance_138 : decode cX7_advance 138 = .ok (.goto 30, 3) := by decide +kernel
theorem dX7_advance_141 : decode cX7_advance 141 = .ok (.aload_n 0, 1) := by decide +kernel
theorem dX7_advance_142 : decode cX7_advance 142 = .ok (.dup, 1) := by decide +kernel
theorem dX7_advance_143 : decode cX7_advance 143 = .ok (.getfield 22, 3) := by decide +kernel
theorem dX7_advance_146 : decode cX7_advance 146 = .ok (.iconst 1, 1) := by decide +kernel
theorem dX7_advance_147 : decode cX7_advance 147 = .ok (.iadd, 1) := by decide +kernel
theorem dX7_advance_148 : decode cX7_advance 148 = .ok (.putfield 22, 3) := by decide +kernel
theorem dX7_advance_151 : decode cX7_advance 151 = .ok (.aload_n 0, 1) := by decide +kernel
theorem dX7_advance_152 : decode cX7_advance 152 = .ok (.iload_n 1, 1) := by decide +kernel
theorem dX7_advance_153 : decode cX7_advance 153 = .ok (.invokestatic 120, 3) := by decide +kernel
theorem dX7_advance_156 : decode cX7_advance 156 = .ok (.ifCond .eq 7, 3) := by decide +kernel
theorem dX7_advance_159 : decode cX7_advance 159 = .ok (.iload_n 1, 1) := by decide +kernel
theorem dX7_advance_160 : decode cX7_advance 160 = .ok (.goto 5, 3) := by decide +kernel
theorem dX7_advance_163 : decode cX7_advance 163 = .ok (.bipush 10, 2) := by decide +kernel
theorem dX7_advance_165 : decode cX7_advance 165 = .ok (.putfield 28, 3) := by decide +kernel
theorem dX7_advance_168 : decode cX7_advance 168 = .ok (.return_, 1) := by decide +kernel
theorem dX7_isLetter_0 : decode cX7_isLetter 0 = .ok (.iload_n 0, 1) := by decide +kernel
theorem dX7_isLetter_1 : decode cX7_isLetter 1 = .ok (.bipush 97, 2) := by decide +kernel
theorem dX7_isLetter_3 : decode cX7_isLetter 3 = .ok (.if_icmp .lt 13, 3) := by decide +kernel
theorem dX7_isLetter_6 : decode cX7_isLetter 6 = .ok (.iload_n 0, 1) := by decide +kernel
theorem dX7_isLetter_7 : decode cX7_isLetter 7 = .ok (.bipush 122, 2) := by decide +kernel
theorem dX7_isLetter_9 : decode cX7_isLetter 9 = .ok (.if_icmp .gt 7, 3) := by decide +kernel
theorem dX7_isLetter_12 : decode cX7_isLetter 12 = .ok (.iconst 1, 1) := by decide +kernel
theorem dX7_isLetter_13 : decode cX7_isLetter 13 = .ok (.goto 4, 3) := by decide +kernel
theorem dX7_isLetter_16 : decode cX7_isLetter 16 = .ok (.iconst 0, 1) := by decide +kernel
theorem dX7_isLetter_17 : decode cX7_isLetter 17 = .ok (.ireturn, 1) := by decide +kernel
theorem dX7_isDigit_0 : decode cX7_isDigit 0 = .ok (.iload_n 0, 1) := by decide +kernel
theorem dX7_isDigit_1 : decode cX7_isDigit 1 = .ok (.bipush 48, 2) := by decide +kernel
theorem dX7_isDigit_3 : decode cX7_isDigit 3 = .ok (.if_icmp .lt 13, 3) := by decide +kernel
theorem dX7_isDigit_6 : decode cX7_isDigit 6 = .ok (.iload_n 0, 1) := by decide +kernel
theorem dX7_isDigit_7 : decode cX7_isDigit 7 = .ok (.bipush 57, 2) := by decide +kernel
theorem dX7_isDigit_9 : decode cX7_isDigit 9 = .ok (.if_icmp .gt 7, 3) := by decide +kernel
theorem dX7_isDigit_12 : decode cX7_isDigit 12 = .ok (.iconst 1, 1) := by decide +kernel
theorem dX7_isDigit_13 : decode cX7_isDigit 13 = .ok (.goto 4, 3) := by decide +kernel
theorem dX7_isDigit_16 : decode cX7_isDigit 16 = .ok (.iconst 0, 1) := by decide +kernel
theorem dX7_isDigit_17 : decode cX7_isDigit 17 = .ok (.ireturn, 1) := by decide +kernel
theorem dX7_isSign_0 : decode cX7_isSign 0 = .ok (.iload_n 0, 1) := by decide +kernel
theorem dX7_isSign_1 : decode cX7_isSign 1 = .ok (.bipush 40, 2) := by decide +kernel
theorem dX7_isSign_3 : decode cX7_isSign 3 = .ok (.if_icmp .eq 45, 3) := by decide +kernel
theorem dX7_isSign_6 : decode cX7_isSign 6 = .ok (.iload_n 0, 1) := by decide +kernel
theorem dX7_isSign_7 : decode cX7_isSign 7 = .ok (.bipush 41, 2) := by decide +kernel
theorem dX7_isSign_9 : decode cX7_isSign 9 = .ok (.if_icmp .eq 39, 3) := by decide +kernel
theorem dX7_isSign_12 : decode cX7_isSign 12 = .ok (.iload_n 0, 1) := by decide +kernel
theorem dX7_isSign_13 : decode cX7_isSign 13 = .ok (.bipush 59, 2) := by decide +kernel
theorem dX7_isSign_15 : decode cX7_isSign 15 = .ok (.if_icmp .eq 33, 3) := by decide +kernel
theorem dX7_isSign_18 : decode cX7_isSign 18 = .ok (.iload_n 0, 1) := by decide +kernel
theorem dX7_isSign_19 : decode cX7_isSign 19 = .ok (.bipush 43, 2) := by decide +kernel
theorem dX7_isSign_21 : decode cX7_isSign 21 = .ok (.if_icmp .eq 27, 3) := by decide +kernel
theorem dX7_isSign_24 : decode cX7_isSign 24 = .ok (.iload_n 0, 1) := by decide +kernel
theorem dX7_isSign_25 : decode cX7_isSign 25 = .ok (.bipush 45, 2) := by decide +kernel
theorem dX7_isSign_27 : decode cX7_isSign 27 = .ok (.if_icmp .eq 21, 3) := by decide +kernel
theorem dX7_isSign_30 : decode cX7_isSign 30 = .ok (.iload_n 0, 1) := by decide +kernel
theorem dX7_isSign_31 : decode cX7_isSign 31 = .ok (.bipush 42, 2) := by decide +kernel
theorem dX7_isSign_33 : decode cX7_isSign 33 = .ok (.if_icmp .eq 15, 3) := by decide +kernel
theorem dX7_isSign_36 : decode cX7_isSign 36 = .ok (.iload_n 0, 1) := by decide +kernel
theorem dX7_isSign_37 : decode cX7_isSign 37 = .ok (.bipush 60, 2) := by decide +kernel
theorem dX7_isSign_39 : decode cX7_isSign 39 = .ok (.if_icmp .eq 9, 3) := by decide +kernel
theorem dX7_isSign_42 : decode cX7_isSign 42 = .ok (.iload_n 0, 1) := by decide +kernel
theorem dX7_isSign_43 : decode cX7_isSign 43 = .ok (.bipush 61, 2) := by decide +kernel
theorem dX7_isSign_45 : decode cX7_isSign 45 = .ok (.if_icmp .ne 7, 3) := by decide +kernel
theorem dX7_isSign_48 : decode cX7_isSign 48 = .ok (.iconst 1, 1) := by decide +kernel
theorem dX7_isSign_49 : decode cX7_isSign 49 = .ok (.goto 4, 3) := by decide +kernel
theorem dX7_isSign_52 : decode cX7_isSign 52 = .ok (.iconst 0, 1) := by decide +kernel
theorem dX7_isSign_53 : decode cX7_isSign 53 = .ok (.ireturn, 1) := by decide +kernel
theorem dX7_readNumber_0 : decode cX7_readNumber 0 = .ok (.iconst 0, 1) := by decide +kernel
theorem dX7_readNumber_1 : decode cX7_readNumber 1 = .ok (.istore_n 1, 1) := by decide +kernel
theorem dX7_readNumber_2 : decode cX7_readNumber 2 = .ok (.aload_n 0, 1) := by decide +kernel
theorem dX7_readNumber_3 : decode cX7_readNumber 3 = .ok (.getfield 22, 3) := by decide +kernel
theorem dX7_readNumber_6 : decode cX7_readNumber 6 = .ok (.aload_n 0, 1) := by decide +kernel
theorem dX7_readNumber_7 : decode cX7_readNumber 7 = .ok (.getfield 19, 3) := by decide +kernel
theorem dX7_readNumber_10 : decode cX7_readNumber 10 = .ok (.if_icmp .ge 66, 3) := by decide +kernel
theorem dX7_readNumber_13 : decode cX7_readNumber 13 = .ok (.aload_n 0, 1) := by decide +kernel
theorem dX7_readNumber_14 : decode cX7_readNumber 14 = .ok (.getfield 15, 3) := by decide +kernel
theorem dX7_readNumber_17 : decode cX7_readNumber 17 = .ok (.aload_n 0, 1) := by decide +kernel
theorem dX7_readNumber_18 : decode cX7_readNumber 18 = .ok (.getfield 22, 3) := by decide +kernel
theorem dX7_readNumber_21 : decode cX7_readNumber 21 = .ok (.baload, 1) := by decide +kernel
theorem dX7_readNumber_22 : decode cX7_readNumber 22 = .ok (.invokestatic 114, 3) := by decide +kernel
theorem dX7_readNumber_25 : decode cX7_readNumber 25 = .ok (.ifCond .eq 51, 3) := by decide +kernel
theorem dX7_readNumber_28 : decode cX7_readNumber 28 = .ok (.aload_n 0, 1) := by decide +kernel
theorem dX7_readNumber_29 : decode cX7_readNumber 29 = .ok (.getfield 22, 3) := by decide +kernel
theorem dX7_readNumber_32 : decode cX7_readNumber 32 = .ok (.aload_n 0, 1) := by decide +kernel
theorem dX7_readNumber_33 : decode cX7_readNumber 33 = .ok (.getfield 25, 3) := by decide +kernel
theorem dX7_readNumber_36 : decode cX7_readNumber 36 = .ok (.isub, 1) := by decide +kernel
theorem dX7_readNumber_37 : decode cX7_readNumber 37 = .ok (.iconst 4, 1) := by decide +kernel
theorem dX7_readNumber_38 : decode cX7_readNumber 38 = .ok (.if_icmp .ge 23, 3) := by decide +kernel
theorem dX7_readNumber_41 : decode cX7_readNumber 41 = .ok (.bipush 10, 2) := by decide +kernel
theorem dX7_readNumber_43 : decode cX7_readNumber 43 = .ok (.iload_n 1, 1) := by decide +kernel
theorem dX7_readNumber_44 : decode cX7_readNumber 44 = .ok (.imul, 1) := by decide +kernel
theorem dX7_readNumber_45 : decode cX7_readNumber 45 = .ok (.aload_n 0, 1) := by decide +kernel
theorem dX7_readNumber_46 : decode cX7_readNumber 46 = .ok (.getfield 15, 3) := by decide +kernel
theorem dX7_readNumber_49 : decode cX7_readNumber 49 = .ok (.aload_n 0, 1) := by decide +kernel
theorem dX7_readNumber_50 : decode cX7_readNumber 50 = .ok (.getfield 22, 3) := by decide +kernel
theorem dX7_readNumber_53 : decode cX7_readNumber 53 = .ok (.baload, 1) := by decide +kernel
theorem dX7_readNumber_54 : decode cX7_readNumber 54 = .ok (.iadd, 1) := by decide +kernel
theorem dX7_readNumber_55 : decode cX7_readNumber 55 = .ok (.bipush 48, 2) := by decide +kernel
theorem dX7_readNumber_57 : decode cX7_readNumber 57 = .ok (.isub, 1) := by decide +kernel
theorem dX7_readNumber_58 : decode cX7_readNumber 58 = .ok (.goto 4, 3) := by decide +kernel
theorem dX7_readNumber_61 : decode cX7_readNumber 61 = .ok (.iload_n 1, 1) := by decide +kernel
theorem dX7_readNumber_62 : decode cX7_readNumber 62 = .ok (.istore_n 1, 1) := by decide +kernel
theorem dX7_readNumber_63 : decode cX7_readNumber 63 = .ok (.aload_n 0, 1) := by decide +kernel
theorem dX7_readNumber_64 : decode cX7_readNumber 64 = .ok (.dup, 1) := by decide +kernel
theorem dX7_readNumber_65 : decode cX7_readNumber 65 = .ok (.getfield 22, 3) := by decide +kernel
theorem dX7_readNumber_68 : decode cX7_readNumber 68 = .ok (.iconst 1, 1) := by decide +kernel
theorem dX7_readNumber_69 : decode cX7_readNumber 69 = .ok (.iadd, 1) := by decide +kernel
theorem dX7_readNumber_70 : decode cX7_readNumber 70 = .ok (.putfield 22, 3) := by decide +kernel
theorem dX7_readNumber_73 : decode cX7_readNumber 73 = .ok (.goto (-71), 3) := by decide +kernel
theorem dX7_readNumber_76 : decode cX7_readNumber 76 = .ok (.aload_n 0, 1) := by decide +kernel
theorem dX7_readNumber_77 : decode cX7_readNumber 77 = .ok (.aload_n 0, 1) := by decide +kernel
theorem dX7_readNumber_78 : decode cX7_readNumber 78 = .ok (.getfield 22, 3) := by decide +kernel
theorem dX7_readNumber_81 : decode cX7_readNumber 81 = .ok (.aload_n 0, 1) := by decide +kernel
theorem dX7_readNumber_82 : decode cX7_readNumber 82 = .ok (.getfield 25, 3) := by decide +kernel
theorem dX7_readNumber_85 : decode cX7_readNumber 85 = .ok (.isub, 1) := by decide +kernel
theorem dX7_readNumber_86 : decode cX7_readNumber 86 = .ok (.iconst 4, 1) := by decide +kernel
theorem dX7_readNumber_87 : decode cX7_readNumber 87 = .ok (.if_icmp .gt 7, 3) := by decide +kernel
theorem dX7_readNumber_90 : decode cX7_readNumber 90 = .ok (.iconst 1, 1) := by decide +kernel
theorem dX7_readNumber_91 : decode cX7_readNumber 91 = .ok (.goto 5, 3) := by decide +kernel
theorem dX7_readNumber_94 : decode cX7_readNumber 94 = .ok (.bipush 10, 2) := by decide +kernel
theorem dX7_readNumber_96 : decode cX7_readNumber 96 = .ok (.putfield 28, 3) := by decide +kernel
theorem dX7_readNumber_99 : decode cX7_readNumber 99 = .ok (.aload_n 0, 1) := by decide +kernel
theorem dX7_readNumber_100 : decode cX7_readNumber 100 = .ok (.iload_n 1, 1) := by decide +kernel
theorem dX7_readNumber_101 : decode cX7_readNumber 101 = .ok (.putfield 31, 3) := by decide +kernel
theorem dX7_readNumber_104 : decode cX7_readNumber 104 = .ok (.return_, 1) := by decide +kernel
theorem dX7_readWord_0 : decode cX7_readWord 0 = .ok (.aload_n 0, 1) := by decide +kernel
theorem dX7_readWord_1 : decode cX7_readWord 1 = .ok (.getfield 22, 3) := by decide +kernel
theorem dX7_readWord_4 : decode cX7_readWord 4 = .ok (.aload_n 0, 1) := by decide +kernel
theorem dX7_readWord_5 : decode cX7_readWord 5 = .ok (.getfield 19, 3) := by decide +kernel
theorem dX7_readWord_8 : decode cX7_readWord 8 = .ok (.if_icmp .ge 31, 3) := by decide +kernel
theorem dX7_readWord_11 : decode cX7_readWord 11 = .ok (.aload_n 0, 1) := by decide +kernel
theorem dX7_readWord_12 : decode cX7_readWord 12 = .ok (.getfield 15, 3) := by decide +kernel
theorem dX7_readWord_15 : decode cX7_readWord 15 = .ok (.aload_n 0, 1) := by decide +kernel
theorem dX7_readWord_16 : decode cX7_readWord 16 = .ok (.getfield 22, 3) := by decide +kernel
theorem dX7_readWord_19 : decode cX7_readWord 19 = .ok (.baload, 1) := by decide +kernel
theorem dX7_readWord_20 : decode cX7_readWord 20 = .ok (.invokestatic 107, 3) := by decide +kernel
theorem dX7_readWord_23 : decode cX7_readWord 23 = .ok (.ifCond .eq 16, 3) := by decide +kernel
theorem dX7_readWord_26 : decode cX7_readWord 26 = .ok (.aload_n 0, 1) := by decide +kernel
theorem dX7_readWord_27 : decode cX7_readWord 27 = .ok (.dup, 1) := by decide +kernel
theorem dX7_readWord_28 : decode cX7_readWord 28 = .ok (.getfield 22, 3) := by decide +kernel
theorem dX7_readWord_31 : decode cX7_readWord 31 = .ok (.iconst 1, 1) := by decide +kernel
theorem dX7_readWord_32 : decode cX7_readWord 32 = .ok (.iadd, 1) := by decide +kernel
theorem dX7_readWord_33 : decode cX7_readWord 33 = .ok (.putfield 22, 3) := by decide +kernel
theorem dX7_readWord_36 : decode cX7_readWord 36 = .ok (.goto (-36), 3) := by decide +kernel
theorem dX7_readWord_39 : decode cX7_readWord 39 = .ok (.aload_n 0, 1) := by decide +kernel
theorem dX7_readWord_40 : decode cX7_readWord 40 = .ok (.aload_n 0, 1) := by decide +kernel
theorem dX7_readWord_41 : decode cX7_readWord 41 = .ok (.ldc 123, 2) := by decide +kernel
theorem dX7_readWord_43 : decode cX7_readWord 43 = .ok (.invokevirtual 125, 3) := by decide +kernel
theorem dX7_readWord_46 : decode cX7_readWord 46 = .ok (.ifCond .eq 7, 3) := by decide +kernel
theorem dX7_readWord_49 : decode cX7_readWord 49 = .ok (.iconst 0, 1) := by decide +kernel
theorem dX7_readWord_50 : decode cX7_readWord 50 = .ok (.goto 70, 3) := by decide +kernel
theorem dX7_readWord_53 : decode cX7_readWord 53 = .ok (.aload_n 0, 1) := by decide +kernel
theorem dX7_readWord_54 : decode cX7_readWord 54 = .ok (.ldc 131, 2) := by decide +kernel
theorem dX7_readWord_56 : decode cX7_readWord 56 = .ok (.invokevirtual 125, 3) := by decide +kernel
theorem dX7_readWord_59 : decode cX7_readWord 59 = .ok (.ifCond .eq 7, 3) := by decide +kernel
theorem dX7_readWord_62 : decode cX7_readWord 62 = .ok (.iconst 1, 1) := by decide +kernel
theorem dX7_readWord_63 : decode cX7_readWord 63 = .ok (.goto 57, 3) := by decide +kernel
theorem dX7_readWord_66 : decode cX7_readWord 66 = .ok (.aload_n 0, 1) := by decide +kernel
theorem dX7_readWord_67 : decode cX7_readWord 67 = .ok (.ldc 133, 2) := by decide +kernel
theorem dX7_readWord_69 : decode cX7_readWord 69 = .ok (.invokevirtual 125, 3) := by decide +kernel
theorem dX7_readWord_72 : decode cX7_readWord 72 = .ok (.ifCond .eq 7, 3) := by decide +kernel
theorem dX7_readWord_75 : decode cX7_readWord 75 = .ok (.iconst 2, 1) := by decide +kernel
theorem dX7_readWord_76 : decode cX7_readWord 76 = .ok (.goto 44, 3) := by decide +kernel
theorem dX7_readWord_79 : decode cX7_readWord 79 = .ok (.aload_n 0, 1) := by decide +kernel
theorem dX7_readWord_80 : decode cX7_readWord 80 = .ok (.ldc 135, 2) := by decide +kernel
theorem dX7_readWord_82 : decode cX7_readWord 82 = .ok (.invokevirtual 125, 3) := by decide +kernel
theorem dX7_readWord_85 : decode cX7_readWord 85 = .ok (.ifCond .eq 7, 3) := by decide +kernel
theorem dX7_readWord_88 : decode cX7_readWord 88 = .ok (.iconst 3, 1) := by decide +kernel
theorem dX7_readWord_89 : decode cX7_readWord 89 = .ok (.goto 31, 3) := by decide +kernel
theorem dX7_readWord_92 : decode cX7_readWord 92 = .ok (.aload_n 0, 1) := by decide +kernel
theorem dX7_readWord_93 : decode cX7_readWord 93 = .ok (.ldc 137, 2) := by decide +kernel
theorem dX7_readWord_95 : decode cX7_readWord 95 = .ok (.invokevirtual 125, 3) := by decide +kernel
theorem dX7_readWord_98 : decode cX7_readWord 98 = .ok (.ifCond .eq 7, 3) := by decide +kernel
theorem dX7_readWord_101 : decode cX7_readWord 101 = .ok (.iconst 4, 1) := by decide +kernel
theorem dX7_readWord_102 : decode cX7_readWord 102 = .ok (.goto 18, 3) := by decide +kernel
theorem dX7_readWord_105 : decode cX7_readWord 105 = .ok (.aload_n 0, 1) := by decide +kernel
theorem dX7_readWord_106 : decode cX7_readWord 106 = .ok (.ldc 139, 2) := by decide +kernel
theorem dX7_readWord_108 : decode cX7_readWord 108 = .ok (.invokevirtual 125, 3) := by decide +kernel
theorem dX7_readWord_111 : decode cX7_readWord 111 = .ok (.ifCond .eq 7, 3) := by decide +kernel
theorem dX7_readWord_114 : decode cX7_readWord 114 = .ok (.iconst 5, 1) := by decide +kernel
theorem dX7_readWord_115 : decode cX7_readWord 115 = .ok (.goto 5, 3) := by decide +kernel
theorem dX7_readWord_118 : decode cX7_readWord 118 = .ok (.bipush 6, 2) := by decide +kernel
theorem dX7_readWord_120 : decode cX7_readWord 120 = .ok (.putfield 31, 3) := by decide +kernel
theorem dX7_readWord_123 : decode cX7_readWord 123 = .ok (.aload_n 0, 1) := by decide +kernel
theorem dX7_readWord_124 : decode cX7_readWord 124 = .ok (.aload_n 0, 1) := by decide +kernel
theorem dX7_readWord_125 : decode cX7_readWord 125 = .ok (.getfield 31, 3) := by decide +kernel
theorem dX7_readWord_128 : decode cX7_readWord 128 = .ok (.bipush 6, 2) := by decide +kernel
theorem dX7_readWord_130 : decode cX7_readWord 130 = .ok (.if_icmp .ge 7, 3) := by decide +kernel
theorem dX7_readWord_133 : decode cX7_readWord 133 = .ok (.iconst 2, 1) := by decide +kernel
theorem dX7_readWord_134 : decode cX7_readWord 134 = .ok (.goto 86, 3) := by decide +kernel
theorem dX7_readWord_137 : decode cX7_readWord 137 = .ok (.aload_n 0, 1) := by decide +kernel
theorem dX7_readWord_138 : decode cX7_readWord 138 = .ok (.ldc 141, 2) := by decide +kernel
theorem dX7_readWord_140 : decode cX7_readWord 140 = .ok (.invokevirtual 125, 3) := by decide +kernel
theorem dX7_readWord_143 : decode cX7_readWord 143 = .ok (.ifCond .eq 8, 3) := by decide +kernel
theorem dX7_readWord_146 : decode cX7_readWord 146 = .ok (.bipush 7, 2) := by decide +kernel
theorem dX7_readWord_148 : decode cX7_readWord 148 = .ok (.goto 72, 3) := by decide +kernel
theorem dX7_readWord_151 : decode cX7_readWord 151 = .ok (.aload_n 0, 1) := by decide +kernel
theorem dX7_readWord_152 : decode cX7_readWord 152 = .ok (.ldc 143, 2) := by decide +kernel
theorem dX7_readWord_154 : decode cX7_readWord 154 = .ok (.invokevirtual 125, 3) := by decide +kernel
theorem dX7_readWord_157 : decode cX7_readWord 157 = .ok (.ifCond .eq 8, 3) := by decide +kernel
theorem dX7_readWord_160 : decode cX7_readWord 160 = .ok (.bipush 8, 2) := by decide +kernel
theorem dX7_readWord_162 : decode cX7_readWord 162 = .ok (.goto 58, 3) := by decide +kernel
theorem dX7_readWord_165 : decode cX7_readWord 165 = .ok (.aload_n 0, 1) := by decide +kernel
theorem dX7_readWord_166 : decode cX7_readWord 166 = .ok (.ldc 145, 2) := by decide +kernel
theorem dX7_readWord_168 : decode cX7_readWord 168 = .ok (.invokevirtual 125, 3) := by decide +kernel
theorem dX7_readWord_171 : decode cX7_readWord 171 = .ok (.ifCond .eq 8, 3) := by decide +kernel
theorem dX7_readWord_174 : decode cX7_readWord 174 = .ok (.bipush 9, 2) := by decide +kernel
theorem dX7_readWord_176 : decode cX7_readWord 176 = .ok (.goto 44, 3) := by decide +kernel
theorem dX7_readWord_179 : decode cX7_readWord 179 = .ok (.aload_n 0, 1) := by decide +kernel
theorem dX7_readWord_180 : decode cX7_readWord 180 = .ok (.ldc 147, 2) := by decide +kernel
theorem dX7_readWord_182 : decode cX7_readWord 182 = .ok (.invokevirtual 125, 3) := by decide +kernel
theorem dX7_readWord_185 : decode cX7_readWord 185 = .ok (.ifCond .eq 7, 3) := by decide +kernel
theorem dX7_readWord_188 : decode cX7_readWord 188 = .ok (.iconst 3, 1) := by decide +kernel
theorem dX7_readWord_189 : decode cX7_readWord 189 = .ok (.goto 31, 3) := by decide +kernel
theorem dX7_readWord_192 : decode cX7_readWord 192 = .ok (.aload_n 0, 1) := by decide +kernel
theorem dX7_readWord_193 : decode cX7_readWord 193 = .ok (.ldc 149, 2) := by decide +kernel
theorem dX7_readWord_195 : decode cX7_readWord 195 = .ok (.invokevirtual 125, 3) := by decide +kernel
theorem dX7_readWord_198 : decode cX7_readWord 198 = .ok (.ifCond .eq 7, 3) := by decide +kernel
theorem dX7_readWord_201 : decode cX7_readWord 201 = .ok (.iconst 4, 1) := by decide +kernel
theorem dX7_readWord_202 : decode cX7_readWord 202 = .ok (.goto 18, 3) := by decide +kernel
theorem dX7_readWord_205 : decode cX7_readWord 205 = .ok (.aload_n 0, 1) := by decide +kernel
theorem dX7_readWord_206 : decode cX7_readWord 206 = .ok (.ldc 151, 2) := by decide +kernel
theorem dX7_readWord_208 : decode cX7_readWord 208 = .ok (.invokevirtual 125, 3) := by decide +kernel
theorem dX7_readWord_211 : decode cX7_readWord 211 = .ok (.ifCond .eq 7, 3) := by decide +kernel
theorem dX7_readWord_214 : decode cX7_readWord 214 = .ok (.iconst 5, 1) := by decide +kernel
theorem dX7_readWord_215 : decode cX7_readWord 215 = .ok (.goto 5, 3) := by decide +kernel
theorem dX7_readWord_218 : decode cX7_readWord 218 = .ok (.bipush 10, 2) := by decide +kernel
theorem dX7_readWord_220 : decode cX7_readWord 220 = .ok (.putfield 28, 3) := by decide +kernel
theorem dX7_readWord_223 : decode cX7_readWord 223 = .ok (.return_, 1) := by decide +kernel
theorem dX7_isWord_0 : decode cX7_isWord 0 = .ok (.aload_n 0, 1) := by decide +kernel
theorem dX7_isWord_1 : decode cX7_isWord 1 = .ok (.getfield 22, 3) := by decide +kernel
theorem dX7_isWord_4 : decode cX7_isWord 4 = .ok (.aload_n 0, 1) := by decide +kernel
theorem dX7_isWord_5 : decode cX7_isWord 5 = .ok (.getfield 25, 3) := by decide +kernel
theorem dX7_isWord_8 : decode cX7_isWord 8 = .ok (.isub, 1) := by decide +kernel
theorem dX7_isWord_9 : decode cX7_isWord 9 = .ok (.aload_n 1, 1) := by decide +kernel
theorem dX7_isWord_10 : decode cX7_isWord 10 = .ok (.invokevirtual 153, 3) := by decide +kernel
theorem dX7_isWord_13 : decode cX7_isWord 13 = .ok (.if_icmp .ne 7, 3) := by decide +kernel
theorem dX7_isWord_16 : decode cX7_isWord 16 = .ok (.iconst 1, 1) := by decide +kernel
theorem dX7_isWord_17 : decode cX7_isWord 17 = .ok (.goto 4, 3) := by decide +kernel
theorem dX7_isWord_20 : decode cX7_isWord 20 = .ok (.iconst 0, 1) := by decide +kernel
theorem dX7_isWord_21 : decode cX7_isWord 21 = .ok (.istore_n 2, 1) := by decide +kernel
theorem dX7_isWord_22 : decode cX7_isWord 22 = .ok (.iconst 0, 1) := by decide +kernel
theorem dX7_isWord_23 : decode cX7_isWord 23 = .ok (.istore_n 3, 1) := by decide +kernel
theorem dX7_isWord_24 : decode cX7_isWord 24 = .ok (.iload_n 2, 1) := by decide +kernel
theorem dX7_isWord_25 : decode cX7_isWord 25 = .ok (.ifCond .eq 42, 3) := by decide +kernel
theorem dX7_isWord_28 : decode cX7_isWord 28 = .ok (.iload_n 3, 1) := by decide +kernel
theorem dX7_isWord_29 : decode cX7_isWord 29 = .ok (.aload_n 1, 1) := by decide +kernel
theorem dX7_isWord_30 : decode cX7_isWord 30 = .ok (.invokevirtual 153, 3) := by decide +kernel
theorem dX7_isWord_33 : decode cX7_isWord 33 = .ok (.if_icmp .ge 34, 3) := by decide +kernel
theorem dX7_isWord_36 : decode cX7_isWord 36 = .ok (.aload_n 0, 1) := by decide +kernel
theorem dX7_isWord_37 : decode cX7_isWord 37 = .ok (.getfield 15, 3) := by decide +kernel
theorem dX7_isWord_40 : decode cX7_isWord 40 = .ok (.aload_n 0, 1) := by decide +kernel
theorem dX7_isWord_41 : decode cX7_isWord 41 = .ok (.getfield 25, 3) := by decide +kernel
theorem dX7_isWord_44 : decode cX7_isWord 44 = .ok (.iload_n 3, 1) := by decide +kernel
theorem dX7_isWord_45 : decode cX7_isWord 45 = .ok (.iadd, 1) := by decide +kernel
theorem dX7_isWord_46 : decode cX7_isWord 46 = .ok (.baload, 1) := by decide +kernel
theorem dX7_isWord_47 : decode cX7_isWord 47 = .ok (.aload_n 1, 1) := by decide +kernel
theorem dX7_isWord_48 : decode cX7_isWord 48 = .ok (.iload_n 3, 1) := by decide +kernel
theorem dX7_isWord_49 : decode cX7_isWord 49 = .ok (.invokevirtual 159, 3) := by decide +kernel
theorem dX7_isWord_52 : decode cX7_isWord 52 = .ok (.if_icmp .ne 7, 3) := by decide +kernel
theorem dX7_isWord_55 : decode cX7_isWord 55 = .ok (.iconst 1, 1) := by decide +kernel
theorem dX7_isWord_56 : decode cX7_isWord 56 = .ok (.goto 4, 3) := by decide +kernel
theorem dX7_isWord_59 : decode cX7_isWord 59 = .ok (.iconst 0, 1) := by decide +kernel
theorem dX7_isWord_60 : decode cX7_isWord 60 = .ok (.istore_n 2, 1) := by decide +kernel
theorem dX7_isWord_61 : decode cX7_isWord 61 = .ok (.iinc 3 1, 3) := by decide +kernel
theorem dX7_isWord_64 : decode cX7_isWord 64 = .ok (.goto (-40), 3) := by decide +kernel
theorem dX7_isWord_67 : decode cX7_isWord 67 = .ok (.iload_n 2, 1) := by decide +kernel
theorem dX7_isWord_68 : decode cX7_isWord 68 = .ok (.ireturn, 1) := by decide +kernel
theorem dX8_init_0 : decode cX8_init 0 = .ok (.aload_n 0, 1) := by decide +kernel
theorem dX8_init_1 : decode cX8_init 1 = .ok (.invokespecial 3, 3) := by decide +kernel
theorem dX8_init_4 : decode cX8_init 4 = .ok (.aload_n 0, 1) := by decide +kernel
theorem dX8_init_5 : decode cX8_init 5 = .ok (.bipush 8, 2) := by decide +kernel
theorem dX8_init_7 : decode cX8_init 7 = .ok (.newarray .int, 2) := by decide +kernel
theorem dX8_init_9 : decode cX8_init 9 = .ok (.putfield 9, 3) := by decide +kernel
theorem dX8_init_12 : decode cX8_init 12 = .ok (.aload_n 0, 1) := by decide +kernel
theorem dX8_init_13 : decode cX8_init 13 = .ok (.iconst 0, 1) := by decide +kernel
theorem dX8_init_14 : decode cX8_init 14 = .ok (.putfield 15, 3) := by decide +kernel
theorem dX8_init_17 : decode cX8_init 17 = .ok (.aload_n 0, 1) := by decide +kernel
theorem dX8_init_18 : decode cX8_init 18 = .ok (.iconst 0, 1) := by decide +kernel
theorem dX8_init_19 : decode cX8_init 19 = .ok (.putfield 19, 3) := by decide +kernel
theorem dX8_init_22 : decode cX8_init 22 = .ok (.aload_n 0, 1) := by decide +kernel
theorem dX8_init_23 : decode cX8_init 23 = .ok (.iconst 0, 1) := by decide +kernel
theorem dX8_init_24 : decode cX8_init 24 = .ok (.putfield 22, 3) := by decide +kernel
theorem dX8_init_27 : decode cX8_init 27 = .ok (.aload_n 0, 1) := by decide +kernel
theorem dX8_init_28 : decode cX8_init 28 = .ok (.iconst 0, 1) := by decide +kernel
theorem dX8_init_29 : decode cX8_init 29 = .ok (.putfield 25, 3) := by decide +kernel
theorem dX8_init_32 : decode cX8_init 32 = .ok (.aload_n 0, 1) := by decide +kernel
theorem dX8_init_33 : decode cX8_init 33 = .ok (.iconst 0, 1) := by decide +kernel
theorem dX8_init_34 : decode cX8_init 34 = .ok (.putfield 28, 3) := by decide +kernel
theorem dX8_init_37 : decode cX8_init 37 = .ok (.aload_n 0, 1) := by decide +kernel
theorem dX8_init_38 : decode cX8_init 38 = .ok (.iconst 1, 1) := by decide +kernel
theorem dX8_init_39 : decode cX8_init 39 = .ok (.putfield 31, 3) := by decide +kernel
theorem dX8_init_42 : decode cX8_init 42 = .ok (.aload_n 0, 1) := by decide +kernel
theorem dX8_init_43 : decode cX8_init 43 = .ok (.iload_n 1, 1) := by decide +kernel
theorem dX8_init_44 : decode cX8_init 44 = .ok (.putfield 35, 3) := by decide +kernel
theorem dX8_init_47 : decode cX8_init 47 = .ok (.aload_n 0, 1) := by decide +kernel
theorem dX8_init_48 : decode cX8_init 48 = .ok (.iload_n 2, 1) := by decide +kernel
theorem dX8_init_49 : decode cX8_init 49 = .ok (.putfield 38, 3) := by decide +kernel
theorem dX8_init_52 : decode cX8_init 52 = .ok (.aload_n 0, 1) := by decide +kernel
theorem dX8_init_53 : decode cX8_init 53 = .ok (.iload_n 3, 1) := by decide +kernel
theorem dX8_init_54 : decode cX8_init 54 = .ok (.putfield 41, 3) := by decide +kernel
theorem dX8_init_57 : decode cX8_init 57 = .ok (.aload_n 0, 1) := by decide +kernel
theorem dX8_init_58 : decode cX8_init 58 = .ok (.bipush 10, 2) := by decide +kernel
theorem dX8_init_60 : decode cX8_init 60 = .ok (.bipush 10, 2) := by decide +kernel
theorem dX8_init_62 : decode cX8_init 62 = .ok (.iload_n 2, 1) := by decide +kernel
theorem dX8_init_63 : decode cX8_init 63 = .ok (.imul, 1) := by decide +kernel
theorem dX8_init_64 : decode cX8_init 64 = .ok (.iadd, 1) := by decide +kernel
theorem dX8_init_65 : decode cX8_init 65 = .ok (.putfield 44, 3) := by decide +kernel
theorem dX8_init_68 : decode cX8_init 68 = .ok (.return_, 1) := by decide +kernel
theorem dX8_placeOf_0 : decode cX8_placeOf 0 = .ok (.iconst 2, 1) := by decide +kernel
theorem dX8_placeOf_1 : decode cX8_placeOf 1 = .ok (.iload_n 1, 1) := by decide +kernel
theorem dX8_placeOf_2 : decode cX8_placeOf 2 = .ok (.imul, 1) := by decide +kernel
theorem dX8_placeOf_3 : decode cX8_placeOf 3 = .ok (.aload_n 0, 1) := by decide +kernel
theorem dX8_placeOf_4 : decode cX8_placeOf 4 = .ok (.getfield 19, 3) := by decide +kernel
theorem dX8_placeOf_7 : decode cX8_placeOf 7 = .ok (.iadd, 1) := by decide +kernel
theorem dX8_placeOf_8 : decode cX8_placeOf 8 = .ok (.aload_n 0, 1) := by decide +kernel
theorem dX8_placeOf_9 : decode cX8_placeOf 9 = .ok (.getfield 22, 3) := by decide +kernel
theorem dX8_placeOf_12 : decode cX8_placeOf 12 = .ok (.iadd, 1) := by decide +kernel
theorem dX8_placeOf_13 : decode cX8_placeOf 13 = .ok (.ireturn, 1) := by decide +kernel
theorem dX8_floor_0 : decode cX8_floor 0 = .ok (.aload_n 0, 1) := by decide +kernel
theorem dX8_floor_1 : decode cX8_floor 1 = .ok (.getfield 15, 3) := by decide +kernel
theorem dX8_floor_4 : decode cX8_floor 4 = .ok (.aload_n 0, 1) := by decide +kernel
theorem dX8_floor_5 : decode cX8_floor 5 = .ok (.getfield 25, 3) := by decide +kernel
theorem dX8_floor_8 : decode cX8_floor 8 = .ok (.iadd, 1) := by decide +kernel
theorem dX8_floor_9 : decode cX8_floor 9 = .ok (.ireturn, 1) := by decide +kernel
theorem dX8_heightOf_0 : decode cX8_heightOf 0 = .ok (.aload_n 0, 1) := by decide +kernel
theorem dX8_heightOf_1 : decode cX8_heightOf 1 = .ok (.getfield 15, 3) := by decide +kernel
theorem dX8_heightOf_4 : decode cX8_heightOf 4 = .ok (.aload_n 0, 1) := by decide +kernel
theorem dX8_heightOf_5 : decode cX8_heightOf 5 = .ok (.getfield 25, 3) := by decide +kernel
theorem dX8_heightOf_8 : decode cX8_heightOf 8 = .ok (.iadd, 1) := by decide +kernel
theorem dX8_heightOf_9 : decode cX8_heightOf 9 = .ok (.iload_n 1, 1) := by decide +kernel
theorem dX8_heightOf_10 : decode cX8_heightOf 10 = .ok (.aload_n 0, 1) := by decide +kernel
theorem dX8_heightOf_11 : decode cX8_heightOf 11 = .ok (.getfield 28, 3) := by decide +kernel
theorem dX8_heightOf_14 : decode cX8_heightOf 14 = .ok (.if_icmp .le 12, 3) := by decide +kernel
theorem dX8_heightOf_17 : decode cX8_heightOf 17 = .ok (.iload_n 1, 1) := by decide +kernel
theorem dX8_heightOf_18 : decode cX8_heightOf 18 = .ok (.aload_n 0, 1) := by decide +kernel
theorem dX8_heightOf_19 : decode cX8_heightOf 19 = .ok (.getfield 28, 3) := by decide +kernel
theorem dX8_heightOf_22 : decode cX8_heightOf 22 = .ok (.isub, 1) := by decide +kernel
theorem dX8_heightOf_23 : decode cX8_heightOf 23 = .ok (.goto 4, 3) := by decide +kernel
theorem dX8_heightOf_26 : decode cX8_heightOf 26 = .ok (.iconst 0, 1) := by decide +kernel
theorem dX8_heightOf_27 : decode cX8_heightOf 27 = .ok (.iadd, 1) := by decide +kernel
theorem dX8_heightOf_28 : decode cX8_heightOf 28 = .ok (.ireturn, 1) := by decide +kernel
theorem dX10_init_0 : decode cX10_init 0 = .ok (.aload_n 0, 1) := by decide +kernel
theorem dX10_init_1 : decode cX10_init 1 = .ok (.invokespecial 1, 3) := by decide +kernel
theorem dX10_init_4 : decode cX10_init 4 = .ok (.aload_n 0, 1) := by decide +kernel
theorem dX10_init_5 : decode cX10_init 5 = .ok (.bipush 32, 2) := by decide +kernel
theorem dX10_init_7 : decode cX10_init 7 = .ok (.newarray .int, 2) := by decide +kernel
theorem dX10_init_9 : decode cX10_init 9 = .ok (.putfield 9, 3) := by decide +kernel
theorem dX10_init_12 : decode cX10_init 12 = .ok (.aload_n 0, 1) := by decide +kernel
theorem dX10_init_13 : decode cX10_init 13 = .ok (.aload_n 1, 1) := by decide +kernel
theorem dX10_init_14 : decode cX10_init 14 = .ok (.putfield 13, 3) := by decide +kernel
theorem dX10_init_17 : decode cX10_init 17 = .ok (.aload_n 0, 1) := by decide +kernel
theorem dX10_init_18 : decode cX10_init 18 = .ok (.aload_n 2, 1) := by decide +kernel
theorem dX10_init_19 : decode cX10_init 19 = .ok (.putfield 16, 3) := by decide +kernel
theorem dX10_init_22 : decode cX10_init 22 = .ok (.return_, 1) := by decide +kernel
theorem dX10_run_0 : decode cX10_run 0 = .ok (.iconst 0, 1) := by decide +kernel
theorem dX10_run_1 : decode cX10_run 1 = .ok (.istore_n 3, 1) := by decide +kernel
theorem dX10_run_2 : decode cX10_run 2 = .ok (.iload_n 1, 1) := by decide +kernel
theorem dX10_run_3 : decode cX10_run 3 = .ok (.ifCond .le 14, 3) := by decide +kernel
theorem dX10_run_6 : decode cX10_run 6 = .ok (.aload_n 0, 1) := by decide +kernel
theorem dX10_run_7 : decode cX10_run 7 = .ok (.getfield 16, 3) := by decide +kernel
theorem dX10_run_10 : decode cX10_run 10 = .ok (.iload_n 1, 1) := by decide +kernel
theorem dX10_run_11 : decode cX10_run 11 = .ok (.iconst 1, 1) := by decide +kernel
theorem dX10_run_12 : decode cX10_run 12 = .ok (.isub, 1) := by decide +kernel
theorem dX10_run_13 : decode cX10_run 13 = .ok (.iaload, 1) := by decide +kernel
theorem dX10_run_14 : decode cX10_run 14 = .ok (.goto 4, 3) := by decide +kernel
theorem dX10_run_17 : decode cX10_run 17 = .ok (.iconst 0, 1) := by decide +kernel
theorem dX10_run_18 : decode cX10_run 18 = .ok (.istore 4, 2) := by decide +kernel
theorem dX10_run_20 : decode cX10_run 20 = .ok (.iload 4, 2) := by decide +kernel
theorem dX10_run_22 : decode cX10_run 22 = .ok (.aload_n 0, 1) := by decide +kernel
theorem dX10_run_23 : decode cX10_run 23 = .ok (.getfield 16, 3) := by decide +kernel
theorem dX10_run_26 : decode cX10_run 26 = .ok (.iload_n 1, 1) := by decide +kernel
theorem dX10_run_27 : decode cX10_run 27 = .ok (.iaload, 1) := by decide +kernel
theorem dX10_run_28 : decode cX10_run 28 = .ok (.if_icmp .ge 175, 3) := by decide +kernel
theorem dX10_run_31 : decode cX10_run 31 = .ok (.aload_n 0, 1) := by decide +kernel
theorem dX10_run_32 : decode cX10_run 32 = .ok (.getfield 13, 3) := by decide +kernel
theorem dX10_run_35 : decode cX10_run 35 = .ok (.iload 4, 2) := by decide +kernel
theorem dX10_run_37 : decode cX10_run 37 = .ok (.iaload, 1) := by decide +kernel
theorem dX10_run_38 : decode cX10_run 38 = .ok (.bipush 14, 2) := by decide +kernel
theorem dX10_run_40 : decode cX10_run 40 = .ok (.ishr, 1) := by decide +kernel
theorem dX10_run_41 : decode cX10_run 41 = .ok (.istore 5, 2) := by decide +kernel
theorem dX10_run_43 : decode cX10_run 43 = .ok (.aload_n 0, 1) := by decide +kernel
theorem dX10_run_44 : decode cX10_run 44 = .ok (.getfield 13, 3) := by decide +kernel
theorem dX10_run_47 : decode cX10_run 47 = .ok (.iload 4, 2) := by decide +kernel
theorem dX10_run_49 : decode cX10_run 49 = .ok (.iaload, 1) := by decide +kernel
theorem dX10_run_50 : decode cX10_run 50 = .ok (.sipush 16383, 3) := by decide +kernel
theorem dX10_run_53 : decode cX10_run 53 = .ok (.iand, 1) := by decide +kernel
theorem dX10_run_54 : decode cX10_run 54 = .ok (.istore 6, 2) := by decide +kernel
theorem dX10_run_56 : decode cX10_run 56 = .ok (.iload 5, 2) := by decide +kernel
theorem dX10_run_58 : decode cX10_run 58 = .ok (.iconst 1, 1) := by decide +kernel
theorem dX10_run_59 : decode cX10_run 59 = .ok (.if_icmp .eq 9, 3) := by decide +kernel
theorem dX10_run_62 : decode cX10_run 62 = .ok (.iload 5, 2) := by decide +kernel
theorem dX10_run_64 : decode cX10_run 64 = .ok (.iconst 2, 1) := by decide +kernel
theorem dX10_run_65 : decode cX10_run 65 = .ok (.if_icmp .ne 36, 3) := by decide +kernel
theorem dX10_run_68 : decode cX10_run 68 = .ok (.iload_n 3, 1) := by decide +kernel
theorem dX10_run_69 : decode cX10_run 69 = .ok (.bipush 32, 2) := by decide +kernel
theorem dX10_run_71 : decode cX10_run 71 = .ok (.if_icmp .ge 126, 3) := by decide +kernel
theorem dX10_run_74 : decode cX10_run 74 = .ok (.aload_n 0, 1) := by decide +kernel
theorem dX10_run_75 : decode cX10_run 75 = .ok (.getfield 9, 3) := by decide +kernel
theorem dX10_run_78 : decode cX10_run 78 = .ok (.iload_n 3, 1) := by decide +kernel
theorem dX10_run_79 : decode cX10_run 79 = .ok (.iload 5, 2) := by decide +kernel
theorem dX10_run_81 : decode cX10_run 81 = .ok (.iconst 1, 1) := by decide +kernel
theorem dX10_run_82 : decode cX10_run 82 = .ok (.if_icmp .ne 8, 3) := by decide +kernel
theorem dX10_run_85 : decode cX10_run 85 = .ok (.iload 6, 2) := by decide +kernel
theorem dX10_run_87 : decode cX10_run 87 = .ok (.goto 7, 3) := by decide +kernel
theorem dX10_run_90 : decode cX10_run 90 = .ok (.aload_n 2, 1) := by decide +kernel
theorem dX10_run_91 : decode cX10_run 91 = .ok (.iload 6, 2) := by decide +kernel
theorem dX10_run_93 : decode cX10_run 93 = .ok (.iaload, 1) := by decide +kernel
theorem dX10_run_94 : decode cX10_run 94 = .ok (.iastore, 1) := by decide +kernel
theorem dX10_run_95 : decode cX10_run 95 = .ok (.iinc 3 1, 3) := by decide +kernel
theorem dX10_run_98 : decode cX10_run 98 = .ok (.goto 99, 3) := by decide +kernel
theorem dX10_run_101 : decode cX10_run 101 = .ok (.iload 5, 2) := by decide +kernel
theorem dX10_run_103 : decode cX10_run 103 = .ok (.iconst 5, 1) := by decide +kernel
theorem dX10_run_104 : decode cX10_run 104 = .ok (.if_icmp .eq 10, 3) := by decide +kernel
theorem dX10_run_107 : decode cX10_run 107 = .ok (.iload 5, 2) := by decide +kernel
theorem dX10_run_109 : decode cX10_run 109 = .ok (.bipush 6, 2) := by decide +kernel
theorem dX10_run_111 : decode cX10_run 111 = .ok (.if_icmp .ne 51, 3) := by decide +kernel
theorem dX10_run_114 : decode cX10_run 114 = .ok (.iload_n 3, 1) := by decide +kernel
theorem dX10_run_115 : decode cX10_run 115 = .ok (.ifCond .le 82, 3) := by decide +kernel
theorem dX10_run_118 : decode cX10_run 118 = .ok (.aload_n 0, 1) := by decide +kernel
theorem dX10_run_119 : decode cX10_run 119 = .ok (.getfield 9, 3) := by decide +kernel
theorem dX10_run_122 : decode cX10_run 122 = .ok (.iload_n 3, 1) := by decide +kernel
theorem dX10_run_123 : decode cX10_run 123 = .ok (.iconst 1, 1) := by decide +kernel
theorem dX10_run_124 : decode cX10_run 124 = .ok (.isub, 1) := by decide +kernel
theorem dX10_run_125 : decode cX10_run 125 = .ok (.iaload, 1) := by decide +kernel
theorem dX10_run_126 : decode cX10_run 126 = .ok (.istore 7, 2) := by decide +kernel
theorem dX10_run_128 : decode cX10_run 128 = .ok (.aload_n 0, 1) := by decide +kernel
theorem dX10_run_129 : decode cX10_run 129 = .ok (.getfield 9, 3) := by decide +kernel
theorem dX10_run_132 : decode cX10_run 132 = .ok (.iload_n 3, 1) := by decide +kernel
theorem dX10_run_133 : decode cX10_run 133 = .ok (.iconst 1, 1) := by decide +kernel
theorem dX10_run_134 : decode cX10_run 134 = .ok (.isub, 1) := by decide +kernel
theorem dX10_run_135 : decode cX10_run 135 = .ok (.iload 5, 2) := by decide +kernel
theorem dX10_run_137 : decode cX10_run 137 = .ok (.bipush 6, 2) := by decide +kernel
theorem dX10_run_139 : decode cX10_run 139 = .ok (.if_icmp .ne 9, 3) := by decide +kernel
theorem dX10_run_142 : decode cX10_run 142 = .ok (.iload 7, 2) := by decide +kernel
theorem dX10_run_144 : decode cX10_run 144 = .ok (.ineg, 1) := by decide +kernel
theorem dX10_run_145 : decode cX10_run 145 = .ok (.goto 13, 3) := by decide +kernel
theorem dX10_run_148 : decode cX10_run 148 = .ok (.iload 7, 2) := by decide +kernel
theorem dX10_run_150 : decode cX10_run 150 = .ok (.ifCond .ne 7, 3) := by decide +kernel
theorem dX10_run_153 : decode cX10_run 153 = .ok (.iconst 1, 1) := by decide +kernel
theorem dX10_run_154 : decode cX10_run 154 = .ok (.goto 4, 3) := by decide +kernel
theorem dX10_run_157 : decode cX10_run 157 = .ok (.iconst 0, 1) := by decide +kernel
theorem dX10_run_158 : decode cX10_run 158 = .ok (.iastore, 1) := by decide +kernel
theorem dX10_run_159 : decode cX10_run 159 = .ok (.goto 38, 3) := by decide +kernel
theorem dX10_run_162 : decode cX10_run 162 = .ok (.iload_n 3, 1) := by decide +kernel
theorem dX10_run_163 : decode cX10_run 163 = .ok (.iconst 1, 1) := by decide +kernel
theorem dX10_run_164 : decode cX10_run 164 = .ok (.if_icmp .le 33, 3) := by decide +kernel
theorem dX10_run_167 : decode cX10_run 167 = .ok (.iinc 3 (-1), 3) := by decide +kernel
theorem dX10_run_170 : decode cX10_run 170 = .ok (.aload_n 0, 1) := by decide +kernel
theorem dX10_run_171 : decode cX10_run 171 = .ok (.getfield 9, 3) := by decide +kernel
theorem dX10_run_174 : decode cX10_run 174 = .ok (.iload_n 3, 1) := by decide +kernel
theorem dX10_run_175 : decode cX10_run 175 = .ok (.iconst 1, 1) := by decide +kernel
theorem dX10_run_176 : decode cX10_run 176 = .ok (.isub, 1) := by decide +kernel
theorem dX10_run_177 : decode cX10_run 177 = .ok (.iload 5, 2) := by decide +kernel
theorem dX10_run_179 : decode cX10_run 179 = .ok (.aload_n 0, 1) := by decide +kernel
theorem dX10_run_180 : decode cX10_run 180 = .ok (.getfield 9, 3) := by decide +kernel
theorem dX10_run_183 : decode cX10_run 183 = .ok (.iload_n 3, 1) := by decide +kernel
theorem dX10_run_184 : decode cX10_run 184 = .ok (.iconst 1, 1) := by decide +kernel
theorem dX10_run_185 : decode cX10_run 185 = .ok (.isub, 1) := by decide +kernel
theorem dX10_run_186 : decode cX10_run 186 = .ok (.iaload, 1) := by decide +kernel
theorem dX10_run_187 : decode cX10_run 187 = .ok (.aload_n 0, 1) := by decide +kernel
theorem dX10_run_188 : decode cX10_run 188 = .ok (.getfield 9, 3) := by decide +kernel
theorem dX10_run_191 : decode cX10_run 191 = .ok (.iload_n 3, 1) := by decide +kernel
theorem dX10_run_192 : decode cX10_run 192 = .ok (.iaload, 1) := by decide +kernel
theorem dX10_run_193 : decode cX10_run 193 = .ok (.invokestatic 19, 3) := by decide +kernel
theorem dX10_run_196 : decode cX10_run 196 = .ok (.iastore, 1) := by decide +kernel
theorem dX10_run_197 : decode cX10_run 197 = .ok (.iinc 4 1, 3) := by decide +kernel
theorem dX10_run_200 : decode cX10_run 200 = .ok (.goto (-180), 3) := by decide +kernel
theorem dX10_run_203 : decode cX10_run 203 = .ok (.aload_n 0, 1) := by decide +kernel
theorem dX10_run_204 : decode cX10_run 204 = .ok (.getfield 9, 3) := by decide +kernel
theorem dX10_run_207 : decode cX10_run 207 = .ok (.iconst 0, 1) := by decide +kernel
theorem dX10_run_208 : decode cX10_run 208 = .ok (.iaload, 1) := by decide +kernel
theorem dX10_run_209 : decode cX10_run 209 = .ok (.ireturn, 1) := by decide +kernel
theorem dX10_joined_0 : decode cX10_joined 0 = .ok (.iload_n 0, 1) := by decide +kernel
theorem dX10_joined_1 : decode cX10_joined 1 = .ok (.lookupswitch 117 #[(3, 59), (4, 73), (43, 109), (45, 113), (60, 87), (61, 98)], 59) := by decide +kernel
theorem dX10_joined_60 : decode cX10_joined 60 = .ok (.iload_n 1, 1) := by decide +kernel
theorem dX10_joined_61 : decode cX10_joined 61 = .ok (.ifCond .ne 7, 3) := by decide +kernel
theorem dX10_joined_64 : decode cX10_joined 64 = .ok (.iload_n 2, 1) := by decide +kernel
theorem dX10_joined_65 : decode cX10_joined 65 = .ok (.ifCond .eq 7, 3) := by decide +kernel
theorem dX10_joined_68 : decode cX10_joined 68 = .ok (.iconst 1, 1) := by decide +kernel
theorem dX10_joined_69 : decode cX10_joined 69 = .ok (.goto 4, 3) := by decide +kernel
theorem dX10_joined_72 : decode cX10_joined 72 = .ok (.iconst 0, 1) := by decide +kernel
theorem dX10_joined_73 : decode cX10_joined 73 = .ok (.ireturn, 1) := by decide +kernel
theorem dX10_joined_74 : decode cX10_joined 74 = .ok (.iload_n 1, 1) := by decide +kernel
theorem dX10_joined_75 : decode cX10_joined 75 = .ok (.ifCond .eq 11, 3) := by decide +kernel
theorem dX10_joined_78 : decode cX10_joined 78 = .ok (.iload_n 2, 1) := by decide +kernel
theorem dX10_joined_79 : decode cX10_joined 79 = .ok (.ifCond .eq 7, 3) := by decide +kernel
theorem dX10_joined_82 : decode cX10_joined 82 = .ok (.iconst 1, 1) := by decide +kernel
theorem dX10_joined_83 : decode cX10_joined 83 = .ok (.goto 4, 3) := by decide +kernel
theorem dX10_joined_86 : decode cX10_joined 86 = .ok (.iconst 0, 1) := by decide +kernel
theorem dX10_joined_87 : decode cX10_joined 87 = .ok (.ireturn, 1) := by decide +kernel
theorem dX10_joined_88 : decode cX10_joined 88 = .ok (.iload_n 1, 1) := by decide +kernel
theorem dX10_joined_89 : decode cX10_joined 89 = .ok (.iload_n 2, 1) := by decide +kernel
theorem dX10_joined_90 : decode cX10_joined 90 = .ok (.if_icmp .ge 7, 3) := by decide +kernel
theorem dX10_joined_93 : decode cX10_joined 93 = .ok (.iconst 1, 1) := by decide +kernel
theorem dX10_joined_94 : decode cX10_joined 94 = .ok (.goto 4, 3) := by decide +kernel
theorem dX10_joined_97 : decode cX10_joined 97 = .ok (.iconst 0, 1) := by decide +kernel
theorem dX10_joined_98 : decode cX10_joined 98 = .ok (.ireturn, 1) := by decide +kernel
theorem dX10_joined_99 : decode cX10_joined 99 = .ok (.iload_n 1, 1) := by decide +kernel
theorem dX10_joined_100 : decode cX10_joined 100 = .ok (.iload_n 2, 1) := by decide +kernel
theorem dX10_joined_101 : decode cX10_joined 101 = .ok (.if_icmp .ne 7, 3) := by decide +kernel
theorem dX10_joined_104 : decode cX10_joined 104 = .ok (.iconst 1, 1) := by decide +kernel
theorem dX10_joined_105 : decode cX10_joined 105 = .ok (.goto 4, 3) := by decide +kernel
theorem dX10_joined_108 : decode cX10_joined 108 = .ok (.iconst 0, 1) := by decide +kernel
theorem dX10_joined_109 : decode cX10_joined 109 = .ok (.ireturn, 1) := by decide +kernel
theorem dX10_joined_110 : decode cX10_joined 110 = .ok (.iload_n 1, 1) := by decide +kernel
theorem dX10_joined_111 : decode cX10_joined 111 = .ok (.iload_n 2, 1) := by decide +kernel
theorem dX10_joined_112 : decode cX10_joined 112 = .ok (.iadd, 1) := by decide +kernel
theorem dX10_joined_113 : decode cX10_joined 113 = .ok (.ireturn, 1) := by decide +kernel
theorem dX10_joined_114 : decode cX10_joined 114 = .ok (.iload_n 1, 1) := by decide +kernel
theorem dX10_joined_115 : decode cX10_joined 115 = .ok (.iload_n 2, 1) := by decide +kernel
theorem dX10_joined_116 : decode cX10_joined 116 = .ok (.isub, 1) := by decide +kernel
theorem dX10_joined_117 : decode cX10_joined 117 = .ok (.ireturn, 1) := by decide +kernel
theorem dX10_joined_118 : decode cX10_joined 118 = .ok (.iload_n 1, 1) := by decide +kernel
theorem dX10_joined_119 : decode cX10_joined 119 = .ok (.iload_n 2, 1) := by decide +kernel
theorem dX10_joined_120 : decode cX10_joined 120 = .ok (.imul, 1) := by decide +kernel
theorem dX10_joined_121 : decode cX10_joined 121 = .ok (.ireturn, 1) := by decide +kernel
theorem dX11_init_0 : decode cX11_init 0 = .ok (.aload_n 0, 1) := by decide +kernel
theorem dX11_init_1 : decode cX11_init 1 = .ok (.invokespecial 1, 3) := by decide +kernel
theorem dX11_init_4 : decode cX11_init 4 = .ok (.aload_n 0, 1) := by decide +kernel
theorem dX11_init_5 : decode cX11_init 5 = .ok (.new 7, 3) := by decide +kernel
theorem dX11_init_8 : decode cX11_init 8 = .ok (.dup, 1) := by decide +kernel
theorem dX11_init_9 : decode cX11_init 9 = .ok (.invokespecial 9, 3) := by decide +kernel
theorem dX11_init_12 : decode cX11_init 12 = .ok (.putfield 10, 3) := by decide +kernel
theorem dX11_init_15 : decode cX11_init 15 = .ok (.aload_n 0, 1) := by decide +kernel
theorem dX11_init_16 : decode cX11_init 16 = .ok (.new 16, 3) := by decide +kernel
theorem dX11_init_19 : decode cX11_init 19 = .ok (.dup, 1) := by decide +kernel
theorem dX11_init_20 : decode cX11_init 20 = .ok (.invokespecial 18, 3) := by decide +kernel
theorem dX11_init_23 : decode cX11_init 23 = .ok (.putfield 19, 3) := by decide +kernel
theorem dX11_init_26 : decode cX11_init 26 = .ok (.aload_n 0, 1) := by decide +kernel
theorem dX11_init_27 : decode cX11_init 27 = .ok (.bipush 6, 2) := by decide +kernel
theorem dX11_init_29 : decode cX11_init 29 = .ok (.anewarray 23, 3) := by decide +kernel
theorem dX11_init_32 : decode cX11_init 32 = .ok (.putfield 25, 3) := by decide +kernel
theorem dX11_init_35 : decode cX11_init 35 = .ok (.aload_n 0, 1) := by decide +kernel
theorem dX11_init_36 : decode cX11_init 36 = .ok (.new 29, 3) := by decide +kernel
theorem dX11_init_39 : decode cX11_init 39 = .ok (.dup, 1) := by decide +kernel
theorem dX11_init_40 : decode cX11_init 40 = .ok (.invokespecial 31, 3) := by decide +kernel
theorem dX11_init_43 : decode cX11_init 43 = .ok (.putfield 32, 3) := by decide +kernel
theorem dX11_init_46 : decode cX11_init 46 = .ok (.aload_n 0, 1) := by decide +kernel
theorem dX11_init_47 : decode cX11_init 47 = .ok (.sipush 160, 3) := by decide +kernel
theorem dX11_init_50 : decode cX11_init 50 = .ok (.newarray .byte, 2) := by decide +kernel
theorem dX11_init_52 : decode cX11_init 52 = .ok (.putfield 36, 3) := by decide +kernel
theorem dX11_init_55 : decode cX11_init 55 = .ok (.aload_n 0, 1) := by decide +kernel
theorem dX11_init_56 : decode cX11_init 56 = .ok (.iconst 0, 1) := by decide +kernel
theorem dX11_init_57 : decode cX11_init 57 = .ok (.putfield 40, 3) := by decide +kernel
theorem dX11_init_60 : decode cX11_init 60 = .ok (.aload_n 0, 1) := by decide +kernel
theorem dX11_init_61 : decode cX11_init 61 = .ok (.iconst 0, 1) := by decide +kernel
theorem dX11_init_62 : decode cX11_init 62 = .ok (.putfield 44, 3) := by decide +kernel
theorem dX11_init_65 : decode cX11_init 65 = .ok (.aload_n 0, 1) := by decide +kernel
theorem dX11_init_66 : decode cX11_init 66 = .ok (.iconst 0, 1) := by decide +kernel
theorem dX11_init_67 : decode cX11_init 67 = .ok (.putfield 47, 3) := by decide +kernel
theorem dX11_init_70 : decode cX11_init 70 = .ok (.aload_n 0, 1) := by decide +kernel
theorem dX11_init_71 : decode cX11_init 71 = .ok (.iconst 4, 1) := by decide +kernel
theorem dX11_init_72 : decode cX11_init 72 = .ok (.bipush 60, 2) := by decide +kernel
theorem dX11_init_74 : decode cX11_init 74 = .ok (.multianewarray 50 2, 4) := by decide +kernel
theorem dX11_init_78 : decode cX11_init 78 = .ok (.putfield 52, 3) := by decide +kernel
theorem dX11_init_81 : decode cX11_init 81 = .ok (.aload_n 0, 1) := by decide +kernel
theorem dX11_init_82 : decode cX11_init 82 = .ok (.iconst 4, 1) := by decide +kernel
theorem dX11_init_83 : decode cX11_init 83 = .ok (.newarray .int, 2) := by decide +kernel
theorem dX11_init_85 : decode cX11_init 85 = .ok (.dup, 1) := by decide +kernel
theorem dX11_init_86 : decode cX11_init 86 = .ok (.iconst 0, 1) := by decide +kernel
theorem dX11_init_87 : decode cX11_init 87 = .ok (.iconst (-1), 1) := by decide +kernel
theorem dX11_init_88 : decode cX11_init 88 = .ok (.iastore, 1) := by decide +kernel
theorem dX11_init_89 : decode cX11_init 89 = .ok (.dup, 1) := by decide +kernel
theorem dX11_init_90 : decode cX11_init 90 = .ok (.iconst 1, 1) := by decide +kernel
theorem dX11_init_91 : decode cX11_init 91 = .ok (.iconst (-1), 1) := by decide +kernel
theorem dX11_init_92 : decode cX11_init 92 = .ok (.iastore, 1) := by decide +kernel
theorem dX11_init_93 : decode cX11_init 93 = .ok (.dup, 1) := by decide +kernel
theorem dX11_init_94 : decode cX11_init 94 = .ok (.iconst 2, 1) := by decide +kernel
theorem dX11_init_95 : decode cX11_init 95 = .ok (.iconst (-1), 1) := by decide +kernel
theorem dX11_init_96 : decode cX11_init 96 = .ok (.iastore, 1) := by decide +kernel
theorem dX11_init_97 : decode cX11_init 97 = .ok (.dup, 1) := by decide +kernel
theorem dX11_init_98 : decode cX11_init 98 = .ok (.iconst 3, 1) := by decide +kernel
theorem dX11_init_99 : decode cX11_init 99 = .ok (.iconst (-1), 1) := by decide +kernel
theorem dX11_init_100 : decode cX11_init 100 = .ok (.iastore, 1) := by decide +kernel
theorem dX11_init_101 : decode cX11_init 101 = .ok (.putfield 55, 3) := by decide +kernel
theorem dX11_init_104 : decode cX11_init 104 = .ok (.aload_n 0, 1) := by decide +kernel
theorem dX11_init_105 : decode cX11_init 105 = .ok (.iconst 4, 1) := by decide +kernel
theorem dX11_init_106 : decode cX11_init 106 = .ok (.newarray .int, 2) := by decide +kernel
theorem dX11_init_108 : decode cX11_init 108 = .ok (.putfield 59, 3) := by decide +kernel
theorem dX11_init_111 : decode cX11_init 111 = .ok (.aload_n 0, 1) := by decide +kernel
theorem dX11_init_112 : decode cX11_init 112 = .ok (.bipush 6, 2) := by decide +kernel
theorem dX11_init_114 : decode cX11_init 114 = .ok (.newarray .int, 2) := by decide +kernel
theorem dX11_init_116 : decode cX11_init 116 = .ok (.putfield 62, 3) := by decide +kernel
theorem dX11_init_119 : decode cX11_init 119 = .ok (.aload_n 0, 1) := by decide +kernel
theorem dX11_init_120 : decode cX11_init 120 = .ok (.bipush 48, 2) := by decide +kernel
theorem dX11_init_122 : decode cX11_init 122 = .ok (.newarray .int, 2) := by decide +kernel
theorem dX11_init_124 : decode cX11_init 124 = .ok (.putfield 65, 3) := by decide +kernel
theorem dX11_init_127 : decode cX11_init 127 = .ok (.aload_n 0, 1) := by decide +kernel
theorem dX11_init_128 : decode cX11_init 128 = .ok (.iconst 2, 1) := by decide +kernel
theorem dX11_init_129 : decode cX11_init 129 = .ok (.newarray .long, 2) := by decide +kernel
theorem dX11_init_131 : decode cX11_init 131 = .ok (.putfield 68, 3) := by decide +kernel
theorem dX11_init_134 : decode cX11_init 134 = .ok (.iconst 0, 1) := by decide +kernel
theorem dX11_init_135 : decode cX11_init 135 = .ok (.istore_n 1, 1) := by decide +kernel
theorem dX11_init_136 : decode cX11_init 136 = .ok (.iload_n 1, 1) := by decide +kernel
theorem dX11_init_137 : decode cX11_init 137 = .ok (.ldc 72, 2) := by decide +kernel
theorem dX11_init_139 : decode cX11_init 139 = .ok (.invokevirtual 74, 3) := by decide +kernel
theorem dX11_init_142 : decode cX11_init 142 = .ok (.if_icmp .ge 20, 3) := by decide +kernel
theorem dX11_init_145 : decode cX11_init 145 = .ok (.aload_n 0, 1) := by decide +kernel
theorem dX11_init_146 : decode cX11_init 146 = .ok (.ldc 72, 2) := by decide +kernel
theorem dX11_init_148 : decode cX11_init 148 = .ok (.iload_n 1, 1) := by decide +kernel
theorem dX11_init_149 : decode cX11_init 149 = .ok (.invokevirtual 80, 3) := by decide +kernel
theorem dX11_init_152 : decode cX11_init 152 = .ok (.i2b, 1) := by decide +kernel
theorem dX11_init_153 : decode cX11_init 153 = .ok (.invokevirtual 84, 3) := by decide +kernel
theorem dX11_init_156 : decode cX11_init 156 = .ok (.iinc 1 1, 3) := by decide +kernel
theorem dX11_init_159 : decode cX11_init 159 = .ok (.goto (-23), 3) := by decide +kernel
theorem dX11_init_162 : decode cX11_init 162 = .ok (.aload_n 0, 1) := by decide +kernel
theorem dX11_init_163 : decode cX11_init 163 = .ok (.getfield 10, 3) := by decide +kernel
theorem dX11_init_166 : decode cX11_init 166 = .ok (.aload_n 0, 1) := by decide +kernel
theorem dX11_init_167 : decode cX11_init 167 = .ok (.getfield 32, 3) := by decide +kernel
theorem dX11_init_170 : decode cX11_init 170 = .ok (.aload_n 0, 1) := by decide +kernel
theorem dX11_init_171 : decode cX11_init 171 = .ok (.getfield 36, 3) := by decide +kernel
theorem dX11_init_174 : decode cX11_init 174 = .ok (.aload_n 0, 1) := by decide +kernel
theorem dX11_init_175 : decode cX11_init 175 = .ok (.getfield 47, 3) := by decide +kernel
theorem dX11_init_178 : decode cX11_init 178 = .ok (.invokevirtual 88, 3) := by decide +kernel
theorem dX11_init_181 : decode cX11_init 181 = .ok (.putfield 92, 3) := by decide +kernel
theorem dX11_init_184 : decode cX11_init 184 = .ok (.aload_n 0, 1) := by decide +kernel
theorem dX11_init_185 : decode cX11_init 185 = .ok (.iconst 0, 1) := by decide +kernel
theorem dX11_init_186 : decode cX11_init 186 = .ok (.putfield 47, 3) := by decide +kernel
theorem dX11_init_189 : decode cX11_init 189 = .ok (.aload_n 0, 1) := by decide +kernel
theorem dX11_init_190 : decode cX11_init 190 = .ok (.getfield 25, 3) := by decide +kernel
theorem dX11_init_193 : decode cX11_init 193 = .ok (.iconst 0, 1) := by decide +kernel
theorem dX11_init_194 : decode cX11_init 194 = .ok (.aload_n 0, 1) := by decide +kernel
theorem dX11_init_195 : decode cX11_init 195 = .ok (.getfield 10, 3) := by decide +kernel
theorem dX11_init_198 : decode cX11_init 198 = .ok (.getfield 92, 3) := by decide +kernel
theorem dX11_init_201 : decode cX11_init 201 = .ok (.aastore, 1) := by decide +kernel
theorem dX11_init_202 : decode cX11_init 202 = .ok (.aload_n 0, 1) := by decide +kernel
theorem dX11_init_203 : decode cX11_init 203 = .ok (.iconst 1, 1) := by decide +kernel
theorem dX11_init_204 : decode cX11_init 204 = .ok (.putfield 40, 3) := by decide +kernel
theorem dX11_init_207 : decode cX11_init 207 = .ok (.return_, 1) := by decide +kernel
theorem dX11_sort_0 : decode cX11_sort 0 = .ok (.iload_n 1, 1) := by decide +kernel
theorem dX11_sort_1 : decode cX11_sort 1 = .ok (.invokestatic 96, 3) := by decide +kernel
theorem dX11_sort_4 : decode cX11_sort 4 = .ok (.ifCond .ne 5, 3) := by decide +kernel
theorem dX11_sort_7 : decode cX11_sort 7 = .ok (.iconst (-1), 1) := by decide +kernel
theorem dX11_sort_8 : decode cX11_sort 8 = .ok (.ireturn, 1) := by decide +kernel
theorem dX11_sort_9 : decode cX11_sort 9 = .ok (.iload_n 2, 1) := by decide +kernel
theorem dX11_sort_10 : decode cX11_sort 10 = .ok (.iconst 0, 1) := by decide +kernel
theorem dX11_sort_11 : decode cX11_sort 11 = .ok (.iconst 2, 1) := by decide +kernel
theorem dX11_sort_12 : decode cX11_sort 12 = .ok (.invokestatic 100, 3) := by decide +kernel
theorem dX11_sort_15 : decode cX11_sort 15 = .ok (.ifCond .eq 23, 3) := by decide +kernel
theorem dX11_sort_18 : decode cX11_sort 18 = .ok (.iload_n 3, 1) := by decide +kernel
theorem dX11_sort_19 : decode cX11_sort 19 = .ok (.iconst 0, 1) := by decide +kernel
theorem dX11_sort_20 : decode cX11_sort 20 = .ok (.iload_n 2, 1) := by decide +kernel
theorem dX11_sort_21 : decode cX11_sort 21 = .ok (.iconst 2, 1) := by decide +kernel
theorem dX11_sort_22 : decode cX11_sort 22 = .ok (.if_icmp .ne 8, 3) := by decide +kernel
theorem dX11_sort_25 : decode cX11_sort 25 = .ok (.bipush 9, 2) := by decide +kernel
theorem dX11_sort_27 : decode cX11_sort 27 = .ok (.goto 5, 3) := by decide +kernel
theorem dX11_sort_30 : decode cX11_sort 30 = .ok (.bipush 40, 2) := by decide +kernel
theorem dX11_sort_32 : decode cX11_sort 32 = .ok (.invokestatic 100, 3) := by decide +kernel
theorem dX11_sort_35 : decode cX11_sort 35 = .ok (.ifCond .ne 6, 3) := by decide +kernel
theorem dX11_sort_38 : decode cX11_sort 38 = .ok (.bipush (-2), 2) := by decide +kernel
theorem dX11_sort_40 : decode cX11_sort 40 = .ok (.ireturn, 1) := by decide +kernel
theorem dX11_sort_41 : decode cX11_sort 41 = .ok (.iload_n 2, 1) := by decide +kernel
theorem dX11_sort_42 : decode cX11_sort 42 = .ok (.ifCond .ne 13, 3) := by decide +kernel
theorem dX11_sort_45 : decode cX11_sort 45 = .ok (.aload_n 0, 1) := by decide +kernel
theorem dX11_sort_46 : decode cX11_sort 46 = .ok (.getfield 10, 3) := by decide +kernel
theorem dX11_sort_49 : decode cX11_sort 49 = .ok (.getfield 104, 3) := by decide +kernel
theorem dX11_sort_52 : decode cX11_sort 52 = .ok (.goto 25, 3) := by decide +kernel
theorem dX11_sort_55 : decode cX11_sort 55 = .ok (.iload_n 2, 1) := by decide +kernel
theorem dX11_sort_56 : decode cX11_sort 56 = .ok (.iconst 1, 1) := by decide +kernel
theorem dX11_sort_57 : decode cX11_sort 57 = .ok (.if_icmp .ne 13, 3) := by decide +kernel
theorem dX11_sort_60 : decode cX11_sort 60 = .ok (.aload_n 0, 1) := by decide +kernel
theorem dX11_sort_61 : decode cX11_sort 61 = .ok (.getfield 10, 3) := by decide +kernel
theorem dX11_sort_64 : decode cX11_sort 64 = .ok (.getfield 107, 3) := by decide +kernel
theorem dX11_sort_67 : decode cX11_sort 67 = .ok (.goto 10, 3) := by decide +kernel
theorem dX11_sort_70 : decode cX11_sort 70 = .ok (.aload_n 0, 1) := by decide +kernel
theorem dX11_sort_71 : decode cX11_sort 71 = .ok (.getfield 10, 3) := by decide +kernel
theorem dX11_sort_74 : decode cX11_sort 74 = .ok (.getfield 110, 3) := by decide +kernel
theorem dX11_sort_77 : decode cX11_sort 77 = .ok (.astore 4, 2) := by decide +kernel
theorem dX11_sort_79 : decode cX11_sort 79 = .ok (.aload 4, 2) := by decide +kernel
theorem dX11_sort_81 : decode cX11_sort 81 = .ok (.iload_n 1, 1) := by decide +kernel
theorem dX11_sort_82 : decode cX11_sort 82 = .ok (.iaload, 1) := by decide +kernel
theorem dX11_sort_83 : decode cX11_sort 83 = .ok (.istore 5, 2) := by decide +kernel
theorem dX11_sort_85 : decode cX11_sort 85 = .ok (.aload 4, 2) := by decide +kernel
theorem dX11_sort_87 : decode cX11_sort 87 = .ok (.iload_n 1, 1) := by decide +kernel
theorem dX11_sort_88 : decode cX11_sort 88 = .ok (.iload_n 3, 1) := by decide +kernel
theorem dX11_sort_89 : decode cX11_sort 89 = .ok (.iastore, 1) := by decide +kernel
theorem dX11_sort_90 : decode cX11_sort 90 = .ok (.iload 5, 2) := by decide +kernel
theorem dX11_sort_92 : decode cX11_sort 92 = .ok (.ireturn, 1) := by decide +kernel
theorem dX11_row_0 : decode cX11_row 0 = .ok (.iload_n 1, 1) := by decide +kernel
theorem dX11_row_1 : decode cX11_row 1 = .ok (.iconst 0, 1) := by decide +kernel
theorem dX11_row_2 : decode cX11_row 2 = .ok (.iconst 5, 1) := by decide +kernel
theorem dX11_row_3 : decode cX11_row 3 = .ok (.invokestatic 100, 3) := by decide +kernel
theorem dX11_row_6 : decode cX11_row 6 = .ok (.ifCond .eq 23, 3) := by decide +kernel
theorem dX11_row_9 : decode cX11_row 9 = .ok (.iload_n 2, 1) := by decide +kernel
theorem dX11_row_10 : decode cX11_row 10 = .ok (.iconst 1, 1) := by decide +kernel
theorem dX11_row_11 : decode cX11_row 11 = .ok (.bipush 8, 2) := by decide +kernel
theorem dX11_row_13 : decode cX11_row 13 = .ok (.invokestatic 100, 3) := by decide +kernel
theorem dX11_row_16 : decode cX11_row 16 = .ok (.ifCond .eq 13, 3) := by decide +kernel
theorem dX11_row_19 : decode cX11_row 19 = .ok (.iload_n 3, 1) := by decide +kernel
theorem dX11_row_20 : decode cX11_row 20 = .ok (.iconst 0, 1) := by decide +kernel
theorem dX11_row_21 : decode cX11_row 21 = .ok (.bipush 20, 2) := by decide +kernel
theorem dX11_row_23 : decode cX11_row 23 = .ok (.invokestatic 100, 3) := by decide +kernel
theorem dX11_row_26 : decode cX11_row 26 = .ok (.ifCond .ne 6, 3) := by decide +kernel
theorem dX11_row_29 : decode cX11_row 29 = .ok (.bipush (-2), 2) := by decide +kernel
theorem dX11_row_31 : decode cX11_row 31 = .ok (.ireturn, 1) := by decide +kernel
theorem dX11_row_32 : decode cX11_row 32 = .ok (.aload_n 0, 1) := by decide +kernel
theorem dX11_row_33 : decode cX11_row 33 = .ok (.getfield 10, 3) := by decide +kernel
theorem dX11_row_36 : decode cX11_row 36 = .ok (.getfield 113, 3) := by decide +kernel
theorem dX11_row_39 : decode cX11_row 39 = .ok (.bipush 6, 2) := by decide +kernel
theorem dX11_row_41 : decode cX11_row 41 = .ok (.if_icmp .lt 6, 3) := by decide +kernel
theorem dX11_row_44 : decode cX11_row 44 = .ok (.bipush (-4), 2) := by decide +kernel
theorem dX11_row_46 : decode cX11_row 46 = .ok (.ireturn, 1) := by decide +kernel
theorem dX11_row_47 : decode cX11_row 47 = .ok (.aload_n 0, 1) := by decide +kernel
theorem dX11_row_48 : decode cX11_row 48 = .ok (.getfield 10, 3) := by decide +kernel
theorem dX11_row_51 : decode cX11_row 51 = .ok (.getfield 116, 3) := by decide +kernel
theorem dX11_row_54 : decode cX11_row 54 = .ok (.aload_n 0, 1) := by decide +kernel
theorem dX11_row_55 : decode cX11_row 55 = .ok (.getfield 10, 3) := by decide +kernel
theorem dX11_row_58 : decode cX11_row 58 = .ok (.getfield 113, 3) := by decide +kernel
theorem dX11_row_61 : decode cX11_row 61 = .ok (.iload_n 1, 1) := by decide +kernel
theorem dX11_row_62 : decode cX11_row 62 = .ok (.aload_n 0, 1) := by decide +kernel
theorem dX11_row_63 : decode cX11_row 63 = .ok (.getfield 10, 3) := by decide +kernel
theorem dX11_row_66 : decode cX11_row 66 = .ok (.getfield 113, 3) := by decide +kernel
theorem dX11_row_69 : decode cX11_row 69 = .ok (.iload_n 2, 1) := by decide +kernel
theorem dX11_row_70 : decode cX11_row 70 = .ok (.iload_n 3, 1) := by decide +kernel
theorem dX11_row_71 : decode cX11_row 71 = .ok (.invokestatic 120, 3) := by decide +kernel
theorem dX11_row_74 : decode cX11_row 74 = .ok (.aastore, 1) := by decide +kernel
theorem dX11_row_75 : decode cX11_row 75 = .ok (.aload_n 0, 1) := by decide +kernel
theorem dX11_row_76 : decode cX11_row 76 = .ok (.getfield 10, 3) := by decide +kernel
theorem dX11_row_79 : decode cX11_row 79 = .ok (.dup, 1) := by decide +kernel
theorem dX11_row_80 : decode cX11_row 80 = .ok (.getfield 113, 3) := by decide +kernel
theorem dX11_row_83 : decode cX11_row 83 = .ok (.dup_x1, 1) := by decide +kernel
theorem dX11_row_84 : decode cX11_row 84 = .ok (.iconst 1, 1) := by decide +kernel
theorem dX11_row_85 : decode cX11_row 85 = .ok (.iadd, 1) := by decide +kernel
theorem dX11_row_86 : decode cX11_row 86 = .ok (.putfield 113, 3) := by decide +kernel
theorem dX11_row_89 : decode cX11_row 89 = .ok (.ireturn, 1) := by decide +kernel
theorem dX11_newRow_0 : decode cX11_newRow 0 = .ok (.iload_n 0, 1) := by decide +kernel
theorem dX11_newRow_1 : decode cX11_newRow 1 = .ok (.tableswitch 94 1 5 #[35, 46, 58, 70, 82], 35) := by decide +kernel
theorem dX11_newRow_36 : decode cX11_newRow 36 = .ok (.new 124, 3) := by decide +kernel
theorem dX11_newRow_39 : decode cX11_newRow 39 = .ok (.dup, 1) := by decide +kernel
theorem dX11_newRow_40 : decode cX11_newRow 40 = .ok (.iload_n 0, 1) := by decide +kernel
theorem dX11_newRow_41 : decode cX11_newRow 41 = .ok (.iload_n 1, 1) := by decide +kernel
theorem dX11_newRow_42 : decode cX11_newRow 42 = .ok (.iload_n 2, 1) := by decide +kernel
theorem dX11_newRow_43 : decode cX11_newRow 43 = .ok (.invokespecial 126, 3) := by decide +kernel
theorem dX11_newRow_46 : decode cX11_newRow 46 = .ok (.areturn, 1) := by decide +kernel
theorem dX11_newRow_47 : decode cX11_newRow 47 = .ok (.new 129, 3) := by decide +kernel
theorem dX11_newRow_50 : decode cX11_newRow 50 = .ok (.dup, 1) := by decide +kernel
theorem dX11_newRow_51 : decode cX11_newRow 51 = .ok (.iload_n 0, 1) := by decide +kernel
theorem dX11_newRow_52 : decode cX11_newRow 52 = .ok (.iload_n 1, 1) := by decide +kernel
theorem dX11_newRow_53 : decode cX11_newRow 53 = .ok (.iload_n 2, 1) := by decide +kernel
theorem dX11_newRow_54 : decode cX11_newRow 54 = .ok (.iload_n 3, 1) := by decide +kernel
theorem dX11_newRow_55 : decode cX11_newRow 55 = .ok (.invokespecial 131, 3) := by decide +kernel
theorem dX11_newRow_58 : decode cX11_newRow 58 = .ok (.areturn, 1) := by decide +kernel
theorem dX11_newRow_59 : decode cX11_newRow 59 = .ok (.new 134, 3) := by decide +kernel
theorem dX11_newRow_62 : decode cX11_newRow 62 = .ok (.dup, 1) := by decide +kernel
theorem dX11_newRow_63 : decode cX11_newRow 63 = .ok (.iload_n 0, 1) := by decide +kernel
theorem dX11_newRow_64 : decode cX11_newRow 64 = .ok (.iload_n 1, 1) := by decide +kernel
theorem dX11_newRow_65 : decode cX11_newRow 65 = .ok (.iload_n 2, 1) := by decide +kernel
theorem dX11_newRow_66 : decode cX11_newRow 66 = .ok (.iload_n 3, 1) := by decide +kernel
theorem dX11_newRow_67 : decode cX11_newRow 67 = .ok (.invokespecial 136, 3) := by decide +kernel
theorem dX11_newRow_70 : decode cX11_newRow 70 = .ok (.areturn, 1) := by decide +kernel
theorem dX11_newRow_71 : decode cX11_newRow 71 = .ok (.new 137, 3) := by decide +kernel
theorem dX11_newRow_74 : decode cX11_newRow 74 = .ok (.dup, 1) := by decide +kernel
theorem dX11_newRow_75 : decode cX11_newRow 75 = .ok (.iload_n 0, 1) := by decide +kernel
theorem dX11_newRow_76 : decode cX11_newRow 76 = .ok (.iload_n 1, 1) := by decide +kernel
theorem dX11_newRow_77 : decode cX11_newRow 77 = .ok (.iload_n 2, 1) := by decide +kernel
theorem dX11_newRow_78 : decode cX11_newRow 78 = .ok (.iload_n 3, 1) := by decide +kernel
theorem dX11_newRow_79 : decode cX11_newRow 79 = .ok (.invokespecial 139, 3) := by decide +kernel
theorem dX11_newRow_82 : decode cX11_newRow 82 = .ok (.areturn, 1) := by decide +kernel
theorem dX11_newRow_83 : decode cX11_newRow 83 = .ok (.new 140, 3) := by decide +kernel
theorem dX11_newRow_86 : decode cX11_newRow 86 = .ok (.dup, 1) := by decide +kernel
theorem dX11_newRow_87 : decode cX11_newRow 87 = .ok (.iload_n 0, 1) := by decide +kernel
theorem dX11_newRow_88 : decode cX11_newRow 88 = .ok (.iload_n 1, 1) := by decide +kernel
theorem dX11_newRow_89 : decode cX11_newRow 89 = .ok (.iload_n 2, 1) := by decide +kernel
theorem dX11_newRow_90 : decode cX11_newRow 90 = .ok (.iload_n 3, 1) := by decide +kernel
theorem dX11_newRow_91 : decode cX11_newRow 91 = .ok (.invokespecial 142, 3) := by decide +kernel
theorem dX11_newRow_94 : decode cX11_newRow 94 = .ok (.areturn, 1) := by decide +kernel
theorem dX11_newRow_95 : decode cX11_newRow 95 = .ok (.new 143, 3) := by decide +kernel
theorem dX11_newRow_98 : decode cX11_newRow 98 = .ok (.dup, 1) := by decide +kernel
theorem dX11_newRow_99 : decode cX11_newRow 99 = .ok (.iload_n 0, 1) := by decide +kernel
theorem dX11_newRow_100 : decode cX11_newRow 100 = .ok (.iload_n 1, 1) := by decide +kernel
theorem dX11_newRow_101 : decode cX11_newRow 101 = .ok (.iload_n 2, 1) := by decide +kernel
theorem dX11_newRow_102 : decode cX11_newRow 102 = .ok (.invokespecial 145, 3) := by decide +kernel
theorem dX11_newRow_105 : decode cX11_newRow 105 = .ok (.areturn, 1) := by decide +kernel
theorem dX11_set_0 : decode cX11_set 0 = .ok (.aload_n 0, 1) := by decide +kernel
theorem dX11_set_1 : decode cX11_set 1 = .ok (.getfield 10, 3) := by decide +kernel
theorem dX11_set_4 : decode cX11_set 4 = .ok (.iload_n 1, 1) := by decide +kernel
theorem dX11_set_5 : decode cX11_set 5 = .ok (.invokevirtual 146, 3) := by decide +kernel
theorem dX11_set_8 : decode cX11_set 8 = .ok (.astore 4, 2) := by decide +kernel
theorem dX11_set_10 : decode cX11_set 10 = .ok (.aload 4, 2) := by decide +kernel
theorem dX11_set_12 : decode cX11_set 12 = .ok (.ifnonnull 6, 3) := by decide +kernel
theorem dX11_set_15 : decode cX11_set 15 = .ok (.bipush (-5), 2) := by decide +kernel
theorem dX11_set_17 : decode cX11_set 17 = .ok (.ireturn, 1) := by decide +kernel
theorem dX11_set_18 : decode cX11_set 18 = .ok (.iload_n 2, 1) := by decide +kernel
theorem dX11_set_19 : decode cX11_set 19 = .ok (.iconst 0, 1) := by decide +kernel
theorem dX11_set_20 : decode cX11_set 20 = .ok (.iconst 1, 1) := by decide +kernel
theorem dX11_set_21 : decode cX11_set 21 = .ok (.invokestatic 100, 3) := by decide +kernel
theorem dX11_set_24 : decode cX11_set 24 = .ok (.ifCond .eq 21, 3) := by decide +kernel
theorem dX11_set_27 : decode cX11_set 27 = .ok (.iload_n 3, 1) := by decide +kernel
theorem dX11_set_28 : decode cX11_set 28 = .ok (.iconst 0, 1) := by decide +kernel
theorem dX11_set_29 : decode cX11_set 29 = .ok (.iload_n 2, 1) := by decide +kernel
theorem dX11_set_30 : decode cX11_set 30 = .ok (.ifCond .ne 8, 3) := by decide +kernel
theorem dX11_set_33 : decode cX11_set 33 = .ok (.bipush 99, 2) := by decide +kernel
theorem dX11_set_35 : decode cX11_set 35 = .ok (.goto 4, 3) := by decide +kernel
theorem dX11_set_38 : decode cX11_set 38 = .ok (.iconst 1, 1) := by decide +kernel
theorem dX11_set_39 : decode cX11_set 39 = .ok (.invokestatic 100, 3) := by decide +kernel
theorem dX11_set_42 : decode cX11_set 42 = .ok (.ifCond .ne 6, 3) := by decide +kernel
theorem dX11_set_45 : decode cX11_set 45 = .ok (.bipush (-7), 2) := by decide +kernel
theorem dX11_set_47 : decode cX11_set 47 = .ok (.ireturn, 1) := by decide +kernel
theorem dX11_set_48 : decode cX11_set 48 = .ok (.iload_n 2, 1) := by decide +kernel
theorem dX11_set_49 : decode cX11_set 49 = .ok (.ifCond .ne 11, 3) := by decide +kernel
theorem dX11_set_52 : decode cX11_set 52 = .ok (.aload 4, 2) := by decide +kernel
theorem dX11_set_54 : decode cX11_set 54 = .ok (.getfield 150, 3) := by decide +kernel
theorem dX11_set_57 : decode cX11_set 57 = .ok (.goto 8, 3) := by decide +kernel
theorem dX11_set_60 : decode cX11_set 60 = .ok (.aload 4, 2) := by decide +kernel
theorem dX11_set_62 : decode cX11_set 62 = .ok (.getfield 153, 3) := by decide +kernel
theorem dX11_set_65 : decode cX11_set 65 = .ok (.istore 5, 2) := by decide +kernel
theorem dX11_set_67 : decode cX11_set 67 = .ok (.iload_n 2, 1) := by decide +kernel
theorem dX11_set_68 : decode cX11_set 68 = .ok (.ifCond .ne 12, 3) := by decide +kernel
theorem dX11_set_71 : decode cX11_set 71 = .ok (.aload 4, 2) := by decide +kernel
theorem dX11_set_73 : decode cX11_set 73 = .ok (.iload_n 3, 1) := by decide +kernel
theorem dX11_set_74 : decode cX11_set 74 = .ok (.putfield 150, 3) := by decide +kernel
theorem dX11_set_77 : decode cX11_set 77 = .ok (.goto 9, 3) := by decide +kernel
theorem dX11_set_80 : decode cX11_set 80 = .ok (.aload 4, 2) := by decide +kernel
theorem dX11_set_82 : decode cX11_set 82 = .ok (.iload_n 3, 1) := by decide +kernel
theorem dX11_set_83 : decode cX11_set 83 = .ok (.putfield 153, 3) := by decide +kernel
theorem dX11_set_86 : decode cX11_set 86 = .ok (.iload 5, 2) := by decide +kernel
theorem dX11_set_88 : decode cX11_set 88 = .ok (.ireturn, 1) := by decide +kernel
theorem dX11_sit_0 : decode cX11_sit 0 = .ok (.aload_n 0, 1) := by decide +kernel
theorem dX11_sit_1 : decode cX11_sit 1 = .ok (.getfield 10, 3) := by decide +kernel
theorem dX11_sit_4 : decode cX11_sit 4 = .ok (.iload_n 1, 1) := by decide +kernel
theorem dX11_sit_5 : decode cX11_sit 5 = .ok (.iload_n 2, 1) := by decide +kernel
theorem dX11_sit_6 : decode cX11_sit 6 = .ok (.invokevirtual 156, 3) := by decide +kernel
theorem dX11_sit_9 : decode cX11_sit 9 = .ok (.astore 4, 2) := by decide +kernel
theorem dX11_sit_11 : decode cX11_sit 11 = .ok (.aload 4, 2) := by decide +kernel
theorem dX11_sit_13 : decode cX11_sit 13 = .ok (.ifnonnull 5, 3) := by decide +kernel
theorem dX11_sit_16 : decode cX11_sit 16 = .ok (.iconst (-1), 1) := by decide +kernel
theorem dX11_sit_17 : decode cX11_sit 17 = .ok (.ireturn, 1) := by decide +kernel
theorem dX11_sit_18 : decode cX11_sit 18 = .ok (.iload_n 3, 1) := by decide +kernel
theorem dX11_sit_19 : decode cX11_sit 19 = .ok (.invokestatic 96, 3) := by decide +kernel
theorem dX11_sit_22 : decode cX11_sit 22 = .ok (.ifCond .ne 6, 3) := by decide +kernel
theorem dX11_sit_25 : decode cX11_sit 25 = .ok (.bipush (-2), 2) := by decide +kernel
theorem dX11_sit_27 : decode cX11_sit 27 = .ok (.ireturn, 1) := by decide +kernel
theorem dX11_sit_28 : decode cX11_sit 28 = .ok (.aload 4, 2) := by decide +kernel
theorem dX11_sit_30 : decode cX11_sit 30 = .ok (.getfield 160, 3) := by decide +kernel
theorem dX11_sit_33 : decode cX11_sit 33 = .ok (.iload_n 2, 1) := by decide +kernel
theorem dX11_sit_34 : decode cX11_sit 34 = .ok (.iaload, 1) := by decide +kernel
theorem dX11_sit_35 : decode cX11_sit 35 = .ok (.istore 5, 2) := by decide +kernel
theorem dX11_sit_37 : decode cX11_sit 37 = .ok (.aload 4, 2) := by decide +kernel
theorem dX11_sit_39 : decode cX11_sit 39 = .ok (.getfield 160, 3) := by decide +kernel
theorem dX11_sit_42 : decode cX11_sit 42 = .ok (.iload_n 2, 1) := by decide +kernel
theorem dX11_sit_43 : decode cX11_sit 43 = .ok (.iload_n 3, 1) := by decide +kernel
theorem dX11_sit_44 : decode cX11_sit 44 = .ok (.iastore, 1) := by decide +kernel
theorem dX11_sit_45 : decode cX11_sit 45 = .ok (.iload 5, 2) := by decide +kernel
theorem dX11_sit_47 : decode cX11_sit 47 = .ok (.ireturn, 1) := by decide +kernel
theorem dX11_told_0 : decode cX11_told 0 = .ok (.aload_n 0, 1) := by decide +kernel
theorem dX11_told_1 : decode cX11_told 1 = .ok (.getfield 10, 3) := by decide +kernel
theorem dX11_told_4 : decode cX11_told 4 = .ok (.iload_n 1, 1) := by decide +kernel
theorem dX11_told_5 : decode cX11_told 5 = .ok (.iload_n 2, 1) := by decide +kernel
theorem dX11_told_6 : decode cX11_told 6 = .ok (.invokevirtual 156, 3) := by decide +kernel
theorem dX11_told_9 : decode cX11_told 9 = .ok (.astore 4, 2) := by decide +kernel
theorem dX11_told_11 : decode cX11_told 11 = .ok (.aload 4, 2) := by decide +kernel
theorem dX11_told_13 : decode cX11_told 13 = .ok (.ifnonnull 6, 3) := by decide +kernel
theorem dX11_told_16 : decode cX11_told 16 = .ok (.bipush (-5), 2) := by decide +kernel
theorem dX11_told_18 : decode cX11_told 18 = .ok (.ireturn, 1) := by decide +kernel
theorem dX11_told_19 : decode cX11_told 19 = .ok (.iload_n 3, 1) := by decide +kernel
theorem dX11_told_20 : decode cX11_told 20 = .ok (.tableswitch 117 0 7 #[48, 54, 61, 67, 73, 81, 92, 103], 48) := by decide +kernel
theorem dX11_told_68 : decode cX11_told 68 = .ok (.aload 4, 2) := by decide +kernel
theorem dX11_told_70 : decode cX11_told 70 = .ok (.getfield 163, 3) := by decide +kernel
theorem dX11_told_73 : decode cX11_told 73 = .ok (.ireturn, 1) := by decide +kernel
theorem dX11_told_74 : decode cX11_told 74 = .ok (.aload 4, 2) := by decide +kernel
theorem dX11_told_76 : decode cX11_told 76 = .ok (.iload_n 2, 1) := by decide +kernel
theorem dX11_told_77 : decode cX11_told 77 = .ok (.invokevirtual 166, 3) := by decide +kernel
theorem dX11_told_80 : decode cX11_told 80 = .ok (.ireturn, 1) := by decide +kernel
theorem dX11_told_81 : decode cX11_told 81 = .ok (.aload 4, 2) := by decide +kernel
theorem dX11_told_83 : decode cX11_told 83 = .ok (.invokevirtual 170, 3) := by decide +kernel
theorem dX11_told_86 : decode cX11_told 86 = .ok (.ireturn, 1) := by decide +kernel
theorem dX11_told_87 : decode cX11_told 87 = .ok (.aload 4, 2) := by decide +kernel
theorem dX11_told_89 : decode cX11_told 89 = .ok (.getfield 173, 3) := by decide +kernel
theorem dX11_told_92 : decode cX11_told 92 = .ok (.ireturn, 1) := by decide +kernel
theorem dX11_told_93 : decode cX11_told 93 = .ok (.aload 4, 2) := by decide +kernel
theorem dX11_told_95 : decode cX11_told 95 = .ok (.getfield 160, 3) := by decide +kernel
theorem dX11_told_98 : decode cX11_told 98 = .ok (.iload_n 2, 1) := by decide +kernel
theorem dX11_told_99 : decode cX11_told 99 = .ok (.iaload, 1) := by decide +kernel
theorem dX11_told_100 : decode cX11_told 100 = .ok (.ireturn, 1) := by decide +kernel
theorem dX11_told_101 : decode cX11_told 101 = .ok (.aload_n 0, 1) := by decide +kernel
theorem dX11_told_102 : decode cX11_told 102 = .ok (.getfield 10, 3) := by decide +kernel
theorem dX11_told_105 : decode cX11_told 105 = .ok (.aload 4, 2) := by decide +kernel
theorem dX11_told_107 : decode cX11_told 107 = .ok (.iload_n 2, 1) := by decide +kernel
theorem dX11_told_108 : decode cX11_told 108 = .ok (.invokevirtual 176, 3) := by decide +kernel
theorem dX11_told_111 : decode cX11_told 111 = .ok (.ireturn, 1) := by decide +kernel
theorem dX11_told_112 : decode cX11_told 112 = .ok (.aload_n 0, 1) := by decide +kernel
theorem dX11_told_113 : decode cX11_told 113 = .ok (.getfield 10, 3) := by decide +kernel
theorem dX11_told_116 : decode cX11_told 116 = .ok (.aload 4, 2) := by decide +kernel
theorem dX11_told_118 : decode cX11_told 118 = .ok (.iload_n 2, 1) := by decide +kernel
theorem dX11_told_119 : decode cX11_told 119 = .ok (.invokevirtual 180, 3) := by decide +kernel
theorem dX11_told_122 : decode cX11_told 122 = .ok (.ireturn, 1) := by decide +kernel
theorem dX11_told_123 : decode cX11_told 123 = .ok (.aload 4, 2) := by decide +kernel
theorem dX11_told_125 : decode cX11_told 125 = .ok (.getfield 183, 3) := by decide +kernel
theorem dX11_told_128 : decode cX11_told 128 = .ok (.ifCond .eq 7, 3) := by decide +kernel
theorem dX11_told_131 : decode cX11_told 131 = .ok (.iconst 1, 1) := by decide +kernel
theorem dX11_told_132 : decode cX11_told 132 = .ok (.goto 4, 3) := by decide +kernel
theorem dX11_told_135 : decode cX11_told 135 = .ok (.iconst 0, 1) := by decide +kernel
theorem dX11_told_136 : decode cX11_told 136 = .ok (.ireturn, 1) := by decide +kernel
theorem dX11_told_137 : decode cX11_told 137 = .ok (.bipush (-7), 2) := by decide +kernel
theorem dX11_told_139 : decode cX11_told 139 = .ok (.ireturn, 1) := by decide +kernel
theorem dX11_point_0 : decode cX11_point 0 = .ok (.iload_n 1, 1) := by decide +kernel
theorem dX11_point_1 : decode cX11_point 1 = .ok (.iconst 0, 1) := by decide +kernel
theorem dX11_point_2 : decode cX11_point 2 = .ok (.bipush 20, 2) := by decide +kernel
theorem dX11_point_4 : decode cX11_point 4 = .ok (.invokestatic 100, 3) := by decide +kernel
theorem dX11_point_7 : decode cX11_point 7 = .ok (.ifCond .eq 23, 3) := by decide +kernel
theorem dX11_point_10 : decode cX11_point 10 = .ok (.iload_n 2, 1) := by decide +kernel
theorem dX11_point_11 : decode cX11_point 11 = .ok (.iconst 0, 1) := by decide +kernel
theorem dX11_point_12 : decode cX11_point 12 = .ok (.bipush 60, 2) := by decide +kernel
theorem dX11_point_14 : decode cX11_point 14 = .ok (.invokestatic 100, 3) := by decide +kernel
theorem dX11_point_17 : decode cX11_point 17 = .ok (.ifCond .eq 13, 3) := by decide +kernel
theorem dX11_point_20 : decode cX11_point 20 = .ok (.iload_n 3, 1) := by decide +kernel
theorem dX11_point_21 : decode cX11_point 21 = .ok (.iconst 0, 1) := by decide +kernel
theorem dX11_point_22 : decode cX11_point 22 = .ok (.bipush 99, 2) := by decide +kernel
theorem dX11_point_24 : decode cX11_point 24 = .ok (.invokestatic 100, 3) := by decide +kernel
theorem dX11_point_27 : decode cX11_point 27 = .ok (.ifCond .ne 6, 3) := by decide +kernel
theorem dX11_point_30 : decode cX11_point 30 = .ok (.bipush (-2), 2) := by decide +kernel
theorem dX11_point_32 : decode cX11_point 32 = .ok (.ireturn, 1) := by decide +kernel
theorem dX11_point_33 : decode cX11_point 33 = .ok (.aload_n 0, 1) := by decide +kernel
theorem dX11_point_34 : decode cX11_point 34 = .ok (.getfield 10, 3) := by decide +kernel
theorem dX11_point_37 : decode cX11_point 37 = .ok (.getfield 187, 3) := by decide +kernel
theorem dX11_point_40 : decode cX11_point 40 = .ok (.istore 4, 2) := by decide +kernel
theorem dX11_point_42 : decode cX11_point 42 = .ok (.iload 4, 2) := by decide +kernel
theorem dX11_point_44 : decode cX11_point 44 = .ok (.bipush 6, 2) := by decide +kernel
theorem dX11_point_46 : decode cX11_point 46 = .ok (.if_icmp .lt 6, 3) := by decide +kernel
theorem dX11_point_49 : decode cX11_point 49 = .ok (.bipush (-4), 2) := by decide +kernel
theorem dX11_point_51 : decode cX11_point 51 = .ok (.ireturn, 1) := by decide +kernel
theorem dX11_point_52 : decode cX11_point 52 = .ok (.aload_n 0, 1) := by decide +kernel
theorem dX11_point_53 : decode cX11_point 53 = .ok (.getfield 10, 3) := by decide +kernel
theorem dX11_point_56 : decode cX11_point 56 = .ok (.getfield 190, 3) := by decide +kernel
theorem dX11_point_59 : decode cX11_point 59 = .ok (.iload 4, 2) := by decide +kernel
theorem dX11_point_61 : decode cX11_point 61 = .ok (.iload_n 1, 1) := by decide +kernel
theorem dX11_point_62 : decode cX11_point 62 = .ok (.iastore, 1) := by decide +kernel
theorem dX11_point_63 : decode cX11_point 63 = .ok (.aload_n 0, 1) := by decide +kernel
theorem dX11_point_64 : decode cX11_point 64 = .ok (.getfield 10, 3) := by decide +kernel
theorem dX11_point_67 : decode cX11_point 67 = .ok (.getfield 193, 3) := by decide +kernel
theorem dX11_point_70 : decode cX11_point 70 = .ok (.iload 4, 2) := by decide +kernel
theorem dX11_point_72 : decode cX11_point 72 = .ok (.iload_n 2, 1) := by decide +kernel
theorem dX11_point_73 : decode cX11_point 73 = .ok (.iastore, 1) := by decide +kernel
theorem dX11_point_74 : decode cX11_point 74 = .ok (.aload_n 0, 1) := by decide +kernel
theorem dX11_point_75 : decode cX11_point 75 = .ok (.getfield 10, 3) := by decide +kernel
theorem dX11_point_78 : decode cX11_point 78 = .ok (.getfield 196, 3) := by decide +kernel
theorem dX11_point_81 : decode cX11_point 81 = .ok (.iload 4, 2) := by decide +kernel
theorem dX11_point_83 : decode cX11_point 83 = .ok (.iload_n 3, 1) := by decide +kernel
theorem dX11_point_84 : decode cX11_point 84 = .ok (.iastore, 1) := by decide +kernel
theorem dX11_point_85 : decode cX11_point 85 = .ok (.aload_n 0, 1) := by decide +kernel
theorem dX11_point_86 : decode cX11_point 86 = .ok (.getfield 10, 3) := by decide +kernel
theorem dX11_point_89 : decode cX11_point 89 = .ok (.dup, 1) := by decide +kernel
theorem dX11_point_90 : decode cX11_point 90 = .ok (.getfield 187, 3) := by decide +kernel
theorem dX11_point_93 : decode cX11_point 93 = .ok (.iconst 1, 1) := by decide +kernel
theorem dX11_point_94 : decode cX11_point 94 = .ok (.iadd, 1) := by decide +kernel
theorem dX11_point_95 : decode cX11_point 95 = .ok (.putfield 187, 3) := by decide +kernel
theorem dX11_point_98 : decode cX11_point 98 = .ok (.iload 4, 2) := by decide +kernel
theorem dX11_point_100 : decode cX11_point 100 = .ok (.ireturn, 1) := by decide +kernel
theorem dX11_post_0 : decode cX11_post 0 = .ok (.iload_n 1, 1) := by decide +kernel
theorem dX11_post_1 : decode cX11_post 1 = .ok (.iload_n 2, 1) := by decide +kernel
theorem dX11_post_2 : decode cX11_post 2 = .ok (.invokestatic 199, 3) := by decide +kernel
theorem dX11_post_5 : decode cX11_post 5 = .ok (.ifCond .ne 6, 3) := by decide +kernel
theorem dX11_post_8 : decode cX11_post 8 = .ok (.bipush (-2), 2) := by decide +kernel
theorem dX11_post_10 : decode cX11_post 10 = .ok (.ireturn, 1) := by decide +kernel
theorem dX11_post_11 : decode cX11_post 11 = .ok (.aload_n 0, 1) := by decide +kernel
theorem dX11_post_12 : decode cX11_post 12 = .ok (.getfield 10, 3) := by decide +kernel
theorem dX11_post_15 : decode cX11_post 15 = .ok (.getfield 203, 3) := by decide +kernel
theorem dX11_post_18 : decode cX11_post 18 = .ok (.istore_n 3, 1) := by decide +kernel
theorem dX11_post_19 : decode cX11_post 19 = .ok (.iload_n 3, 1) := by decide +kernel
theorem dX11_post_20 : decode cX11_post 20 = .ok (.iconst 4, 1) := by decide +kernel
theorem dX11_post_21 : decode cX11_post 21 = .ok (.if_icmp .lt 6, 3) := by decide +kernel
theorem dX11_post_24 : decode cX11_post 24 = .ok (.bipush (-4), 2) := by decide +kernel
theorem dX11_post_26 : decode cX11_post 26 = .ok (.ireturn, 1) := by decide +kernel
theorem dX11_post_27 : decode cX11_post 27 = .ok (.aload_n 0, 1) := by decide +kernel
theorem dX11_post_28 : decode cX11_post 28 = .ok (.getfield 10, 3) := by decide +kernel
theorem dX11_post_31 : decode cX11_post 31 = .ok (.getfield 206, 3) := by decide +kernel
theorem dX11_post_34 : decode cX11_post 34 = .ok (.iload_n 3, 1) := by decide +kernel
theorem dX11_post_35 : decode cX11_post 35 = .ok (.iload_n 1, 1) := by decide +kernel
theorem dX11_post_36 : decode cX11_post 36 = .ok (.iastore, 1) := by decide +kernel
theorem dX11_post_37 : decode cX11_post 37 = .ok (.aload_n 0, 1) := by decide +kernel
theorem dX11_post_38 : decode cX11_post 38 = .ok (.getfield 10, 3) := by decide +kernel
theorem dX11_post_41 : decode cX11_post 41 = .ok (.getfield 209, 3) := by decide +kernel
theorem dX11_post_44 : decode cX11_post 44 = .ok (.iload_n 3, 1) := by decide +kernel
theorem dX11_post_45 : decode cX11_post 45 = .ok (.iload_n 2, 1) := by decide +kernel
theorem dX11_post_46 : decode cX11_post 46 = .ok (.iastore, 1) := by decide +kernel
theorem dX11_post_47 : decode cX11_post 47 = .ok (.aload_n 0, 1) := by decide +kernel
theorem dX11_post_48 : decode cX11_post 48 = .ok (.getfield 10, 3) := by decide +kernel
theorem dX11_post_51 : decode cX11_post 51 = .ok (.dup, 1) := by decide +kernel
theorem dX11_post_52 : decode cX11_post 52 = .ok (.getfield 203, 3) := by decide +kernel
theorem dX11_post_55 : decode cX11_post 55 = .ok (.iconst 1, 1) := by decide +kernel
theorem dX11_post_56 : decode cX11_post 56 = .ok (.iadd, 1) := by decide +kernel
theorem dX11_post_57 : decode cX11_post 57 = .ok (.putfield 203, 3) := by decide +kernel
theorem dX11_post_60 : decode cX11_post 60 = .ok (.iload_n 3, 1) := by decide +kernel
theorem dX11_post_61 : decode cX11_post 61 = .ok (.ireturn, 1) := by decide +kernel
theorem dX11_moves_0 : decode cX11_moves 0 = .ok (.aload_n 0, 1) := by decide +kernel
theorem dX11_moves_1 : decode cX11_moves 1 = .ok (.iload_n 1, 1) := by decide +kernel
theorem dX11_moves_2 : decode cX11_moves 2 = .ok (.invokevirtual 212, 3) := by decide +kernel
theorem dX11_moves_5 : decode cX11_moves 5 = .ok (.ifCond .ne 5, 3) := by decide +kernel
theorem dX11_moves_8 : decode cX11_moves 8 = .ok (.iconst (-1), 1) := by decide +kernel
theorem dX11_moves_9 : decode cX11_moves 9 = .ok (.ireturn, 1) := by decide +kernel
theorem dX11_moves_10 : decode cX11_moves 10 = .ok (.iload_n 2, 1) := by decide +kernel
theorem dX11_moves_11 : decode cX11_moves 11 = .ok (.iload_n 3, 1) := by decide +kernel
theorem dX11_moves_12 : decode cX11_moves 12 = .ok (.invokestatic 199, 3) := by decide +kernel
theorem dX11_moves_15 : decode cX11_moves 15 = .ok (.ifCond .ne 6, 3) := by decide +kernel
theorem dX11_moves_18 : decode cX11_moves 18 = .ok (.bipush (-2), 2) := by decide +kernel
theorem dX11_moves_20 : decode cX11_moves 20 = .ok (.ireturn, 1) := by decide +kernel
theorem dX11_moves_21 : decode cX11_moves 21 = .ok (.bipush 100, 2) := by decide +kernel
theorem dX11_moves_23 : decode cX11_moves 23 = .ok (.aload_n 0, 1) := by decide +kernel
theorem dX11_moves_24 : decode cX11_moves 24 = .ok (.getfield 10, 3) := by decide +kernel
theorem dX11_moves_27 : decode cX11_moves 27 = .ok (.getfield 206, 3) := by decide +kernel
theorem dX11_moves_30 : decode cX11_moves 30 = .ok (.iload_n 1, 1) := by decide +kernel
theorem dX11_moves_31 : decode cX11_moves 31 = .ok (.iaload, 1) := by decide +kernel
theorem dX11_moves_32 : decode cX11_moves 32 = .ok (.imul, 1) := by decide +kernel
theorem dX11_moves_33 : decode cX11_moves 33 = .ok (.aload_n 0, 1) := by decide +kernel
theorem dX11_moves_34 : decode cX11_moves 34 = .ok (.getfield 10, 3) := by decide +kernel
theorem dX11_moves_37 : decode cX11_moves 37 = .ok (.getfield 209, 3) := by decide +kernel
theorem dX11_moves_40 : decode cX11_moves 40 = .ok (.iload_n 1, 1) := by decide +kernel
theorem dX11_moves_41 : decode cX11_moves 41 = .ok (.iaload, 1) := by decide +kernel
theorem dX11_moves_42 : decode cX11_moves 42 = .ok (.iadd, 1) := by decide +kernel
theorem dX11_moves_43 : decode cX11_moves 43 = .ok (.istore 4, 2) := by decide +kernel
theorem dX11_moves_45 : decode cX11_moves 45 = .ok (.aload_n 0, 1) := by decide +kernel
theorem dX11_moves_46 : decode cX11_moves 46 = .ok (.getfield 10, 3) := by decide +kernel
theorem dX11_moves_49 : decode cX11_moves 49 = .ok (.getfield 206, 3) := by decide +kernel
theorem dX11_moves_52 : decode cX11_moves 52 = .ok (.iload_n 1, 1) := by decide +kernel
theorem dX11_moves_53 : decode cX11_moves 53 = .ok (.iload_n 2, 1) := by decide +kernel
theorem dX11_moves_54 : decode cX11_moves 54 = .ok (.iastore, 1) := by decide +kernel
theorem dX11_moves_55 : decode cX11_moves 55 = .ok (.aload_n 0, 1) := by decide +kernel
theorem dX11_moves_56 : decode cX11_moves 56 = .ok (.getfield 10, 3) := by decide +kernel
theorem dX11_moves_59 : decode cX11_moves 59 = .ok (.getfield 209, 3) := by decide +kernel
theorem dX11_moves_62 : decode cX11_moves 62 = .ok (.iload_n 1, 1) := by decide +kernel
theorem dX11_moves_63 : decode cX11_moves 63 = .ok (.iload_n 3, 1) := by decide +kernel
theorem dX11_moves_64 : decode cX11_moves 64 = .ok (.iastore, 1) := by decide +kernel
theorem dX11_moves_65 : decode cX11_moves 65 = .ok (.iload 4, 2) := by decide +kernel
theorem dX11_moves_67 : decode cX11_moves 67 = .ok (.ireturn, 1) := by decide +kernel
theorem dX11_count_0 : decode cX11_count 0 = .ok (.iload_n 1, 1) := by decide +kernel
theorem dX11_count_1 : decode cX11_count 1 = .ok (.tableswitch 78 0 5 #[39, 47, 55, 63, 68, 73], 39) := by decide +kernel
theorem dX11_count_40 : decode cX11_count 40 = .ok (.aload_n 0, 1) := by decide +kernel
theorem dX11_count_41 : decode cX11_count 41 = .ok (.getfield 10, 3) := by decide +kernel
theorem dX11_count_44 : decode cX11_count 44 = .ok (.getfield 113, 3) := by decide +kernel
theorem dX11_count_47 : decode cX11_count 47 = .ok (.ireturn, 1) := by decide +kernel
theorem dX11_count_48 : decode cX11_count 48 = .ok (.aload_n 0, 1) := by decide +kernel
theorem dX11_count_49 : decode cX11_count 49 = .ok (.getfield 10, 3) := by decide +kernel
theorem dX11_count_52 : decode cX11_count 52 = .ok (.getfield 187, 3) := by decide +kernel
theorem dX11_count_55 : decode cX11_count 55 = .ok (.ireturn, 1) := by decide +kernel
theorem dX11_count_56 : decode cX11_count 56 = .ok (.aload_n 0, 1) := by decide +kernel
theorem dX11_count_57 : decode cX11_count 57 = .ok (.getfield 10, 3) := by decide +kernel
theorem dX11_count_60 : decode cX11_count 60 = .ok (.getfield 203, 3) := by decide +kernel
theorem dX11_count_63 : decode cX11_count 63 = .ok (.ireturn, 1) := by decide +kernel
theorem dX11_count_64 : decode cX11_count 64 = .ok (.aload_n 0, 1) := by decide +kernel
theorem dX11_count_65 : decode cX11_count 65 = .ok (.getfield 40, 3) := by decide +kernel
theorem dX11_count_68 : decode cX11_count 68 = .ok (.ireturn, 1) := by decide +kernel
theorem dX11_count_69 : decode cX11_count 69 = .ok (.aload_n 0, 1) := by decide +kernel
theorem dX11_count_70 : decode cX11_count 70 = .ok (.getfield 44, 3) := by decide +kernel
theorem dX11_count_73 : decode cX11_count 73 = .ok (.ireturn, 1) := by decide +kernel
theorem dX11_count_74 : decode cX11_count 74 = .ok (.aload_n 0, 1) := by decide +kernel
theorem dX11_count_75 : decode cX11_count 75 = .ok (.getfield 47, 3) := by decide +kernel
theorem dX11_count_78 : decode cX11_count 78 = .ok (.ireturn, 1) := by decide +kernel
theorem dX11_count_79 : decode cX11_count 79 = .ok (.bipush (-2), 2) := by decide +kernel
theorem dX11_count_81 : decode cX11_count 81 = .ok (.ireturn, 1) := by decide +kernel
theorem dX11_isIn_0 : decode cX11_isIn 0 = .ok (.iload_n 0, 1) := by decide +kernel
theorem dX11_isIn_1 : decode cX11_isIn 1 = .ok (.iload_n 1, 1) := by decide +kernel
theorem dX11_isIn_2 : decode cX11_isIn 2 = .ok (.if_icmp .lt 12, 3) := by decide +kernel
theorem dX11_isIn_5 : decode cX11_isIn 5 = .ok (.iload_n 0, 1) := by decide +kernel
theorem dX11_isIn_6 : decode cX11_isIn 6 = .ok (.iload_n 2, 1) := by decide +kernel
theorem dX11_isIn_7 : decode cX11_isIn 7 = .ok (.if_icmp .gt 7, 3) := by decide +kernel
theorem dX11_isIn_10 : decode cX11_isIn 10 = .ok (.iconst 1, 1) := by decide +kernel
theorem dX11_isIn_11 : decode cX11_isIn 11 = .ok (.goto 4, 3) := by decide +kernel
theorem dX11_isIn_14 : decode cX11_isIn 14 = .ok (.iconst 0, 1) := by decide +kernel
theorem dX11_isIn_15 : decode cX11_isIn 15 = .ok (.ireturn, 1) := by decide +kernel
theorem dX11_isSort_0 : decode cX11_isSort 0 = .ok (.iload_n 0, 1) := by decide +kernel
theorem dX11_isSort_1 : decode cX11_isSort 1 = .ok (.iconst 0, 1) := by decide +kernel
theorem dX11_isSort_2 : decode cX11_isSort 2 = .ok (.iconst 3, 1) := by decide +kernel
theorem dX11_isSort_3 : decode cX11_isSort 3 = .ok (.invokestatic 100, 3) := by decide +kernel
theorem dX11_isSort_6 : decode cX11_isSort 6 = .ok (.ireturn, 1) := by decide +kernel
theorem dX11_isPostPlace_0 : decode cX11_isPostPlace 0 = .ok (.iload_n 0, 1) := by decide +kernel
theorem dX11_isPostPlace_1 : decode cX11_isPostPlace 1 = .ok (.iconst 0, 1) := by decide +kernel
theorem dX11_isPostPlace_2 : decode cX11_isPostPlace 2 = .ok (.bipush 20, 2) := by decide +kernel
theorem dX11_isPostPlace_4 : decode cX11_isPostPlace 4 = .ok (.invokestatic 100, 3) := by decide +kernel
theorem dX11_isPostPlace_7 : decode cX11_isPostPlace 7 = .ok (.ifCond .eq 17, 3) := by decide +kernel
theorem dX11_isPostPlace_10 : decode cX11_isPostPlace 10 = .ok (.iload_n 1, 1) := by decide +kernel
theorem dX11_isPostPlace_11 : decode cX11_isPostPlace 11 = .ok (.iconst 1, 1) := by decide +kernel
theorem dX11_isPostPlace_12 : decode cX11_isPostPlace 12 = .ok (.bipush 69, 2) := by decide +kernel
theorem dX11_isPostPlace_14 : decode cX11_isPostPlace 14 = .ok (.invokestatic 100, 3) := by decide +kernel
theorem dX11_isPostPlace_17 : decode cX11_isPostPlace 17 = .ok (.ifCond .eq 7, 3) := by decide +kernel
theorem dX11_isPostPlace_20 : decode cX11_isPostPlace 20 = .ok (.iconst 1, 1) := by decide +kernel
theorem dX11_isPostPlace_21 : decode cX11_isPostPlace 21 = .ok (.goto 4, 3) := by decide +kernel
theorem dX11_isPostPlace_24 : decode cX11_isPostPlace 24 = .ok (.iconst 0, 1) := by decide +kernel
theorem dX11_isPostPlace_25 : decode cX11_isPostPlace 25 = .ok (.ireturn, 1) := by decide +kernel
theorem dX11_isPoint_0 : decode cX11_isPoint 0 = .ok (.iload_n 1, 1) := by decide +kernel
theorem dX11_isPoint_1 : decode cX11_isPoint 1 = .ok (.ifCond .lt 18, 3) := by decide +kernel
theorem dX11_isPoint_4 : decode cX11_isPoint 4 = .ok (.iload_n 1, 1) := by decide +kernel
theorem dX11_isPoint_5 : decode cX11_isPoint 5 = .ok (.aload_n 0, 1) := by decide +kernel
theorem dX11_isPoint_6 : decode cX11_isPoint 6 = .ok (.getfield 10, 3) := by decide +kernel
theorem dX11_isPoint_9 : decode cX11_isPoint 9 = .ok (.getfield 187, 3) := by decide +kernel
theorem dX11_isPoint_12 : decode cX11_isPoint 12 = .ok (.if_icmp .ge 7, 3) := by decide +kernel
theorem dX11_isPoint_15 : decode cX11_isPoint 15 = .ok (.iconst 1, 1) := by decide +kernel
theorem dX11_isPoint_16 : decode cX11_isPoint 16 = .ok (.goto 4, 3) := by decide +kernel
theorem dX11_isPoint_19 : decode cX11_isPoint 19 = .ok (.iconst 0, 1) := by decide +kernel
theorem dX11_isPoint_20 : decode cX11_isPoint 20 = .ok (.ireturn, 1) := by decide +kernel
theorem dX11_isPost_0 : decode cX11_isPost 0 = .ok (.iload_n 1, 1) := by decide +kernel
theorem dX11_isPost_1 : decode cX11_isPost 1 = .ok (.ifCond .lt 18, 3) := by decide +kernel
theorem dX11_isPost_4 : decode cX11_isPost 4 = .ok (.iload_n 1, 1) := by decide +kernel
theorem dX11_isPost_5 : decode cX11_isPost 5 = .ok (.aload_n 0, 1) := by decide +kernel
theorem dX11_isPost_6 : decode cX11_isPost 6 = .ok (.getfield 10, 3) := by decide +kernel
theorem dX11_isPost_9 : decode cX11_isPost 9 = .ok (.getfield 203, 3) := by decide +kernel
theorem dX11_isPost_12 : decode cX11_isPost 12 = .ok (.if_icmp .ge 7, 3) := by decide +kernel
theorem dX11_isPost_15 : decode cX11_isPost 15 = .ok (.iconst 1, 1) := by decide +kernel
theorem dX11_isPost_16 : decode cX11_isPost 16 = .ok (.goto 4, 3) := by decide +kernel
theorem dX11_isPost_19 : decode cX11_isPost 19 = .ok (.iconst 0, 1) := by decide +kernel
theorem dX11_isPost_20 : decode cX11_isPost 20 = .ok (.ireturn, 1) := by decide +kernel
theorem dX11_feed_0 : decode cX11_feed 0 = .ok (.iload_n 3, 1) := by decide +kernel
theorem dX11_feed_1 : decode cX11_feed 1 = .ok (.iconst 1, 1) := by decide +kernel
theorem dX11_feed_2 : decode cX11_feed 2 = .ok (.bipush 8, 2) := by decide +kernel
theorem dX11_feed_4 : decode cX11_feed 4 = .ok (.invokestatic 100, 3) := by decide +kernel
theorem dX11_feed_7 : decode cX11_feed 7 = .ok (.ifCond .ne 6, 3) := by decide +kernel
theorem dX11_feed_10 : decode cX11_feed 10 = .ok (.bipush (-2), 2) := by decide +kernel
theorem dX11_feed_12 : decode cX11_feed 12 = .ok (.ireturn, 1) := by decide +kernel
theorem dX11_feed_13 : decode cX11_feed 13 = .ok (.aload_n 0, 1) := by decide +kernel
theorem dX11_feed_14 : decode cX11_feed 14 = .ok (.getfield 47, 3) := by decide +kernel
theorem dX11_feed_17 : decode cX11_feed 17 = .ok (.iload_n 3, 1) := by decide +kernel
theorem dX11_feed_18 : decode cX11_feed 18 = .ok (.iadd, 1) := by decide +kernel
theorem dX11_feed_19 : decode cX11_feed 19 = .ok (.sipush 160, 3) := by decide +kernel
theorem dX11_feed_22 : decode cX11_feed 22 = .ok (.if_icmp .le 6, 3) := by decide +kernel
theorem dX11_feed_25 : decode cX11_feed 25 = .ok (.bipush (-4), 2) := by decide +kernel
theorem dX11_feed_27 : decode cX11_feed 27 = .ok (.ireturn, 1) := by decide +kernel
theorem dX11_feed_28 : decode cX11_feed 28 = .ok (.iload_n 3, 1) := by decide +kernel
theorem dX11_feed_29 : decode cX11_feed 29 = .ok (.iconst 1, 1) := by decide +kernel
theorem dX11_feed_30 : decode cX11_feed 30 = .ok (.isub, 1) := by decide +kernel
theorem dX11_feed_31 : decode cX11_feed 31 = .ok (.istore 4, 2) := by decide +kernel
theorem dX11_feed_33 : decode cX11_feed 33 = .ok (.iload 4, 2) := by decide +kernel
theorem dX11_feed_35 : decode cX11_feed 35 = .ok (.ifCond .lt 22, 3) := by decide +kernel
theorem dX11_feed_38 : decode cX11_feed 38 = .ok (.aload_n 0, 1) := by decide +kernel
theorem dX11_feed_39 : decode cX11_feed 39 = .ok (.lload_n 1, 1) := by decide +kernel
theorem dX11_feed_40 : decode cX11_feed 40 = .ok (.bipush 8, 2) := by decide +kernel
theorem dX11_feed_42 : decode cX11_feed 42 = .ok (.iload 4, 2) := by decide +kernel
theorem dX11_feed_44 : decode cX11_feed 44 = .ok (.imul, 1) := by decide +kernel
theorem dX11_feed_45 : decode cX11_feed 45 = .ok (.lushr, 1) := by decide +kernel
theorem dX11_feed_46 : decode cX11_feed 46 = .ok (.l2i, 1) := by decide +kernel
theorem dX11_feed_47 : decode cX11_feed 47 = .ok (.i2b, 1) := by decide +kernel
theorem dX11_feed_48 : decode cX11_feed 48 = .ok (.invokevirtual 84, 3) := by decide +kernel
theorem dX11_feed_51 : decode cX11_feed 51 = .ok (.iinc 4 (-1), 3) := by decide +kernel
theorem dX11_feed_54 : decode cX11_feed 54 = .ok (.goto (-21), 3) := by decide +kernel
theorem dX11_feed_57 : decode cX11_feed 57 = .ok (.aload_n 0, 1) := by decide +kernel
theorem dX11_feed_58 : decode cX11_feed 58 = .ok (.getfield 47, 3) := by decide +kernel
theorem dX11_feed_61 : decode cX11_feed 61 = .ok (.ireturn, 1) := by decide +kernel
theorem dX11_putOnTape_0 : decode cX11_putOnTape 0 = .ok (.aload_n 0, 1) := by decide +kernel
theorem dX11_putOnTape_1 : decode cX11_putOnTape 1 = .ok (.getfield 47, 3) := by decide +kernel
theorem dX11_putOnTape_4 : decode cX11_putOnTape 4 = .ok (.aload_n 0, 1) := by decide +kernel
theorem dX11_putOnTape_5 : decode cX11_putOnTape 5 = .ok (.getfield 36, 3) := by decide +kernel
theorem dX11_putOnTape_8 : decode cX11_putOnTape 8 = .ok (.arraylength, 1) := by decide +kernel
theorem dX11_putOnTape_9 : decode cX11_putOnTape 9 = .ok (.if_icmp .ge 23, 3) := by decide +kernel
theorem dX11_putOnTape_12 : decode cX11_putOnTape 12 = .ok (.aload_n 0, 1) := by decide +kernel
theorem dX11_putOnTape_13 : decode cX11_putOnTape 13 = .ok (.getfield 36, 3) := by decide +kernel
theorem dX11_putOnTape_16 : decode cX11_putOnTape 16 = .ok (.aload_n 0, 1) := by decide +kernel
theorem dX11_putOnTape_17 : decode cX11_putOnTape 17 = .ok (.getfield 47, 3) := by decide +kernel
theorem dX11_putOnTape_20 : decode cX11_putOnTape 20 = .ok (.iload_n 1, 1) := by decide +kernel
theorem dX11_putOnTape_21 : decode cX11_putOnTape 21 = .ok (.bastore, 1) := by decide +kernel
theorem dX11_putOnTape_22 : decode cX11_putOnTape 22 = .ok (.aload_n 0, 1) := by decide +kernel
theorem dX11_putOnTape_23 : decode cX11_putOnTape 23 = .ok (.dup, 1) := by decide +kernel
theorem dX11_putOnTape_24 : decode cX11_putOnTape 24 = .ok (.getfield 47, 3) := by decide +kernel
theorem dX11_putOnTape_27 : decode cX11_putOnTape 27 = .ok (.iconst 1, 1) := by decide +kernel
theorem dX11_putOnTape_28 : decode cX11_putOnTape 28 = .ok (.iadd, 1) := by decide +kernel
theorem dX11_putOnTape_29 : decode cX11_putOnTape 29 = .ok (.putfield 47, 3) := by decide +kernel
theorem dX11_putOnTape_32 : decode cX11_putOnTape 32 = .ok (.return_, 1) := by decide +kernel
theorem dX11_text_0 : decode cX11_text 0 = .ok (.aload_n 0, 1) := by decide +kernel
theorem dX11_text_1 : decode cX11_text 1 = .ok (.getfield 40, 3) := by decide +kernel
theorem dX11_text_4 : decode cX11_text 4 = .ok (.bipush 6, 2) := by decide +kernel
theorem dX11_text_6 : decode cX11_text 6 = .ok (.if_icmp .lt 6, 3) := by decide +kernel
theorem dX11_text_9 : decode cX11_text 9 = .ok (.bipush (-4), 2) := by decide +kernel
theorem dX11_text_11 : decode cX11_text 11 = .ok (.ireturn, 1) := by decide +kernel
theorem dX11_text_12 : decode cX11_text 12 = .ok (.aload_n 0, 1) := by decide +kernel
theorem dX11_text_13 : decode cX11_text 13 = .ok (.getfield 32, 3) := by decide +kernel
theorem dX11_text_16 : decode cX11_text 16 = .ok (.aload_n 0, 1) := by decide +kernel
theorem dX11_text_17 : decode cX11_text 17 = .ok (.getfield 36, 3) := by decide +kernel
theorem dX11_text_20 : decode cX11_text 20 = .ok (.aload_n 0, 1) := by decide +kernel
theorem dX11_text_21 : decode cX11_text 21 = .ok (.getfield 47, 3) := by decide +kernel
theorem dX11_text_24 : decode cX11_text 24 = .ok (.invokevirtual 88, 3) := by decide +kernel
theorem dX11_text_27 : decode cX11_text 27 = .ok (.astore_n 1, 1) := by decide +kernel
theorem dX11_text_28 : decode cX11_text 28 = .ok (.aload_n 0, 1) := by decide +kernel
theorem dX11_text_29 : decode cX11_text 29 = .ok (.iconst 0, 1) := by decide +kernel
theorem dX11_text_30 : decode cX11_text 30 = .ok (.putfield 47, 3) := by decide +kernel
theorem dX11_text_33 : decode cX11_text 33 = .ok (.aload_n 1, 1) := by decide +kernel
theorem dX11_text_34 : decode cX11_text 34 = .ok (.ifnonnull 14, 3) := by decide +kernel
theorem dX11_text_37 : decode cX11_text 37 = .ok (.bipush (-100), 2) := by decide +kernel
theorem dX11_text_39 : decode cX11_text 39 = .ok (.aload_n 0, 1) := by decide +kernel
theorem dX11_text_40 : decode cX11_text 40 = .ok (.getfield 32, 3) := by decide +kernel
theorem dX11_text_43 : decode cX11_text 43 = .ok (.getfield 215, 3) := by decide +kernel
theorem dX11_text_46 : decode cX11_text 46 = .ok (.isub, 1) := by decide +kernel
theorem dX11_text_47 : decode cX11_text 47 = .ok (.ireturn, 1) := by decide +kernel
theorem dX11_text_48 : decode cX11_text 48 = .ok (.aload_n 0, 1) := by decide +kernel
theorem dX11_text_49 : decode cX11_text 49 = .ok (.getfield 25, 3) := by decide +kernel
theorem dX11_text_52 : decode cX11_text 52 = .ok (.aload_n 0, 1) := by decide +kernel
theorem dX11_text_53 : decode cX11_text 53 = .ok (.getfield 40, 3) := by decide +kernel
theorem dX11_text_56 : decode cX11_text 56 = .ok (.aload_n 1, 1) := by decide +kernel
theorem dX11_text_57 : decode cX11_text 57 = .ok (.aastore, 1) := by decide +kernel
theorem dX11_text_58 : decode cX11_text 58 = .ok (.aload_n 0, 1) := by decide +kernel
theorem dX11_text_59 : decode cX11_text 59 = .ok (.dup, 1) := by decide +kernel
theorem dX11_text_60 : decode cX11_text 60 = .ok (.getfield 40, 3) := by decide +kernel
theorem dX11_text_63 : decode cX11_text 63 = .ok (.iconst 1, 1) := by decide +kernel
theorem dX11_text_64 : decode cX11_text 64 = .ok (.iadd, 1) := by decide +kernel
theorem dX11_text_65 : decode cX11_text 65 = .ok (.putfield 40, 3) := by decide +kernel
theorem dX11_text_68 : decode cX11_text 68 = .ok (.aload_n 0, 1) := by decide +kernel
theorem dX11_text_69 : decode cX11_text 69 = .ok (.getfield 40, 3) := by decide +kernel
theorem dX11_text_72 : decode cX11_text 72 = .ok (.iconst 1, 1) := by decide +kernel
theorem dX11_text_73 : decode cX11_text 73 = .ok (.isub, 1) := by decide +kernel
theorem dX11_text_74 : decode cX11_text 74 = .ok (.ireturn, 1) := by decide +kernel
theorem dX11_force_0 : decode cX11_force 0 = .ok (.iload_n 1, 1) := by decide +kernel
theorem dX11_force_1 : decode cX11_force 1 = .ok (.ifCond .lt 11, 3) := by decide +kernel
theorem dX11_force_4 : decode cX11_force 4 = .ok (.iload_n 1, 1) := by decide +kernel
theorem dX11_force_5 : decode cX11_force 5 = .ok (.aload_n 0, 1) := by decide +kernel
theorem dX11_force_6 : decode cX11_force 6 = .ok (.getfield 40, 3) := by decide +kernel
theorem dX11_force_9 : decode cX11_force 9 = .ok (.if_icmp .lt 6, 3) := by decide +kernel
theorem dX11_force_12 : decode cX11_force 12 = .ok (.bipush (-2), 2) := by decide +kernel
theorem dX11_force_14 : decode cX11_force 14 = .ok (.ireturn, 1) := by decide +kernel
theorem dX11_force_15 : decode cX11_force 15 = .ok (.aload_n 0, 1) := by decide +kernel
theorem dX11_force_16 : decode cX11_force 16 = .ok (.getfield 44, 3) := by decide +kernel
theorem dX11_force_19 : decode cX11_force 19 = .ok (.istore_n 2, 1) := by decide +kernel
theorem dX11_force_20 : decode cX11_force 20 = .ok (.aload_n 0, 1) := by decide +kernel
theorem dX11_force_21 : decode cX11_force 21 = .ok (.iload_n 1, 1) := by decide +kernel
theorem dX11_force_22 : decode cX11_force 22 = .ok (.putfield 44, 3) := by decide +kernel
theorem dX11_force_25 : decode cX11_force 25 = .ok (.aload_n 0, 1) := by decide +kernel
theorem dX11_force_26 : decode cX11_force 26 = .ok (.getfield 10, 3) := by decide +kernel
theorem dX11_force_29 : decode cX11_force 29 = .ok (.aload_n 0, 1) := by decide +kernel
theorem dX11_force_30 : decode cX11_force 30 = .ok (.getfield 25, 3) := by decide +kernel
theorem dX11_force_33 : decode cX11_force 33 = .ok (.iload_n 1, 1) := by decide +kernel
theorem dX11_force_34 : decode cX11_force 34 = .ok (.aaload, 1) := by decide +kernel
theorem dX11_force_35 : decode cX11_force 35 = .ok (.putfield 92, 3) := by decide +kernel
theorem dX11_force_38 : decode cX11_force 38 = .ok (.iload_n 2, 1) := by decide +kernel
theorem dX11_force_39 : decode cX11_force 39 = .ok (.ireturn, 1) := by decide +kernel
theorem dX11_hidden_0 : decode cX11_hidden 0 = .ok (.aload_n 0, 1) := by decide +kernel
theorem dX11_hidden_1 : decode cX11_hidden 1 = .ok (.getfield 10, 3) := by decide +kernel
theorem dX11_hidden_4 : decode cX11_hidden 4 = .ok (.iload_n 1, 1) := by decide +kernel
theorem dX11_hidden_5 : decode cX11_hidden 5 = .ok (.iload_n 2, 1) := by decide +kernel
theorem dX11_hidden_6 : decode cX11_hidden 6 = .ok (.invokevirtual 156, 3) := by decide +kernel
theorem dX11_hidden_9 : decode cX11_hidden 9 = .ok (.astore 4, 2) := by decide +kernel
theorem dX11_hidden_11 : decode cX11_hidden 11 = .ok (.aload 4, 2) := by decide +kernel
theorem dX11_hidden_13 : decode cX11_hidden 13 = .ok (.ifnonnull 6, 3) := by decide +kernel
theorem dX11_hidden_16 : decode cX11_hidden 16 = .ok (.bipush (-5), 2) := by decide +kernel
theorem dX11_hidden_18 : decode cX11_hidden 18 = .ok (.ireturn, 1) := by decide +kernel
theorem dX11_hidden_19 : decode cX11_hidden 19 = .ok (.aload_n 0, 1) := by decide +kernel
theorem dX11_hidden_20 : decode cX11_hidden 20 = .ok (.iload_n 3, 1) := by decide +kernel
theorem dX11_hidden_21 : decode cX11_hidden 21 = .ok (.invokevirtual 218, 3) := by decide +kernel
theorem dX11_hidden_24 : decode cX11_hidden 24 = .ok (.ifCond .eq 17, 3) := by decide +kernel
theorem dX11_hidden_27 : decode cX11_hidden 27 = .ok (.aload_n 0, 1) := by decide +kernel
theorem dX11_hidden_28 : decode cX11_hidden 28 = .ok (.getfield 10, 3) := by decide +kernel
theorem dX11_hidden_31 : decode cX11_hidden 31 = .ok (.aload 4, 2) := by decide +kernel
theorem dX11_hidden_33 : decode cX11_hidden 33 = .ok (.iload_n 2, 1) := by decide +kernel
theorem dX11_hidden_34 : decode cX11_hidden 34 = .ok (.iload_n 3, 1) := by decide +kernel
theorem dX11_hidden_35 : decode cX11_hidden 35 = .ok (.invokevirtual 221, 3) := by decide +kernel
theorem dX11_hidden_38 : decode cX11_hidden 38 = .ok (.goto 5, 3) := by decide +kernel
theorem dX11_hidden_41 : decode cX11_hidden 41 = .ok (.bipush (-7), 2) := by decide +kernel
theorem dX11_hidden_43 : decode cX11_hidden 43 = .ok (.ireturn, 1) := by decide +kernel
theorem dX11_sees_0 : decode cX11_sees 0 = .ok (.aload_n 0, 1) := by decide +kernel
theorem dX11_sees_1 : decode cX11_sees 1 = .ok (.getfield 10, 3) := by decide +kernel
theorem dX11_sees_4 : decode cX11_sees 4 = .ok (.iload_n 1, 1) := by decide +kernel
theorem dX11_sees_5 : decode cX11_sees 5 = .ok (.iload_n 2, 1) := by decide +kernel
theorem dX11_sees_6 : decode cX11_sees 6 = .ok (.invokevirtual 156, 3) := by decide +kernel
theorem dX11_sees_9 : decode cX11_sees 9 = .ok (.astore_n 3, 1) := by decide +kernel
theorem dX11_sees_10 : decode cX11_sees 10 = .ok (.aload_n 3, 1) := by decide +kernel
theorem dX11_sees_11 : decode cX11_sees 11 = .ok (.ifnonnull 8, 3) := by decide +kernel
theorem dX11_sees_14 : decode cX11_sees 14 = .ok (.bipush (-5), 2) := by decide +kernel
theorem dX11_sees_16 : decode cX11_sees 16 = .ok (.goto 12, 3) := by decide +kernel
theorem dX11_sees_19 : decode cX11_sees 19 = .ok (.aload_n 0, 1) := by decide +kernel
theorem dX11_sees_20 : decode cX11_sees 20 = .ok (.getfield 10, 3) := by decide +kernel
theorem dX11_sees_23 : decode cX11_sees 23 = .ok (.aload_n 3, 1) := by decide +kernel
theorem dX11_sees_24 : decode cX11_sees 24 = .ok (.iload_n 2, 1) := by decide +kernel
theorem dX11_sees_25 : decode cX11_sees 25 = .ok (.invokevirtual 225, 3) := by decide +kernel
theorem dX11_sees_28 : decode cX11_sees 28 = .ok (.ireturn, 1) := by decide +kernel
theorem dX11_worth_0 : decode cX11_worth 0 = .ok (.aload_n 0, 1) := by decide +kernel
theorem dX11_worth_1 : decode cX11_worth 1 = .ok (.getfield 10, 3) := by decide +kernel
theorem dX11_worth_4 : decode cX11_worth 4 = .ok (.iload_n 1, 1) := by decide +kernel
theorem dX11_worth_5 : decode cX11_worth 5 = .ok (.iload_n 2, 1) := by decide +kernel
theorem dX11_worth_6 : decode cX11_worth 6 = .ok (.invokevirtual 156, 3) := by decide +kernel
theorem dX11_worth_9 : decode cX11_worth 9 = .ok (.astore_n 3, 1) := by decide +kernel
theorem dX11_worth_10 : decode cX11_worth 10 = .ok (.aload_n 3, 1) := by decide +kernel
theorem dX11_worth_11 : decode cX11_worth 11 = .ok (.ifnonnull 8, 3) := by decide +kernel
theorem dX11_worth_14 : decode cX11_worth 14 = .ok (.bipush (-5), 2) := by decide +kernel
theorem dX11_worth_16 : decode cX11_worth 16 = .ok (.goto 12, 3) := by decide +kernel
theorem dX11_worth_19 : decode cX11_worth 19 = .ok (.aload_n 0, 1) := by decide +kernel
theorem dX11_worth_20 : decode cX11_worth 20 = .ok (.getfield 10, 3) := by decide +kernel
theorem dX11_worth_23 : decode cX11_worth 23 = .ok (.aload_n 3, 1) := by decide +kernel
theorem dX11_worth_24 : decode cX11_worth 24 = .ok (.iload_n 2, 1) := by decide +kernel
theorem dX11_worth_25 : decode cX11_worth 25 = .ok (.invokevirtual 228, 3) := by decide +kernel
theorem dX11_worth_28 : decode cX11_worth 28 = .ok (.ireturn, 1) := by decide +kernel
theorem dX11_price_0 : decode cX11_price 0 = .ok (.aload_n 0, 1) := by decide +kernel
theorem dX11_price_1 : decode cX11_price 1 = .ok (.getfield 10, 3) := by decide +kernel
theorem dX11_price_4 : decode cX11_price 4 = .ok (.iload_n 1, 1) := by decide +kernel
theorem dX11_price_5 : decode cX11_price 5 = .ok (.iload_n 2, 1) := by decide +kernel
theorem dX11_price_6 : decode cX11_price 6 = .ok (.invokevirtual 156, 3) := by decide +kernel
theorem dX11_price_9 : decode cX11_price 9 = .ok (.astore_n 3, 1) := by decide +kernel
theorem dX11_price_10 : decode cX11_price 10 = .ok (.aload_n 3, 1) := by decide +kernel
theorem dX11_price_11 : decode cX11_price 11 = .ok (.ifnonnull 8, 3) := by decide +kernel
theorem dX11_price_14 : decode cX11_price 14 = .ok (.bipush (-5), 2) := by decide +kernel
theorem dX11_price_16 : decode cX11_price 16 = .ok (.goto 12, 3) := by decide +kernel
theorem dX11_price_19 : decode cX11_price 19 = .ok (.aload_n 0, 1) := by decide +kernel
theorem dX11_price_20 : decode cX11_price 20 = .ok (.getfield 10, 3) := by decide +kernel
theorem dX11_price_23 : decode cX11_price 23 = .ok (.aload_n 3, 1) := by decide +kernel
theorem dX11_price_24 : decode cX11_price 24 = .ok (.iload_n 2, 1) := by decide +kernel
theorem dX11_price_25 : decode cX11_price 25 = .ok (.invokevirtual 231, 3) := by decide +kernel
theorem dX11_price_28 : decode cX11_price 28 = .ok (.ireturn, 1) := by decide +kernel
theorem dX11_all_0 : decode cX11_all 0 = .ok (.iload_n 1, 1) := by decide +kernel
theorem dX11_all_1 : decode cX11_all 1 = .ok (.tableswitch 75 0 3 #[31, 39, 47, 66], 31) := by decide +kernel
theorem dX11_all_32 : decode cX11_all 32 = .ok (.aload_n 0, 1) := by decide +kernel
theorem dX11_all_33 : decode cX11_all 33 = .ok (.getfield 10, 3) := by decide +kernel
theorem dX11_all_36 : decode cX11_all 36 = .ok (.invokevirtual 234, 3) := by decide +kernel
theorem dX11_all_39 : decode cX11_all 39 = .ok (.ireturn, 1) := by decide +kernel
theorem dX11_all_40 : decode cX11_all 40 = .ok (.aload_n 0, 1) := by decide +kernel
theorem dX11_all_41 : decode cX11_all 41 = .ok (.getfield 10, 3) := by decide +kernel
theorem dX11_all_44 : decode cX11_all 44 = .ok (.invokevirtual 237, 3) := by decide +kernel
theorem dX11_all_47 : decode cX11_all 47 = .ok (.ireturn, 1) := by decide +kernel
theorem dX11_all_48 : decode cX11_all 48 = .ok (.aload_n 0, 1) := by decide +kernel
theorem dX11_all_49 : decode cX11_all 49 = .ok (.getfield 10, 3) := by decide +kernel
theorem dX11_all_52 : decode cX11_all 52 = .ok (.iconst 1, 1) := by decide +kernel
theorem dX11_all_53 : decode cX11_all 53 = .ok (.aload_n 0, 1) := by decide +kernel
theorem dX11_all_54 : decode cX11_all 54 = .ok (.getfield 10, 3) := by decide +kernel
theorem dX11_all_57 : decode cX11_all 57 = .ok (.getfield 187, 3) := by decide +kernel
theorem dX11_all_60 : decode cX11_all 60 = .ok (.ishl, 1) := by decide +kernel
theorem dX11_all_61 : decode cX11_all 61 = .ok (.iconst 1, 1) := by decide +kernel
theorem dX11_all_62 : decode cX11_all 62 = .ok (.isub, 1) := by decide +kernel
theorem dX11_all_63 : decode cX11_all 63 = .ok (.invokevirtual 240, 3) := by decide +kernel
theorem dX11_all_66 : decode cX11_all 66 = .ok (.ireturn, 1) := by decide +kernel
theorem dX11_all_67 : decode cX11_all 67 = .ok (.aload_n 0, 1) := by decide +kernel
theorem dX11_all_68 : decode cX11_all 68 = .ok (.getfield 10, 3) := by decide +kernel
theorem dX11_all_71 : decode cX11_all 71 = .ok (.iconst 0, 1) := by decide +kernel
theorem dX11_all_72 : decode cX11_all 72 = .ok (.invokevirtual 240, 3) := by decide +kernel
theorem dX11_all_75 : decode cX11_all 75 = .ok (.ireturn, 1) := by decide +kernel
theorem dX11_all_76 : decode cX11_all 76 = .ok (.bipush (-2), 2) := by decide +kernel
theorem dX11_all_78 : decode cX11_all 78 = .ok (.ireturn, 1) := by decide +kernel
theorem dX11_cost_0 : decode cX11_cost 0 = .ok (.aload_n 0, 1) := by decide +kernel
theorem dX11_cost_1 : decode cX11_cost 1 = .ok (.getfield 10, 3) := by decide +kernel
theorem dX11_cost_4 : decode cX11_cost 4 = .ok (.invokevirtual 243, 3) := by decide +kernel
theorem dX11_cost_7 : decode cX11_cost 7 = .ok (.ireturn, 1) := by decide +kernel
theorem dX11_lawful_0 : decode cX11_lawful 0 = .ok (.iload_n 1, 1) := by decide +kernel
theorem dX11_lawful_1 : decode cX11_lawful 1 = .ok (.iconst 0, 1) := by decide +kernel
theorem dX11_lawful_2 : decode cX11_lawful 2 = .ok (.bipush 99, 2) := by decide +kernel
theorem dX11_lawful_4 : decode cX11_lawful 4 = .ok (.invokestatic 100, 3) := by decide +kernel
theorem dX11_lawful_7 : decode cX11_lawful 7 = .ok (.ifCond .ne 6, 3) := by decide +kernel
theorem dX11_lawful_10 : decode cX11_lawful 10 = .ok (.bipush (-2), 2) := by decide +kernel
theorem dX11_lawful_12 : decode cX11_lawful 12 = .ok (.ireturn, 1) := by decide +kernel
theorem dX11_lawful_13 : decode cX11_lawful 13 = .ok (.iconst 0, 1) := by decide +kernel
theorem dX11_lawful_14 : decode cX11_lawful 14 = .ok (.istore_n 2, 1) := by decide +kernel
theorem dX11_lawful_15 : decode cX11_lawful 15 = .ok (.iload_n 2, 1) := by decide +kernel
theorem dX11_lawful_16 : decode cX11_lawful 16 = .ok (.aload_n 0, 1) := by decide +kernel
theorem dX11_lawful_17 : decode cX11_lawful 17 = .ok (.getfield 10, 3) := by decide +kernel
theorem dX11_lawful_20 : decode cX11_lawful 20 = .ok (.getfield 113, 3) := by decide +kernel
theorem dX11_lawful_23 : decode cX11_lawful 23 = .ok (.if_icmp .ge 26, 3) := by decide +kernel
theorem dX11_lawful_26 : decode cX11_lawful 26 = .ok (.aload_n 0, 1) := by decide +kernel
theorem dX11_lawful_27 : decode cX11_lawful 27 = .ok (.getfield 10, 3) := by decide +kernel
theorem dX11_lawful_30 : decode cX11_lawful 30 = .ok (.iload_n 2, 1) := by decide +kernel
theorem dX11_lawful_31 : decode cX11_lawful 31 = .ok (.invokevirtual 246, 3) := by decide +kernel
theorem dX11_lawful_34 : decode cX11_lawful 34 = .ok (.invokestatic 249, 3) := by decide +kernel
theorem dX11_lawful_37 : decode cX11_lawful 37 = .ok (.iload_n 1, 1) := by decide +kernel
theorem dX11_lawful_38 : decode cX11_lawful 38 = .ok (.if_icmp .le 5, 3) := by decide +kernel
theorem dX11_lawful_41 : decode cX11_lawful 41 = .ok (.iload_n 2, 1) := by decide +kernel
theorem dX11_lawful_42 : decode cX11_lawful 42 = .ok (.ireturn, 1) := by decide +kernel
theorem dX11_lawful_43 : decode cX11_lawful 43 = .ok (.iinc 2 1, 3) := by decide +kernel
theorem dX11_lawful_46 : decode cX11_lawful 46 = .ok (.goto (-31), 3) := by decide +kernel
theorem dX11_lawful_49 : decode cX11_lawful 49 = .ok (.iconst (-1), 1) := by decide +kernel
theorem dX11_lawful_50 : decode cX11_lawful 50 = .ok (.ireturn, 1) := by decide +kernel
theorem dX11_judge_0 : decode cX11_judge 0 = .ok (.aload_n 0, 1) := by decide +kernel
theorem dX11_judge_1 : decode cX11_judge 1 = .ok (.iload_n 1, 1) := by decide +kernel
theorem dX11_judge_2 : decode cX11_judge 2 = .ok (.invokevirtual 254, 3) := by decide +kernel
theorem dX11_judge_5 : decode cX11_judge 5 = .ok (.istore_n 2, 1) := by decide +kernel
theorem dX11_judge_6 : decode cX11_judge 6 = .ok (.iload_n 2, 1) := by decide +kernel
theorem dX11_judge_7 : decode cX11_judge 7 = .ok (.ifCond .eq 5, 3) := by decide +kernel
theorem dX11_judge_10 : decode cX11_judge 10 = .ok (.iload_n 2, 1) := by decide +kernel
theorem dX11_judge_11 : decode cX11_judge 11 = .ok (.ireturn, 1) := by decide +kernel
theorem dX11_judge_12 : decode cX11_judge 12 = .ok (.iconst 0, 1) := by decide +kernel
theorem dX11_judge_13 : decode cX11_judge 13 = .ok (.istore_n 3, 1) := by decide +kernel
theorem dX11_judge_14 : decode cX11_judge 14 = .ok (.iload_n 3, 1) := by decide +kernel
theorem dX11_judge_15 : decode cX11_judge 15 = .ok (.aload_n 0, 1) := by decide +kernel
theorem dX11_judge_16 : decode cX11_judge 16 = .ok (.getfield 10, 3) := by decide +kernel
theorem dX11_judge_19 : decode cX11_judge 19 = .ok (.getfield 113, 3) := by decide +kernel
theorem dX11_judge_22 : decode cX11_judge 22 = .ok (.if_icmp .ge 29, 3) := by decide +kernel
theorem dX11_judge_25 : decode cX11_judge 25 = .ok (.aload_n 0, 1) := by decide +kernel
theorem dX11_judge_26 : decode cX11_judge 26 = .ok (.getfield 52, 3) := by decide +kernel
theorem dX11_judge_29 : decode cX11_judge 29 = .ok (.iload_n 1, 1) := by decide +kernel
theorem dX11_judge_30 : decode cX11_judge 30 = .ok (.aaload, 1) := by decide +kernel
theorem dX11_judge_31 : decode cX11_judge 31 = .ok (.iload_n 3, 1) := by decide +kernel
theorem dX11_judge_32 : decode cX11_judge 32 = .ok (.iaload, 1) := by decide +kernel
theorem dX11_judge_33 : decode cX11_judge 33 = .ok (.iconst 0, 1) := by decide +kernel
theorem dX11_judge_34 : decode cX11_judge 34 = .ok (.bipush 99, 2) := by decide +kernel
theorem dX11_judge_36 : decode cX11_judge 36 = .ok (.invokestatic 100, 3) := by decide +kernel
theorem dX11_judge_39 : decode cX11_judge 39 = .ok (.ifCond .ne 6, 3) := by decide +kernel
theorem dX11_judge_42 : decode cX11_judge 42 = .ok (.bipush (-2), 2) := by decide +kernel
theorem dX11_judge_44 : decode cX11_judge 44 = .ok (.ireturn, 1) := by decide +kernel
theorem dX11_judge_45 : decode cX11_judge 45 = .ok (.iinc 3 1, 3) := by decide +kernel
theorem dX11_judge_48 : decode cX11_judge 48 = .ok (.goto (-34), 3) := by decide +kernel
theorem dX11_judge_51 : decode cX11_judge 51 = .ok (.aload_n 0, 1) := by decide +kernel
theorem dX11_judge_52 : decode cX11_judge 52 = .ok (.invokevirtual 257, 3) := by decide +kernel
theorem dX11_judge_55 : decode cX11_judge 55 = .ok (.iconst 0, 1) := by decide +kernel
theorem dX11_judge_56 : decode cX11_judge 56 = .ok (.istore_n 3, 1) := by decide +kernel
theorem dX11_judge_57 : decode cX11_judge 57 = .ok (.iload_n 3, 1) := by decide +kernel
theorem dX11_judge_58 : decode cX11_judge 58 = .ok (.aload_n 0, 1) := by decide +kernel
theorem dX11_judge_59 : decode cX11_judge 59 = .ok (.getfield 10, 3) := by decide +kernel
theorem dX11_judge_62 : decode cX11_judge 62 = .ok (.getfield 113, 3) := by decide +kernel
theorem dX11_judge_65 : decode cX11_judge 65 = .ok (.if_icmp .ge 29, 3) := by decide +kernel
theorem dX11_judge_68 : decode cX11_judge 68 = .ok (.aload_n 0, 1) := by decide +kernel
theorem dX11_judge_69 : decode cX11_judge 69 = .ok (.getfield 10, 3) := by decide +kernel
theorem dX11_judge_72 : decode cX11_judge 72 = .ok (.getfield 116, 3) := by decide +kernel
theorem dX11_judge_75 : decode cX11_judge 75 = .ok (.iload_n 3, 1) := by decide +kernel
theorem dX11_judge_76 : decode cX11_judge 76 = .ok (.aaload, 1) := by decide +kernel
theorem dX11_judge_77 : decode cX11_judge 77 = .ok (.aload_n 0, 1) := by decide +kernel
theorem dX11_judge_78 : decode cX11_judge 78 = .ok (.getfield 52, 3) := by decide +kernel
theorem dX11_judge_81 : decode cX11_judge 81 = .ok (.iload_n 1, 1) := by decide +kernel
theorem dX11_judge_82 : decode cX11_judge 82 = .ok (.aaload, 1) := by decide +kernel
theorem dX11_judge_83 : decode cX11_judge 83 = .ok (.iload_n 3, 1) := by decide +kernel
theorem dX11_judge_84 : decode cX11_judge 84 = .ok (.iaload, 1) := by decide +kernel
theorem dX11_judge_85 : decode cX11_judge 85 = .ok (.putfield 150, 3) := by decide +kernel
theorem dX11_judge_88 : decode cX11_judge 88 = .ok (.iinc 3 1, 3) := by decide +kernel
theorem dX11_judge_91 : decode cX11_judge 91 = .ok (.goto (-34), 3) := by decide +kernel
theorem dX11_judge_94 : decode cX11_judge 94 = .ok (.aload_n 0, 1) := by decide +kernel
theorem dX11_judge_95 : decode cX11_judge 95 = .ok (.getfield 10, 3) := by decide +kernel
theorem dX11_judge_98 : decode cX11_judge 98 = .ok (.invokevirtual 260, 3) := by decide +kernel
theorem dX11_judge_101 : decode cX11_judge 101 = .ok (.istore_n 3, 1) := by decide +kernel
theorem dX11_judge_102 : decode cX11_judge 102 = .ok (.aload_n 0, 1) := by decide +kernel
theorem dX11_judge_103 : decode cX11_judge 103 = .ok (.invokevirtual 263, 3) := by decide +kernel
theorem dX11_judge_106 : decode cX11_judge 106 = .ok (.iload_n 3, 1) := by decide +kernel
theorem dX11_judge_107 : decode cX11_judge 107 = .ok (.ireturn, 1) := by decide +kernel
theorem dX11_refusalOfRises_0 : decode cX11_refusalOfRises 0 = .ok (.aload_n 0, 1) := by decide +kernel
theorem dX11_refusalOfRises_1 : decode cX11_refusalOfRises 1 = .ok (.iload_n 1, 1) := by decide +kernel
theorem dX11_refusalOfRises_2 : decode cX11_refusalOfRises 2 = .ok (.invokevirtual 266, 3) := by decide +kernel
theorem dX11_refusalOfRises_5 : decode cX11_refusalOfRises 5 = .ok (.istore_n 2, 1) := by decide +kernel
theorem dX11_refusalOfRises_6 : decode cX11_refusalOfRises 6 = .ok (.iload_n 2, 1) := by decide +kernel
theorem dX11_refusalOfRises_7 : decode cX11_refusalOfRises 7 = .ok (.ifCond .eq 5, 3) := by decide +kernel
theorem dX11_refusalOfRises_10 : decode cX11_refusalOfRises 10 = .ok (.iload_n 2, 1) := by decide +kernel
theorem dX11_refusalOfRises_11 : decode cX11_refusalOfRises 11 = .ok (.ireturn, 1) := by decide +kernel
theorem dX11_refusalOfRises_12 : decode cX11_refusalOfRises 12 = .ok (.aload_n 0, 1) := by decide +kernel
theorem dX11_refusalOfRises_13 : decode cX11_refusalOfRises 13 = .ok (.getfield 59, 3) := by decide +kernel
theorem dX11_refusalOfRises_16 : decode cX11_refusalOfRises 16 = .ok (.iload_n 1, 1) := by decide +kernel
theorem dX11_refusalOfRises_17 : decode cX11_refusalOfRises 17 = .ok (.iaload, 1) := by decide +kernel
theorem dX11_refusalOfRises_18 : decode cX11_refusalOfRises 18 = .ok (.aload_n 0, 1) := by decide +kernel
theorem dX11_refusalOfRises_19 : decode cX11_refusalOfRises 19 = .ok (.getfield 10, 3) := by decide +kernel
theorem dX11_refusalOfRises_22 : decode cX11_refusalOfRises 22 = .ok (.getfield 113, 3) := by decide +kernel
theorem dX11_refusalOfRises_25 : decode cX11_refusalOfRises 25 = .ok (.if_icmp .ne 7, 3) := by decide +kernel
theorem dX11_refusalOfRises_28 : decode cX11_refusalOfRises 28 = .ok (.iconst 0, 1) := by decide +kernel
theorem dX11_refusalOfRises_29 : decode cX11_refusalOfRises 29 = .ok (.goto 5, 3) := by decide +kernel
theorem dX11_refusalOfRises_32 : decode cX11_refusalOfRises 32 = .ok (.bipush (-2), 2) := by decide +kernel
theorem dX11_refusalOfRises_34 : decode cX11_refusalOfRises 34 = .ok (.ireturn, 1) := by decide +kernel
theorem dX11_keepRises_0 : decode cX11_keepRises 0 = .ok (.iconst 0, 1) := by decide +kernel
theorem dX11_keepRises_1 : decode cX11_keepRises 1 = .ok (.istore_n 1, 1) := by decide +kernel
theorem dX11_keepRises_2 : decode cX11_keepRises 2 = .ok (.iload_n 1, 1) := by decide +kernel
theorem dX11_keepRises_3 : decode cX11_keepRises 3 = .ok (.aload_n 0, 1) := by decide +kernel
theorem dX11_keepRises_4 : decode cX11_keepRises 4 = .ok (.getfield 10, 3) := by decide +kernel
theorem dX11_keepRises_7 : decode cX11_keepRises 7 = .ok (.getfield 113, 3) := by decide +kernel
theorem dX11_keepRises_10 : decode cX11_keepRises 10 = .ok (.if_icmp .ge 27, 3) := by decide +kernel
theorem dX11_keepRises_13 : decode cX11_keepRises 13 = .ok (.aload_n 0, 1) := by decide +kernel
theorem dX11_keepRises_14 : decode cX11_keepRises 14 = .ok (.getfield 62, 3) := by decide +kernel
theorem dX11_keepRises_17 : decode cX11_keepRises 17 = .ok (.iload_n 1, 1) := by decide +kernel
theorem dX11_keepRises_18 : decode cX11_keepRises 18 = .ok (.aload_n 0, 1) := by decide +kernel
theorem dX11_keepRises_19 : decode cX11_keepRises 19 = .ok (.getfield 10, 3) := by decide +kernel
theorem dX11_keepRises_22 : decode cX11_keepRises 22 = .ok (.getfield 116, 3) := by decide +kernel
theorem dX11_keepRises_25 : decode cX11_keepRises 25 = .ok (.iload_n 1, 1) := by decide +kernel
theorem dX11_keepRises_26 : decode cX11_keepRises 26 = .ok (.aaload, 1) := by decide +kernel
theorem dX11_keepRises_27 : decode cX11_keepRises 27 = .ok (.getfield 150, 3) := by decide +kernel
theorem dX11_keepRises_30 : decode cX11_keepRises 30 = .ok (.iastore, 1) := by decide +kernel
theorem dX11_keepRises_31 : decode cX11_keepRises 31 = .ok (.iinc 1 1, 3) := by decide +kernel
theorem dX11_keepRises_34 : decode cX11_keepRises 34 = .ok (.goto (-32), 3) := by decide +kernel
theorem dX11_keepRises_37 : decode cX11_keepRises 37 = .ok (.return_, 1) := by decide +kernel
theorem dX11_restoreRises_0 : decode cX11_restoreRises 0 = .ok (.iconst 0, 1) := by decide +kernel
theorem dX11_restoreRises_1 : decode cX11_restoreRises 1 = .ok (.istore_n 1, 1) := by decide +kernel
theorem dX11_restoreRises_2 : decode cX11_restoreRises 2 = .ok (.iload_n 1, 1) := by decide +kernel
theorem dX11_restoreRises_3 : decode cX11_restoreRises 3 = .ok (.aload_n 0, 1) := by decide +kernel
theorem dX11_restoreRises_4 : decode cX11_restoreRises 4 = .ok (.getfield 10, 3) := by decide +kernel
theorem dX11_restoreRises_7 : decode cX11_restoreRises 7 = .ok (.getfield 113, 3) := by decide +kernel
theorem dX11_restoreRises_10 : decode cX11_restoreRises 10 = .ok (.if_icmp .ge 27, 3) := by decide +kernel
theorem dX11_restoreRises_13 : decode cX11_restoreRises 13 = .ok (.aload_n 0, 1) := by decide +kernel
theorem dX11_restoreRises_14 : decode cX11_restoreRises 14 = .ok (.getfield 10, 3) := by decide +kernel
theorem dX11_restoreRises_17 : decode cX11_restoreRises 17 = .ok (.getfield 116, 3) := by decide +kernel
theorem dX11_restoreRises_20 : decode cX11_restoreRises 20 = .ok (.iload_n 1, 1) := by decide +kernel
theorem dX11_restoreRises_21 : decode cX11_restoreRises 21 = .ok (.aaload, 1) := by decide +kernel
theorem dX11_restoreRises_22 : decode cX11_restoreRises 22 = .ok (.aload_n 0, 1) := by decide +kernel
theorem dX11_restoreRises_23 : decode cX11_restoreRises 23 = .ok (.getfield 62, 3) := by decide +kernel
theorem dX11_restoreRises_26 : decode cX11_restoreRises 26 = .ok (.iload_n 1, 1) := by decide +kernel
theorem dX11_restoreRises_27 : decode cX11_restoreRises 27 = .ok (.iaload, 1) := by decide +kernel
theorem dX11_restoreRises_28 : decode cX11_restoreRises 28 = .ok (.putfield 150, 3) := by decide +kernel
theorem dX11_restoreRises_31 : decode cX11_restoreRises 31 = .ok (.iinc 1 1, 3) := by decide +kernel
theorem dX11_restoreRises_34 : decode cX11_restoreRises 34 = .ok (.goto (-32), 3) := by decide +kernel
theorem dX11_restoreRises_37 : decode cX11_restoreRises 37 = .ok (.return_, 1) := by decide +kernel
theorem dX11_chance_0 : decode cX11_chance 0 = .ok (.aload_n 0, 1) := by decide +kernel
theorem dX11_chance_1 : decode cX11_chance 1 = .ok (.getfield 10, 3) := by decide +kernel
theorem dX11_chance_4 : decode cX11_chance 4 = .ok (.iload_n 1, 1) := by decide +kernel
theorem dX11_chance_5 : decode cX11_chance 5 = .ok (.iload_n 2, 1) := by decide +kernel
theorem dX11_chance_6 : decode cX11_chance 6 = .ok (.invokevirtual 156, 3) := by decide +kernel
theorem dX11_chance_9 : decode cX11_chance 9 = .ok (.astore 5, 2) := by decide +kernel
theorem dX11_chance_11 : decode cX11_chance 11 = .ok (.aload 5, 2) := by decide +kernel
theorem dX11_chance_13 : decode cX11_chance 13 = .ok (.ifnull 31, 3) := by decide +kernel
theorem dX11_chance_16 : decode cX11_chance 16 = .ok (.aload_n 0, 1) := by decide +kernel
theorem dX11_chance_17 : decode cX11_chance 17 = .ok (.iload_n 3, 1) := by decide +kernel
theorem dX11_chance_18 : decode cX11_chance 18 = .ok (.invokevirtual 218, 3) := by decide +kernel
theorem dX11_chance_21 : decode cX11_chance 21 = .ok (.ifCond .eq 23, 3) := by decide +kernel
theorem dX11_chance_24 : decode cX11_chance 24 = .ok (.iload 4, 2) := by decide +kernel
theorem dX11_chance_26 : decode cX11_chance 26 = .ok (.iconst 0, 1) := by decide +kernel
theorem dX11_chance_27 : decode cX11_chance 27 = .ok (.iconst 1, 1) := by decide +kernel
theorem dX11_chance_28 : decode cX11_chance 28 = .ok (.invokestatic 100, 3) := by decide +kernel
theorem dX11_chance_31 : decode cX11_chance 31 = .ok (.ifCond .eq 13, 3) := by decide +kernel
theorem dX11_chance_34 : decode cX11_chance 34 = .ok (.aload_n 0, 1) := by decide +kernel
theorem dX11_chance_35 : decode cX11_chance 35 = .ok (.getfield 10, 3) := by decide +kernel
theorem dX11_chance_38 : decode cX11_chance 38 = .ok (.invokevirtual 269, 3) := by decide +kernel
theorem dX11_chance_41 : decode cX11_chance 41 = .ok (.ifCond .ne 7, 3) := by decide +kernel
theorem dX11_chance_44 : decode cX11_chance 44 = .ok (.ldc2_w 272, 3) := by decide +kernel
theorem dX11_chance_47 : decode cX11_chance 47 = .ok (.lreturn, 1) := by decide +kernel
theorem dX11_chance_48 : decode cX11_chance 48 = .ok (.aload_n 0, 1) := by decide +kernel
theorem dX11_chance_49 : decode cX11_chance 49 = .ok (.getfield 10, 3) := by decide +kernel
theorem dX11_chance_52 : decode cX11_chance 52 = .ok (.aload 5, 2) := by decide +kernel
theorem dX11_chance_54 : decode cX11_chance 54 = .ok (.iload_n 2, 1) := by decide +kernel
theorem dX11_chance_55 : decode cX11_chance 55 = .ok (.iload_n 3, 1) := by decide +kernel
theorem dX11_chance_56 : decode cX11_chance 56 = .ok (.aload_n 0, 1) := by decide +kernel
theorem dX11_chance_57 : decode cX11_chance 57 = .ok (.getfield 68, 3) := by decide +kernel
theorem dX11_chance_60 : decode cX11_chance 60 = .ok (.invokevirtual 274, 3) := by decide +kernel
theorem dX11_chance_63 : decode cX11_chance 63 = .ok (.aload_n 0, 1) := by decide +kernel
theorem dX11_chance_64 : decode cX11_chance 64 = .ok (.getfield 68, 3) := by decide +kernel
theorem dX11_chance_67 : decode cX11_chance 67 = .ok (.iload 4, 2) := by decide +kernel
theorem dX11_chance_69 : decode cX11_chance 69 = .ok (.laload, 1) := by decide +kernel
theorem dX11_chance_70 : decode cX11_chance 70 = .ok (.lreturn, 1) := by decide +kernel
theorem dX11_mean_0 : decode cX11_mean 0 = .ok (.aload_n 0, 1) := by decide +kernel
theorem dX11_mean_1 : decode cX11_mean 1 = .ok (.getfield 10, 3) := by decide +kernel
theorem dX11_mean_4 : decode cX11_mean 4 = .ok (.iload_n 1, 1) := by decide +kernel
theorem dX11_mean_5 : decode cX11_mean 5 = .ok (.iload_n 2, 1) := by decide +kernel
theorem dX11_mean_6 : decode cX11_mean 6 = .ok (.invokevirtual 156, 3) := by decide +kernel
theorem dX11_mean_9 : decode cX11_mean 9 = .ok (.astore 4, 2) := by decide +kernel
theorem dX11_mean_11 : decode cX11_mean 11 = .ok (.aload 4, 2) := by decide +kernel
theorem dX11_mean_13 : decode cX11_mean 13 = .ok (.ifnull 22, 3) := by decide +kernel
theorem dX11_mean_16 : decode cX11_mean 16 = .ok (.iload_n 3, 1) := by decide +kernel
theorem dX11_mean_17 : decode cX11_mean 17 = .ok (.iconst 0, 1) := by decide +kernel
theorem dX11_mean_18 : decode cX11_mean 18 = .ok (.iconst 1, 1) := by decide +kernel
theorem dX11_mean_19 : decode cX11_mean 19 = .ok (.invokestatic 100, 3) := by decide +kernel
theorem dX11_mean_22 : decode cX11_mean 22 = .ok (.ifCond .eq 13, 3) := by decide +kernel
theorem dX11_mean_25 : decode cX11_mean 25 = .ok (.aload_n 0, 1) := by decide +kernel
theorem dX11_mean_26 : decode cX11_mean 26 = .ok (.getfield 10, 3) := by decide +kernel
theorem dX11_mean_29 : decode cX11_mean 29 = .ok (.invokevirtual 269, 3) := by decide +kernel
theorem dX11_mean_32 : decode cX11_mean 32 = .ok (.ifCond .ne 7, 3) := by decide +kernel
theorem dX11_mean_35 : decode cX11_mean 35 = .ok (.ldc2_w 272, 3) := by decide +kernel
theorem dX11_mean_38 : decode cX11_mean 38 = .ok (.lreturn, 1) := by decide +kernel
theorem dX11_mean_39 : decode cX11_mean 39 = .ok (.lconst 0, 1) := by decide +kernel
theorem dX11_mean_40 : decode cX11_mean 40 = .ok (.lstore 5, 2) := by decide +kernel
theorem dX11_mean_42 : decode cX11_mean 42 = .ok (.lconst 1, 1) := by decide +kernel
theorem dX11_mean_43 : decode cX11_mean 43 = .ok (.lstore 7, 2) := by decide +kernel
theorem dX11_mean_45 : decode cX11_mean 45 = .ok (.iconst 0, 1) := by decide +kernel
theorem dX11_mean_46 : decode cX11_mean 46 = .ok (.istore 9, 2) := by decide +kernel
theorem dX11_mean_48 : decode cX11_mean 48 = .ok (.iload 9, 2) := by decide +kernel
theorem dX11_mean_50 : decode cX11_mean 50 = .ok (.aload_n 0, 1) := by decide +kernel
theorem dX11_mean_51 : decode cX11_mean 51 = .ok (.getfield 10, 3) := by decide +kernel
theorem dX11_mean_54 : decode cX11_mean 54 = .ok (.getfield 187, 3) := by decide +kernel
theorem dX11_mean_57 : decode cX11_mean 57 = .ok (.if_icmp .ge 103, 3) := by decide +kernel
theorem dX11_mean_60 : decode cX11_mean 60 = .ok (.aload_n 0, 1) := by decide +kernel
theorem dX11_mean_61 : decode cX11_mean 61 = .ok (.getfield 10, 3) := by decide +kernel
theorem dX11_mean_64 : decode cX11_mean 64 = .ok (.aload 4, 2) := by decide +kernel
theorem dX11_mean_66 : decode cX11_mean 66 = .ok (.iload_n 2, 1) := by decide +kernel
theorem dX11_mean_67 : decode cX11_mean 67 = .ok (.iload 9, 2) := by decide +kernel
theorem dX11_mean_69 : decode cX11_mean 69 = .ok (.aload_n 0, 1) := by decide +kernel
theorem dX11_mean_70 : decode cX11_mean 70 = .ok (.getfield 68, 3) := by decide +kernel
theorem dX11_mean_73 : decode cX11_mean 73 = .ok (.invokevirtual 274, 3) := by decide +kernel
theorem dX11_mean_76 : decode cX11_mean 76 = .ok (.aload_n 0, 1) := by decide +kernel
theorem dX11_mean_77 : decode cX11_mean 77 = .ok (.getfield 10, 3) := by decide +kernel
theorem dX11_mean_80 : decode cX11_mean 80 = .ok (.aload 4, 2) := by decide +kernel
theorem dX11_mean_82 : decode cX11_mean 82 = .ok (.iload_n 2, 1) := by decide +kernel
theorem dX11_mean_83 : decode cX11_mean 83 = .ok (.iload 9, 2) := by decide +kernel
theorem dX11_mean_85 : decode cX11_mean 85 = .ok (.invokevirtual 278, 3) := by decide +kernel
theorem dX11_mean_88 : decode cX11_mean 88 = .ok (.i2l, 1) := by decide +kernel
theorem dX11_mean_89 : decode cX11_mean 89 = .ok (.lstore 10, 2) := by decide +kernel
theorem dX11_mean_91 : decode cX11_mean 91 = .ok (.aload_n 0, 1) := by decide +kernel
theorem dX11_mean_92 : decode cX11_mean 92 = .ok (.getfield 68, 3) := by decide +kernel
theorem dX11_mean_95 : decode cX11_mean 95 = .ok (.iconst 1, 1) := by decide +kernel
theorem dX11_mean_96 : decode cX11_mean 96 = .ok (.laload, 1) := by decide +kernel
theorem dX11_mean_97 : decode cX11_mean 97 = .ok (.aload_n 0, 1) := by decide +kernel
theorem dX11_mean_98 : decode cX11_mean 98 = .ok (.getfield 68, 3) := by decide +kernel
theorem dX11_mean_101 : decode cX11_mean 101 = .ok (.iconst 1, 1) := by decide +kernel
theorem dX11_mean_102 : decode cX11_mean 102 = .ok (.laload, 1) := by decide +kernel
theorem dX11_mean_103 : decode cX11_mean 103 = .ok (.lload 7, 2) := by decide +kernel
theorem dX11_mean_105 : decode cX11_mean 105 = .ok (.invokestatic 281, 3) := by decide +kernel
theorem dX11_mean_108 : decode cX11_mean 108 = .ok (.ldiv, 1) := by decide +kernel
theorem dX11_mean_109 : decode cX11_mean 109 = .ok (.lstore 12, 2) := by decide +kernel
theorem dX11_mean_111 : decode cX11_mean 111 = .ok (.lload 7, 2) := by decide +kernel
theorem dX11_mean_113 : decode cX11_mean 113 = .ok (.aload_n 0, 1) := by decide +kernel
theorem dX11_mean_114 : decode cX11_mean 114 = .ok (.getfield 68, 3) := by decide +kernel
theorem dX11_mean_117 : decode cX11_mean 117 = .ok (.iconst 1, 1) := by decide +kernel
theorem dX11_mean_118 : decode cX11_mean 118 = .ok (.laload, 1) := by decide +kernel
theorem dX11_mean_119 : decode cX11_mean 119 = .ok (.lload 7, 2) := by decide +kernel
theorem dX11_mean_121 : decode cX11_mean 121 = .ok (.invokestatic 281, 3) := by decide +kernel
theorem dX11_mean_124 : decode cX11_mean 124 = .ok (.ldiv, 1) := by decide +kernel
theorem dX11_mean_125 : decode cX11_mean 125 = .ok (.lstore 14, 2) := by decide +kernel
theorem dX11_mean_127 : decode cX11_mean 127 = .ok (.lload 5, 2) := by decide +kernel
theorem dX11_mean_129 : decode cX11_mean 129 = .ok (.lload 12, 2) := by decide +kernel
theorem dX11_mean_131 : decode cX11_mean 131 = .ok (.lmul, 1) := by decide +kernel
theorem dX11_mean_132 : decode cX11_mean 132 = .ok (.lload 10, 2) := by decide +kernel
theorem dX11_mean_134 : decode cX11_mean 134 = .ok (.aload_n 0, 1) := by decide +kernel
theorem dX11_mean_135 : decode cX11_mean 135 = .ok (.getfield 68, 3) := by decide +kernel
theorem dX11_mean_138 : decode cX11_mean 138 = .ok (.iconst 0, 1) := by decide +kernel
theorem dX11_mean_139 : decode cX11_mean 139 = .ok (.laload, 1) := by decide +kernel
theorem dX11_mean_140 : decode cX11_mean 140 = .ok (.lmul, 1) := by decide +kernel
theorem dX11_mean_141 : decode cX11_mean 141 = .ok (.lload 14, 2) := by decide +kernel
theorem dX11_mean_143 : decode cX11_mean 143 = .ok (.lmul, 1) := by decide +kernel
theorem dX11_mean_144 : decode cX11_mean 144 = .ok (.ladd, 1) := by decide +kernel
theorem dX11_mean_145 : decode cX11_mean 145 = .ok (.lstore 5, 2) := by decide +kernel
theorem dX11_mean_147 : decode cX11_mean 147 = .ok (.lload 7, 2) := by decide +kernel
theorem dX11_mean_149 : decode cX11_mean 149 = .ok (.lload 12, 2) := by decide +kernel
theorem dX11_mean_151 : decode cX11_mean 151 = .ok (.lmul, 1) := by decide +kernel
theorem dX11_mean_152 : decode cX11_mean 152 = .ok (.lstore 7, 2) := by decide +kernel
theorem dX11_mean_154 : decode cX11_mean 154 = .ok (.iinc 9 1, 3) := by decide +kernel
theorem dX11_mean_157 : decode cX11_mean 157 = .ok (.goto (-109), 3) := by decide +kernel
theorem dX11_mean_160 : decode cX11_mean 160 = .ok (.lload 5, 2) := by decide +kernel
theorem dX11_mean_162 : decode cX11_mean 162 = .ok (.lload 7, 2) := by decide +kernel
theorem dX11_mean_164 : decode cX11_mean 164 = .ok (.aload_n 0, 1) := by decide +kernel
theorem dX11_mean_165 : decode cX11_mean 165 = .ok (.getfield 68, 3) := by decide +kernel
theorem dX11_mean_168 : decode cX11_mean 168 = .ok (.invokestatic 285, 3) := by decide +kernel
theorem dX11_mean_171 : decode cX11_mean 171 = .ok (.aload_n 0, 1) := by decide +kernel
theorem dX11_mean_172 : decode cX11_mean 172 = .ok (.getfield 68, 3) := by decide +kernel
theorem dX11_mean_175 : decode cX11_mean 175 = .ok (.iload_n 3, 1) := by decide +kernel
theorem dX11_mean_176 : decode cX11_mean 176 = .ok (.laload, 1) := by decide +kernel
theorem dX11_mean_177 : decode cX11_mean 177 = .ok (.lreturn, 1) := by decide +kernel
theorem dX11_tall_0 : decode cX11_tall 0 = .ok (.iload_n 1, 1) := by decide +kernel
theorem dX11_tall_1 : decode cX11_tall 1 = .ok (.invokestatic 96, 3) := by decide +kernel
theorem dX11_tall_4 : decode cX11_tall 4 = .ok (.ifCond .ne 6, 3) := by decide +kernel
theorem dX11_tall_7 : decode cX11_tall 7 = .ok (.bipush (-2), 2) := by decide +kernel
theorem dX11_tall_9 : decode cX11_tall 9 = .ok (.ireturn, 1) := by decide +kernel
theorem dX11_tall_10 : decode cX11_tall 10 = .ok (.aload_n 0, 1) := by decide +kernel
theorem dX11_tall_11 : decode cX11_tall 11 = .ok (.getfield 10, 3) := by decide +kernel
theorem dX11_tall_14 : decode cX11_tall 14 = .ok (.iload_n 1, 1) := by decide +kernel
theorem dX11_tall_15 : decode cX11_tall 15 = .ok (.putfield 289, 3) := by decide +kernel
theorem dX11_tall_18 : decode cX11_tall 18 = .ok (.aload_n 0, 1) := by decide +kernel
theorem dX11_tall_19 : decode cX11_tall 19 = .ok (.getfield 10, 3) := by decide +kernel
theorem dX11_tall_22 : decode cX11_tall 22 = .ok (.invokevirtual 237, 3) := by decide +kernel
theorem dX11_tall_25 : decode cX11_tall 25 = .ok (.istore_n 2, 1) := by decide +kernel
theorem dX11_tall_26 : decode cX11_tall 26 = .ok (.aload_n 0, 1) := by decide +kernel
theorem dX11_tall_27 : decode cX11_tall 27 = .ok (.getfield 10, 3) := by decide +kernel
theorem dX11_tall_30 : decode cX11_tall 30 = .ok (.iconst (-1), 1) := by decide +kernel
theorem dX11_tall_31 : decode cX11_tall 31 = .ok (.putfield 289, 3) := by decide +kernel
theorem dX11_tall_34 : decode cX11_tall 34 = .ok (.iload_n 2, 1) := by decide +kernel
theorem dX11_tall_35 : decode cX11_tall 35 = .ok (.ireturn, 1) := by decide +kernel
theorem dX11_commonDivisor_0 : decode cX11_commonDivisor 0 = .ok (.lload_n 0, 1) := by decide +kernel
theorem dX11_commonDivisor_1 : decode cX11_commonDivisor 1 = .ok (.lstore 4, 2) := by decide +kernel
theorem dX11_commonDivisor_3 : decode cX11_commonDivisor 3 = .ok (.lload_n 2, 1) := by decide +kernel
theorem dX11_commonDivisor_4 : decode cX11_commonDivisor 4 = .ok (.lstore 6, 2) := by decide +kernel
theorem dX11_commonDivisor_6 : decode cX11_commonDivisor 6 = .ok (.iconst 0, 1) := by decide +kernel
theorem dX11_commonDivisor_7 : decode cX11_commonDivisor 7 = .ok (.istore 8, 2) := by decide +kernel
theorem dX11_commonDivisor_9 : decode cX11_commonDivisor 9 = .ok (.iload 8, 2) := by decide +kernel
theorem dX11_commonDivisor_11 : decode cX11_commonDivisor 11 = .ok (.sipush 200, 3) := by decide +kernel
theorem dX11_commonDivisor_14 : decode cX11_commonDivisor 14 = .ok (.if_icmp .ge 31, 3) := by decide +kernel
theorem dX11_commonDivisor_17 : decode cX11_commonDivisor 17 = .ok (.lload 6, 2) := by decide +kernel
theorem dX11_commonDivisor_19 : decode cX11_commonDivisor 19 = .ok (.lconst 0, 1) := by decide +kernel
theorem dX11_commonDivisor_20 : decode cX11_commonDivisor 20 = .ok (.lcmp, 1) := by decide +kernel
theorem dX11_commonDivisor_21 : decode cX11_commonDivisor 21 = .ok (.ifCond .eq 24, 3) := by decide +kernel
theorem dX11_commonDivisor_24 : decode cX11_commonDivisor 24 = .ok (.lload 4, 2) := by decide +kernel
theorem dX11_commonDivisor_26 : decode cX11_commonDivisor 26 = .ok (.lload 6, 2) := by decide +kernel
theorem dX11_commonDivisor_28 : decode cX11_commonDivisor 28 = .ok (.lrem, 1) := by decide +kernel
theorem dX11_commonDivisor_29 : decode cX11_commonDivisor 29 = .ok (.lstore 9, 2) := by decide +kernel
theorem dX11_commonDivisor_31 : decode cX11_commonDivisor 31 = .ok (.lload 6, 2) := by decide +kernel
theorem dX11_commonDivisor_33 : decode cX11_commonDivisor 33 = .ok (.lstore 4, 2) := by decide +kernel
theorem dX11_commonDivisor_35 : decode cX11_commonDivisor 35 = .ok (.lload 9, 2) := by decide +kernel
theorem dX11_commonDivisor_37 : decode cX11_commonDivisor 37 = .ok (.lstore 6, 2) := by decide +kernel
theorem dX11_commonDivisor_39 : decode cX11_commonDivisor 39 = .ok (.iinc 8 1, 3) := by decide +kernel
theorem dX11_commonDivisor_42 : decode cX11_commonDivisor 42 = .ok (.goto (-33), 3) := by decide +kernel
theorem dX11_commonDivisor_45 : decode cX11_commonDivisor 45 = .ok (.lconst 1, 1) := by decide +kernel
theorem dX11_commonDivisor_46 : decode cX11_commonDivisor 46 = .ok (.lload 4, 2) := by decide +kernel
theorem dX11_commonDivisor_48 : decode cX11_commonDivisor 48 = .ok (.invokestatic 292, 3) := by decide +kernel
theorem dX11_commonDivisor_51 : decode cX11_commonDivisor 51 = .ok (.lreturn, 1) := by decide +kernel
theorem dX11_reduce_0 : decode cX11_reduce 0 = .ok (.lload_n 0, 1) := by decide +kernel
theorem dX11_reduce_1 : decode cX11_reduce 1 = .ok (.lload_n 2, 1) := by decide +kernel
theorem dX11_reduce_2 : decode cX11_reduce 2 = .ok (.invokestatic 281, 3) := by decide +kernel
theorem dX11_reduce_5 : decode cX11_reduce 5 = .ok (.lstore 5, 2) := by decide +kernel
theorem dX11_reduce_7 : decode cX11_reduce 7 = .ok (.aload 4, 2) := by decide +kernel
theorem dX11_reduce_9 : decode cX11_reduce 9 = .ok (.iconst 0, 1) := by decide +kernel
theorem dX11_reduce_10 : decode cX11_reduce 10 = .ok (.lload_n 0, 1) := by decide +kernel
theorem dX11_reduce_11 : decode cX11_reduce 11 = .ok (.lload 5, 2) := by decide +kernel
theorem dX11_reduce_13 : decode cX11_reduce 13 = .ok (.ldiv, 1) := by decide +kernel
theorem dX11_reduce_14 : decode cX11_reduce 14 = .ok (.lastore, 1) := by decide +kernel
theorem dX11_reduce_15 : decode cX11_reduce 15 = .ok (.aload 4, 2) := by decide +kernel
theorem dX11_reduce_17 : decode cX11_reduce 17 = .ok (.iconst 1, 1) := by decide +kernel
theorem dX11_reduce_18 : decode cX11_reduce 18 = .ok (.lload_n 2, 1) := by decide +kernel
theorem dX11_reduce_19 : decode cX11_reduce 19 = .ok (.lload 5, 2) := by decide +kernel
theorem dX11_reduce_21 : decode cX11_reduce 21 = .ok (.ldiv, 1) := by decide +kernel
theorem dX11_reduce_22 : decode cX11_reduce 22 = .ok (.lastore, 1) := by decide +kernel
theorem dX11_reduce_23 : decode cX11_reduce 23 = .ok (.return_, 1) := by decide +kernel
theorem dX11_needs_0 : decode cX11_needs 0 = .ok (.aload_n 0, 1) := by decide +kernel
theorem dX11_needs_1 : decode cX11_needs 1 = .ok (.getfield 10, 3) := by decide +kernel
theorem dX11_needs_4 : decode cX11_needs 4 = .ok (.iload_n 1, 1) := by decide +kernel
theorem dX11_needs_5 : decode cX11_needs 5 = .ok (.invokevirtual 146, 3) := by decide +kernel
theorem dX11_needs_8 : decode cX11_needs 8 = .ok (.astore_n 2, 1) := by decide +kernel
theorem dX11_needs_9 : decode cX11_needs 9 = .ok (.aload_n 2, 1) := by decide +kernel
theorem dX11_needs_10 : decode cX11_needs 10 = .ok (.ifnonnull 8, 3) := by decide +kernel
theorem dX11_needs_13 : decode cX11_needs 13 = .ok (.bipush (-5), 2) := by decide +kernel
theorem dX11_needs_15 : decode cX11_needs 15 = .ok (.goto 12, 3) := by decide +kernel
theorem dX11_needs_18 : decode cX11_needs 18 = .ok (.aload_n 0, 1) := by decide +kernel
theorem dX11_needs_19 : decode cX11_needs 19 = .ok (.getfield 10, 3) := by decide +kernel
theorem dX11_needs_22 : decode cX11_needs 22 = .ok (.aload_n 2, 1) := by decide +kernel
theorem dX11_needs_23 : decode cX11_needs 23 = .ok (.iconst 0, 1) := by decide +kernel
theorem dX11_needs_24 : decode cX11_needs 24 = .ok (.invokevirtual 295, 3) := by decide +kernel
theorem dX11_needs_27 : decode cX11_needs 27 = .ok (.ireturn, 1) := by decide +kernel
theorem dX11_proof_0 : decode cX11_proof 0 = .ok (.aload_n 0, 1) := by decide +kernel
theorem dX11_proof_1 : decode cX11_proof 1 = .ok (.getfield 10, 3) := by decide +kernel
theorem dX11_proof_4 : decode cX11_proof 4 = .ok (.iload_n 1, 1) := by decide +kernel
theorem dX11_proof_5 : decode cX11_proof 5 = .ok (.invokevirtual 146, 3) := by decide +kernel
theorem dX11_proof_8 : decode cX11_proof 8 = .ok (.ifnonnull 6, 3) := by decide +kernel
theorem dX11_proof_11 : decode cX11_proof 11 = .ok (.bipush (-5), 2) := by decide +kernel
theorem dX11_proof_13 : decode cX11_proof 13 = .ok (.ireturn, 1) := by decide +kernel
theorem dX11_proof_14 : decode cX11_proof 14 = .ok (.aload_n 0, 1) := by decide +kernel
theorem dX11_proof_15 : decode cX11_proof 15 = .ok (.invokevirtual 257, 3) := by decide +kernel
theorem dX11_proof_18 : decode cX11_proof 18 = .ok (.iconst 0, 1) := by decide +kernel
theorem dX11_proof_19 : decode cX11_proof 19 = .ok (.istore_n 2, 1) := by decide +kernel
theorem dX11_proof_20 : decode cX11_proof 20 = .ok (.iconst 0, 1) := by decide +kernel
theorem dX11_proof_21 : decode cX11_proof 21 = .ok (.istore_n 3, 1) := by decide +kernel
theorem dX11_proof_22 : decode cX11_proof 22 = .ok (.iload_n 3, 1) := by decide +kernel
theorem dX11_proof_23 : decode cX11_proof 23 = .ok (.iload_n 1, 1) := by decide +kernel
theorem dX11_proof_24 : decode cX11_proof 24 = .ok (.if_icmp .gt 45, 3) := by decide +kernel
theorem dX11_proof_27 : decode cX11_proof 27 = .ok (.iload_n 2, 1) := by decide +kernel
theorem dX11_proof_28 : decode cX11_proof 28 = .ok (.iconst (-1), 1) := by decide +kernel
theorem dX11_proof_29 : decode cX11_proof 29 = .ok (.if_icmp .eq 40, 3) := by decide +kernel
theorem dX11_proof_32 : decode cX11_proof 32 = .ok (.aload_n 0, 1) := by decide +kernel
theorem dX11_proof_33 : decode cX11_proof 33 = .ok (.getfield 10, 3) := by decide +kernel
theorem dX11_proof_36 : decode cX11_proof 36 = .ok (.aload_n 0, 1) := by decide +kernel
theorem dX11_proof_37 : decode cX11_proof 37 = .ok (.getfield 10, 3) := by decide +kernel
theorem dX11_proof_40 : decode cX11_proof 40 = .ok (.getfield 116, 3) := by decide +kernel
theorem dX11_proof_43 : decode cX11_proof 43 = .ok (.iload_n 3, 1) := by decide +kernel
theorem dX11_proof_44 : decode cX11_proof 44 = .ok (.aaload, 1) := by decide +kernel
theorem dX11_proof_45 : decode cX11_proof 45 = .ok (.iload_n 2, 1) := by decide +kernel
theorem dX11_proof_46 : decode cX11_proof 46 = .ok (.invokevirtual 295, 3) := by decide +kernel
theorem dX11_proof_49 : decode cX11_proof 49 = .ok (.istore_n 2, 1) := by decide +kernel
theorem dX11_proof_50 : decode cX11_proof 50 = .ok (.aload_n 0, 1) := by decide +kernel
theorem dX11_proof_51 : decode cX11_proof 51 = .ok (.getfield 10, 3) := by decide +kernel
theorem dX11_proof_54 : decode cX11_proof 54 = .ok (.getfield 116, 3) := by decide +kernel
theorem dX11_proof_57 : decode cX11_proof 57 = .ok (.iload_n 3, 1) := by decide +kernel
theorem dX11_proof_58 : decode cX11_proof 58 = .ok (.aaload, 1) := by decide +kernel
theorem dX11_proof_59 : decode cX11_proof 59 = .ok (.iload_n 2, 1) := by decide +kernel
theorem dX11_proof_60 : decode cX11_proof 60 = .ok (.putfield 150, 3) := by decide +kernel
theorem dX11_proof_63 : decode cX11_proof 63 = .ok (.iinc 3 1, 3) := by decide +kernel
theorem dX11_proof_66 : decode cX11_proof 66 = .ok (.goto (-44), 3) := by decide +kernel
theorem dX11_proof_69 : decode cX11_proof 69 = .ok (.aload_n 0, 1) := by decide +kernel
theorem dX11_proof_70 : decode cX11_proof 70 = .ok (.invokevirtual 263, 3) := by decide +kernel
theorem dX11_proof_73 : decode cX11_proof 73 = .ok (.iload_n 2, 1) := by decide +kernel
theorem dX11_proof_74 : decode cX11_proof 74 = .ok (.ireturn, 1) := by decide +kernel
theorem dX11_shifts_0 : decode cX11_shifts 0 = .ok (.iload_n 1, 1) := by decide +kernel
theorem dX11_shifts_1 : decode cX11_shifts 1 = .ok (.iconst 0, 1) := by decide +kernel
theorem dX11_shifts_2 : decode cX11_shifts 2 = .ok (.iconst 1, 1) := by decide +kernel
theorem dX11_shifts_3 : decode cX11_shifts 3 = .ok (.invokestatic 100, 3) := by decide +kernel
theorem dX11_shifts_6 : decode cX11_shifts 6 = .ok (.ifCond .ne 6, 3) := by decide +kernel
theorem dX11_shifts_9 : decode cX11_shifts 9 = .ok (.bipush (-2), 2) := by decide +kernel
theorem dX11_shifts_11 : decode cX11_shifts 11 = .ok (.ireturn, 1) := by decide +kernel
theorem dX11_shifts_12 : decode cX11_shifts 12 = .ok (.aload_n 0, 1) := by decide +kernel
theorem dX11_shifts_13 : decode cX11_shifts 13 = .ok (.getfield 10, 3) := by decide +kernel
theorem dX11_shifts_16 : decode cX11_shifts 16 = .ok (.invokevirtual 298, 3) := by decide +kernel
theorem dX11_shifts_19 : decode cX11_shifts 19 = .ok (.istore_n 2, 1) := by decide +kernel
theorem dX11_shifts_20 : decode cX11_shifts 20 = .ok (.iconst 0, 1) := by decide +kernel
theorem dX11_shifts_21 : decode cX11_shifts 21 = .ok (.istore_n 3, 1) := by decide +kernel
theorem dX11_shifts_22 : decode cX11_shifts 22 = .ok (.iconst (-1), 1) := by decide +kernel
theorem dX11_shifts_23 : decode cX11_shifts 23 = .ok (.istore 4, 2) := by decide +kernel
theorem dX11_shifts_25 : decode cX11_shifts 25 = .ok (.iconst 0, 1) := by decide +kernel
theorem dX11_shifts_26 : decode cX11_shifts 26 = .ok (.istore 5, 2) := by decide +kernel
theorem dX11_shifts_28 : decode cX11_shifts 28 = .ok (.iload 5, 2) := by decide +kernel
theorem dX11_shifts_30 : decode cX11_shifts 30 = .ok (.iconst 1, 1) := by decide +kernel
theorem dX11_shifts_31 : decode cX11_shifts 31 = .ok (.aload_n 0, 1) := by decide +kernel
theorem dX11_shifts_32 : decode cX11_shifts 32 = .ok (.getfield 10, 3) := by decide +kernel
theorem dX11_shifts_35 : decode cX11_shifts 35 = .ok (.getfield 113, 3) := by decide +kernel
theorem dX11_shifts_38 : decode cX11_shifts 38 = .ok (.ishl, 1) := by decide +kernel
theorem dX11_shifts_39 : decode cX11_shifts 39 = .ok (.if_icmp .ge 41, 3) := by decide +kernel
theorem dX11_shifts_42 : decode cX11_shifts 42 = .ok (.aload_n 0, 1) := by decide +kernel
theorem dX11_shifts_43 : decode cX11_shifts 43 = .ok (.getfield 10, 3) := by decide +kernel
theorem dX11_shifts_46 : decode cX11_shifts 46 = .ok (.iload 5, 2) := by decide +kernel
theorem dX11_shifts_48 : decode cX11_shifts 48 = .ok (.invokevirtual 301, 3) := by decide +kernel
theorem dX11_shifts_51 : decode cX11_shifts 51 = .ok (.aload_n 0, 1) := by decide +kernel
theorem dX11_shifts_52 : decode cX11_shifts 52 = .ok (.getfield 10, 3) := by decide +kernel
theorem dX11_shifts_55 : decode cX11_shifts 55 = .ok (.invokevirtual 237, 3) := by decide +kernel
theorem dX11_shifts_58 : decode cX11_shifts 58 = .ok (.istore 6, 2) := by decide +kernel
theorem dX11_shifts_60 : decode cX11_shifts 60 = .ok (.iload 6, 2) := by decide +kernel
theorem dX11_shifts_62 : decode cX11_shifts 62 = .ok (.iload 4, 2) := by decide +kernel
theorem dX11_shifts_64 : decode cX11_shifts 64 = .ok (.if_icmp .le 10, 3) := by decide +kernel
theorem dX11_shifts_67 : decode cX11_shifts 67 = .ok (.iload 6, 2) := by decide +kernel
theorem dX11_shifts_69 : decode cX11_shifts 69 = .ok (.istore 4, 2) := by decide +kernel
theorem dX11_shifts_71 : decode cX11_shifts 71 = .ok (.iload 5, 2) := by decide +kernel
theorem dX11_shifts_73 : decode cX11_shifts 73 = .ok (.istore_n 3, 1) := by decide +kernel
theorem dX11_shifts_74 : decode cX11_shifts 74 = .ok (.iinc 5 1, 3) := by decide +kernel
theorem dX11_shifts_77 : decode cX11_shifts 77 = .ok (.goto (-49), 3) := by decide +kernel
theorem dX11_shifts_80 : decode cX11_shifts 80 = .ok (.aload_n 0, 1) := by decide +kernel
theorem dX11_shifts_81 : decode cX11_shifts 81 = .ok (.getfield 10, 3) := by decide +kernel
theorem dX11_shifts_84 : decode cX11_shifts 84 = .ok (.iload_n 2, 1) := by decide +kernel
theorem dX11_shifts_85 : decode cX11_shifts 85 = .ok (.invokevirtual 301, 3) := by decide +kernel
theorem dX11_shifts_88 : decode cX11_shifts 88 = .ok (.iload_n 1, 1) := by decide +kernel
theorem dX11_shifts_89 : decode cX11_shifts 89 = .ok (.ifCond .ne 7, 3) := by decide +kernel
theorem dX11_shifts_92 : decode cX11_shifts 92 = .ok (.iload_n 3, 1) := by decide +kernel
theorem dX11_shifts_93 : decode cX11_shifts 93 = .ok (.goto 5, 3) := by decide +kernel
theorem dX11_shifts_96 : decode cX11_shifts 96 = .ok (.iload 4, 2) := by decide +kernel
theorem dX11_shifts_98 : decode cX11_shifts 98 = .ok (.ireturn, 1) := by decide +kernel
theorem dX11_coin_0 : decode cX11_coin 0 = .ok (.iload_n 1, 1) := by decide +kernel
theorem dX11_coin_1 : decode cX11_coin 1 = .ok (.iconst 0, 1) := by decide +kernel
theorem dX11_coin_2 : decode cX11_coin 2 = .ok (.ldc_w 305, 3) := by decide +kernel
theorem dX11_coin_5 : decode cX11_coin 5 = .ok (.invokestatic 100, 3) := by decide +kernel
theorem dX11_coin_8 : decode cX11_coin 8 = .ok (.ifCond .eq 12, 3) := by decide +kernel
theorem dX11_coin_11 : decode cX11_coin 11 = .ok (.iload_n 2, 1) := by decide +kernel
theorem dX11_coin_12 : decode cX11_coin 12 = .ok (.iconst 0, 1) := by decide +kernel
theorem dX11_coin_13 : decode cX11_coin 13 = .ok (.iconst 1, 1) := by decide +kernel
theorem dX11_coin_14 : decode cX11_coin 14 = .ok (.invokestatic 100, 3) := by decide +kernel
theorem dX11_coin_17 : decode cX11_coin 17 = .ok (.ifCond .ne 6, 3) := by decide +kernel
theorem dX11_coin_20 : decode cX11_coin 20 = .ok (.bipush (-2), 2) := by decide +kernel
theorem dX11_coin_22 : decode cX11_coin 22 = .ok (.ireturn, 1) := by decide +kernel
theorem dX11_coin_23 : decode cX11_coin 23 = .ok (.iconst 4, 1) := by decide +kernel
theorem dX11_coin_24 : decode cX11_coin 24 = .ok (.aload_n 0, 1) := by decide +kernel
theorem dX11_coin_25 : decode cX11_coin 25 = .ok (.getfield 10, 3) := by decide +kernel
theorem dX11_coin_28 : decode cX11_coin 28 = .ok (.getfield 113, 3) := by decide +kernel
theorem dX11_coin_31 : decode cX11_coin 31 = .ok (.invokestatic 306, 3) := by decide +kernel
theorem dX11_coin_34 : decode cX11_coin 34 = .ok (.istore_n 3, 1) := by decide +kernel
theorem dX11_coin_35 : decode cX11_coin 35 = .ok (.iconst 1, 1) := by decide +kernel
theorem dX11_coin_36 : decode cX11_coin 36 = .ok (.istore 4, 2) := by decide +kernel
theorem dX11_coin_38 : decode cX11_coin 38 = .ok (.iconst 0, 1) := by decide +kernel
theorem dX11_coin_39 : decode cX11_coin 39 = .ok (.istore 5, 2) := by decide +kernel
theorem dX11_coin_41 : decode cX11_coin 41 = .ok (.iload 5, 2) := by decide +kernel
theorem dX11_coin_43 : decode cX11_coin 43 = .ok (.iload_n 3, 1) := by decide +kernel
theorem dX11_coin_44 : decode cX11_coin 44 = .ok (.if_icmp .ge 15, 3) := by decide +kernel
theorem dX11_coin_47 : decode cX11_coin 47 = .ok (.iload 4, 2) := by decide +kernel
theorem dX11_coin_49 : decode cX11_coin 49 = .ok (.iconst 3, 1) := by decide +kernel
theorem dX11_coin_50 : decode cX11_coin 50 = .ok (.imul, 1) := by decide +kernel
theorem dX11_coin_51 : decode cX11_coin 51 = .ok (.istore 4, 2) := by decide +kernel
theorem dX11_coin_53 : decode cX11_coin 53 = .ok (.iinc 5 1, 3) := by decide +kernel
theorem dX11_coin_56 : decode cX11_coin 56 = .ok (.goto (-15), 3) := by decide +kernel
theorem dX11_coin_59 : decode cX11_coin 59 = .ok (.iconst (-1), 1) := by decide +kernel
theorem dX11_coin_60 : decode cX11_coin 60 = .ok (.istore 5, 2) := by decide +kernel
theorem dX11_coin_62 : decode cX11_coin 62 = .ok (.iconst (-1), 1) := by decide +kernel
theorem dX11_coin_63 : decode cX11_coin 63 = .ok (.istore 6, 2) := by decide +kernel
theorem dX11_coin_65 : decode cX11_coin 65 = .ok (.aload_n 0, 1) := by decide +kernel
theorem dX11_coin_66 : decode cX11_coin 66 = .ok (.invokevirtual 257, 3) := by decide +kernel
theorem dX11_coin_69 : decode cX11_coin 69 = .ok (.iconst 0, 1) := by decide +kernel
theorem dX11_coin_70 : decode cX11_coin 70 = .ok (.istore 7, 2) := by decide +kernel
theorem dX11_coin_72 : decode cX11_coin 72 = .ok (.iload 7, 2) := by decide +kernel
theorem dX11_coin_74 : decode cX11_coin 74 = .ok (.iload 4, 2) := by decide +kernel
theorem dX11_coin_76 : decode cX11_coin 76 = .ok (.if_icmp .ge 57, 3) := by decide +kernel
theorem dX11_coin_79 : decode cX11_coin 79 = .ok (.aload_n 0, 1) := by decide +kernel
theorem dX11_coin_80 : decode cX11_coin 80 = .ok (.iload_n 3, 1) := by decide +kernel
theorem dX11_coin_81 : decode cX11_coin 81 = .ok (.iload 7, 2) := by decide +kernel
theorem dX11_coin_83 : decode cX11_coin 83 = .ok (.invokevirtual 310, 3) := by decide +kernel
theorem dX11_coin_86 : decode cX11_coin 86 = .ok (.istore 8, 2) := by decide +kernel
theorem dX11_coin_88 : decode cX11_coin 88 = .ok (.aload_n 0, 1) := by decide +kernel
theorem dX11_coin_89 : decode cX11_coin 89 = .ok (.getfield 10, 3) := by decide +kernel
theorem dX11_coin_92 : decode cX11_coin 92 = .ok (.invokevirtual 243, 3) := by decide +kernel
theorem dX11_coin_95 : decode cX11_coin 95 = .ok (.iload_n 1, 1) := by decide +kernel
theorem dX11_coin_96 : decode cX11_coin 96 = .ok (.if_icmp .gt 13, 3) := by decide +kernel
theorem dX11_coin_99 : decode cX11_coin 99 = .ok (.aload_n 0, 1) := by decide +kernel
theorem dX11_coin_100 : decode cX11_coin 100 = .ok (.getfield 10, 3) := by decide +kernel
theorem dX11_coin_103 : decode cX11_coin 103 = .ok (.invokevirtual 237, 3) := by decide +kernel
theorem dX11_coin_106 : decode cX11_coin 106 = .ok (.goto 4, 3) := by decide +kernel
theorem dX11_coin_109 : decode cX11_coin 109 = .ok (.iconst (-1), 1) := by decide +kernel
theorem dX11_coin_110 : decode cX11_coin 110 = .ok (.istore 9, 2) := by decide +kernel
theorem dX11_coin_112 : decode cX11_coin 112 = .ok (.iload 9, 2) := by decide +kernel
theorem dX11_coin_114 : decode cX11_coin 114 = .ok (.iload 6, 2) := by decide +kernel
theorem dX11_coin_116 : decode cX11_coin 116 = .ok (.if_icmp .le 11, 3) := by decide +kernel
theorem dX11_coin_119 : decode cX11_coin 119 = .ok (.iload 9, 2) := by decide +kernel
theorem dX11_coin_121 : decode cX11_coin 121 = .ok (.istore 6, 2) := by decide +kernel
theorem dX11_coin_123 : decode cX11_coin 123 = .ok (.iload 8, 2) := by decide +kernel
theorem dX11_coin_125 : decode cX11_coin 125 = .ok (.istore 5, 2) := by decide +kernel
theorem dX11_coin_127 : decode cX11_coin 127 = .ok (.iinc 7 1, 3) := by decide +kernel
theorem dX11_coin_130 : decode cX11_coin 130 = .ok (.goto (-58), 3) := by decide +kernel
theorem dX11_coin_133 : decode cX11_coin 133 = .ok (.aload_n 0, 1) := by decide +kernel
theorem dX11_coin_134 : decode cX11_coin 134 = .ok (.invokevirtual 263, 3) := by decide +kernel
theorem dX11_coin_137 : decode cX11_coin 137 = .ok (.iload_n 2, 1) := by decide +kernel
theorem dX11_coin_138 : decode cX11_coin 138 = .ok (.ifCond .ne 8, 3) := by decide +kernel
theorem dX11_coin_141 : decode cX11_coin 141 = .ok (.iload 5, 2) := by decide +kernel
theorem dX11_coin_143 : decode cX11_coin 143 = .ok (.goto 5, 3) := by decide +kernel
theorem dX11_coin_146 : decode cX11_coin 146 = .ok (.iload 6, 2) := by decide +kernel
theorem dX11_coin_148 : decode cX11_coin 148 = .ok (.ireturn, 1) := by decide +kernel
theorem dX11_buildFloors_0 : decode cX11_buildFloors 0 = .ok (.iload_n 2, 1) := by decide +kernel
theorem dX11_buildFloors_1 : decode cX11_buildFloors 1 = .ok (.istore_n 3, 1) := by decide +kernel
theorem dX11_buildFloors_2 : decode cX11_buildFloors 2 = .ok (.iconst 0, 1) := by decide +kernel
theorem dX11_buildFloors_3 : decode cX11_buildFloors 3 = .ok (.istore 4, 2) := by decide +kernel
theorem dX11_buildFloors_5 : decode cX11_buildFloors 5 = .ok (.iconst 1, 1) := by decide +kernel
theorem dX11_buildFloors_6 : decode cX11_buildFloors 6 = .ok (.istore 5, 2) := by decide +kernel
theorem dX11_buildFloors_8 : decode cX11_buildFloors 8 = .ok (.iload_n 1, 1) := by decide +kernel
theorem dX11_buildFloors_9 : decode cX11_buildFloors 9 = .ok (.iconst 1, 1) := by decide +kernel
theorem dX11_buildFloors_10 : decode cX11_buildFloors 10 = .ok (.isub, 1) := by decide +kernel
theorem dX11_buildFloors_11 : decode cX11_buildFloors 11 = .ok (.istore 6, 2) := by decide +kernel
theorem dX11_buildFloors_13 : decode cX11_buildFloors 13 = .ok (.iload 6, 2) := by decide +kernel
theorem dX11_buildFloors_15 : decode cX11_buildFloors 15 = .ok (.ifCond .lt 53, 3) := by decide +kernel
theorem dX11_buildFloors_18 : decode cX11_buildFloors 18 = .ok (.iload_n 3, 1) := by decide +kernel
theorem dX11_buildFloors_19 : decode cX11_buildFloors 19 = .ok (.iconst 3, 1) := by decide +kernel
theorem dX11_buildFloors_20 : decode cX11_buildFloors 20 = .ok (.irem, 1) := by decide +kernel
theorem dX11_buildFloors_21 : decode cX11_buildFloors 21 = .ok (.istore 7, 2) := by decide +kernel
theorem dX11_buildFloors_23 : decode cX11_buildFloors 23 = .ok (.iload_n 3, 1) := by decide +kernel
theorem dX11_buildFloors_24 : decode cX11_buildFloors 24 = .ok (.iconst 3, 1) := by decide +kernel
theorem dX11_buildFloors_25 : decode cX11_buildFloors 25 = .ok (.idiv, 1) := by decide +kernel
theorem dX11_buildFloors_26 : decode cX11_buildFloors 26 = .ok (.istore_n 3, 1) := by decide +kernel
theorem dX11_buildFloors_27 : decode cX11_buildFloors 27 = .ok (.aload_n 0, 1) := by decide +kernel
theorem dX11_buildFloors_28 : decode cX11_buildFloors 28 = .ok (.getfield 10, 3) := by decide +kernel
theorem dX11_buildFloors_31 : decode cX11_buildFloors 31 = .ok (.getfield 116, 3) := by decide +kernel
theorem dX11_buildFloors_34 : decode cX11_buildFloors 34 = .ok (.iload 6, 2) := by decide +kernel
theorem dX11_buildFloors_36 : decode cX11_buildFloors 36 = .ok (.aaload, 1) := by decide +kernel
theorem dX11_buildFloors_37 : decode cX11_buildFloors 37 = .ok (.bipush 6, 2) := by decide +kernel
theorem dX11_buildFloors_39 : decode cX11_buildFloors 39 = .ok (.iload 7, 2) := by decide +kernel
theorem dX11_buildFloors_41 : decode cX11_buildFloors 41 = .ok (.imul, 1) := by decide +kernel
theorem dX11_buildFloors_42 : decode cX11_buildFloors 42 = .ok (.putfield 150, 3) := by decide +kernel
theorem dX11_buildFloors_45 : decode cX11_buildFloors 45 = .ok (.iload 4, 2) := by decide +kernel
theorem dX11_buildFloors_47 : decode cX11_buildFloors 47 = .ok (.iload 5, 2) := by decide +kernel
theorem dX11_buildFloors_49 : decode cX11_buildFloors 49 = .ok (.iload 7, 2) := by decide +kernel
theorem dX11_buildFloors_51 : decode cX11_buildFloors 51 = .ok (.imul, 1) := by decide +kernel
theorem dX11_buildFloors_52 : decode cX11_buildFloors 52 = .ok (.iadd, 1) := by decide +kernel
theorem dX11_buildFloors_53 : decode cX11_buildFloors 53 = .ok (.istore 4, 2) := by decide +kernel
theorem dX11_buildFloors_55 : decode cX11_buildFloors 55 = .ok (.iload 5, 2) := by decide +kernel
theorem dX11_buildFloors_57 : decode cX11_buildFloors 57 = .ok (.bipush 10, 2) := by decide +kernel
theorem dX11_buildFloors_59 : decode cX11_buildFloors 59 = .ok (.imul, 1) := by decide +kernel
theorem dX11_buildFloors_60 : decode cX11_buildFloors 60 = .ok (.istore 5, 2) := by decide +kernel
theorem dX11_buildFloors_62 : decode cX11_buildFloors 62 = .ok (.iinc 6 (-1), 3) := by decide +kernel
theorem dX11_buildFloors_65 : decode cX11_buildFloors 65 = .ok (.goto (-52), 3) := by decide +kernel
theorem dX11_buildFloors_68 : decode cX11_buildFloors 68 = .ok (.iload 4, 2) := by decide +kernel
theorem dX11_buildFloors_70 : decode cX11_buildFloors 70 = .ok (.ireturn, 1) := by decide +kernel
theorem dX11_stage_0 : decode cX11_stage 0 = .ok (.iconst 0, 1) := by decide +kernel
theorem dX11_stage_1 : decode cX11_stage 1 = .ok (.istore_n 1, 1) := by decide +kernel
theorem dX11_stage_2 : decode cX11_stage 2 = .ok (.iconst (-1), 1) := by decide +kernel
theorem dX11_stage_3 : decode cX11_stage 3 = .ok (.istore_n 2, 1) := by decide +kernel
theorem dX11_stage_4 : decode cX11_stage 4 = .ok (.iconst 0, 1) := by decide +kernel
theorem dX11_stage_5 : decode cX11_stage 5 = .ok (.istore_n 3, 1) := by decide +kernel
theorem dX11_stage_6 : decode cX11_stage 6 = .ok (.iload_n 3, 1) := by decide +kernel
theorem dX11_stage_7 : decode cX11_stage 7 = .ok (.bipush 10, 2) := by decide +kernel
theorem dX11_stage_9 : decode cX11_stage 9 = .ok (.if_icmp .gt 37, 3) := by decide +kernel
theorem dX11_stage_12 : decode cX11_stage 12 = .ok (.aload_n 0, 1) := by decide +kernel
theorem dX11_stage_13 : decode cX11_stage 13 = .ok (.getfield 10, 3) := by decide +kernel
theorem dX11_stage_16 : decode cX11_stage 16 = .ok (.iload_n 3, 1) := by decide +kernel
theorem dX11_stage_17 : decode cX11_stage 17 = .ok (.putfield 313, 3) := by decide +kernel
theorem dX11_stage_20 : decode cX11_stage 20 = .ok (.aload_n 0, 1) := by decide +kernel
theorem dX11_stage_21 : decode cX11_stage 21 = .ok (.getfield 10, 3) := by decide +kernel
theorem dX11_stage_24 : decode cX11_stage 24 = .ok (.invokevirtual 237, 3) := by decide +kernel
theorem dX11_stage_27 : decode cX11_stage 27 = .ok (.istore 4, 2) := by decide +kernel
theorem dX11_stage_29 : decode cX11_stage 29 = .ok (.iload 4, 2) := by decide +kernel
theorem dX11_stage_31 : decode cX11_stage 31 = .ok (.iload_n 2, 1) := by decide +kernel
theorem dX11_stage_32 : decode cX11_stage 32 = .ok (.if_icmp .le 8, 3) := by decide +kernel
theorem dX11_stage_35 : decode cX11_stage 35 = .ok (.iload 4, 2) := by decide +kernel
theorem dX11_stage_37 : decode cX11_stage 37 = .ok (.istore_n 2, 1) := by decide +kernel
theorem dX11_stage_38 : decode cX11_stage 38 = .ok (.iload_n 3, 1) := by decide +kernel
theorem dX11_stage_39 : decode cX11_stage 39 = .ok (.istore_n 1, 1) := by decide +kernel
theorem dX11_stage_40 : decode cX11_stage 40 = .ok (.iinc 3 1, 3) := by decide +kernel
theorem dX11_stage_43 : decode cX11_stage 43 = .ok (.goto (-37), 3) := by decide +kernel
theorem dX11_stage_46 : decode cX11_stage 46 = .ok (.aload_n 0, 1) := by decide +kernel
theorem dX11_stage_47 : decode cX11_stage 47 = .ok (.getfield 10, 3) := by decide +kernel
theorem dX11_stage_50 : decode cX11_stage 50 = .ok (.iconst 0, 1) := by decide +kernel
theorem dX11_stage_51 : decode cX11_stage 51 = .ok (.putfield 313, 3) := by decide +kernel
theorem dX11_stage_54 : decode cX11_stage 54 = .ok (.iload_n 1, 1) := by decide +kernel
theorem dX11_stage_55 : decode cX11_stage 55 = .ok (.ireturn, 1) := by decide +kernel
theorem dX11_swap_0 : decode cX11_swap 0 = .ok (.aload_n 0, 1) := by decide +kernel
theorem dX11_swap_1 : decode cX11_swap 1 = .ok (.getfield 10, 3) := by decide +kernel
theorem dX11_swap_4 : decode cX11_swap 4 = .ok (.iload_n 1, 1) := by decide +kernel
theorem dX11_swap_5 : decode cX11_swap 5 = .ok (.iload_n 2, 1) := by decide +kernel
theorem dX11_swap_6 : decode cX11_swap 6 = .ok (.invokevirtual 156, 3) := by decide +kernel
theorem dX11_swap_9 : decode cX11_swap 9 = .ok (.astore 5, 2) := by decide +kernel
theorem dX11_swap_11 : decode cX11_swap 11 = .ok (.aload_n 0, 1) := by decide +kernel
theorem dX11_swap_12 : decode cX11_swap 12 = .ok (.getfield 10, 3) := by decide +kernel
theorem dX11_swap_15 : decode cX11_swap 15 = .ok (.iload_n 3, 1) := by decide +kernel
theorem dX11_swap_16 : decode cX11_swap 16 = .ok (.iload 4, 2) := by decide +kernel
theorem dX11_swap_18 : decode cX11_swap 18 = .ok (.invokevirtual 156, 3) := by decide +kernel
theorem dX11_swap_21 : decode cX11_swap 21 = .ok (.astore 6, 2) := by decide +kernel
theorem dX11_swap_23 : decode cX11_swap 23 = .ok (.aload 5, 2) := by decide +kernel
theorem dX11_swap_25 : decode cX11_swap 25 = .ok (.ifnull 8, 3) := by decide +kernel
theorem dX11_swap_28 : decode cX11_swap 28 = .ok (.aload 6, 2) := by decide +kernel
theorem dX11_swap_30 : decode cX11_swap 30 = .ok (.ifnonnull 7, 3) := by decide +kernel
theorem dX11_swap_33 : decode cX11_swap 33 = .ok (.ldc_w 316, 3) := by decide +kernel
theorem dX11_swap_36 : decode cX11_swap 36 = .ok (.ireturn, 1) := by decide +kernel
theorem dX11_swap_37 : decode cX11_swap 37 = .ok (.aload_n 0, 1) := by decide +kernel
theorem dX11_swap_38 : decode cX11_swap 38 = .ok (.getfield 10, 3) := by decide +kernel
theorem dX11_swap_41 : decode cX11_swap 41 = .ok (.invokevirtual 237, 3) := by decide +kernel
theorem dX11_swap_44 : decode cX11_swap 44 = .ok (.istore 7, 2) := by decide +kernel
theorem dX11_swap_46 : decode cX11_swap 46 = .ok (.aload_n 0, 1) := by decide +kernel
theorem dX11_swap_47 : decode cX11_swap 47 = .ok (.aload 5, 2) := by decide +kernel
theorem dX11_swap_49 : decode cX11_swap 49 = .ok (.iload_n 2, 1) := by decide +kernel
theorem dX11_swap_50 : decode cX11_swap 50 = .ok (.aload 6, 2) := by decide +kernel
theorem dX11_swap_52 : decode cX11_swap 52 = .ok (.iload 4, 2) := by decide +kernel
theorem dX11_swap_54 : decode cX11_swap 54 = .ok (.invokevirtual 317, 3) := by decide +kernel
theorem dX11_swap_57 : decode cX11_swap 57 = .ok (.iload 7, 2) := by decide +kernel
theorem dX11_swap_59 : decode cX11_swap 59 = .ok (.isub, 1) := by decide +kernel
theorem dX11_swap_60 : decode cX11_swap 60 = .ok (.ireturn, 1) := by decide +kernel
theorem dX11_worthSwapped_0 : decode cX11_worthSwapped 0 = .ok (.aload_n 1, 1) := by decide +kernel
theorem dX11_worthSwapped_1 : decode cX11_worthSwapped 1 = .ok (.iload_n 2, 1) := by decide +kernel
theorem dX11_worthSwapped_2 : decode cX11_worthSwapped 2 = .ok (.aload_n 3, 1) := by decide +kernel
theorem dX11_worthSwapped_3 : decode cX11_worthSwapped 3 = .ok (.iload 4, 2) := by decide +kernel
theorem dX11_worthSwapped_5 : decode cX11_worthSwapped 5 = .ok (.invokestatic 321, 3) := by decide +kernel
theorem dX11_worthSwapped_8 : decode cX11_worthSwapped 8 = .ok (.aload_n 0, 1) := by decide +kernel
theorem dX11_worthSwapped_9 : decode cX11_worthSwapped 9 = .ok (.getfield 10, 3) := by decide +kernel
theorem dX11_worthSwapped_12 : decode cX11_worthSwapped 12 = .ok (.invokevirtual 237, 3) := by decide +kernel
theorem dX11_worthSwapped_15 : decode cX11_worthSwapped 15 = .ok (.istore 5, 2) := by decide +kernel
theorem dX11_worthSwapped_17 : decode cX11_worthSwapped 17 = .ok (.aload_n 1, 1) := by decide +kernel
theorem dX11_worthSwapped_18 : decode cX11_worthSwapped 18 = .ok (.iload_n 2, 1) := by decide +kernel
theorem dX11_worthSwapped_19 : decode cX11_worthSwapped 19 = .ok (.aload_n 3, 1) := by decide +kernel
theorem dX11_worthSwapped_20 : decode cX11_worthSwapped 20 = .ok (.iload 4, 2) := by decide +kernel
theorem dX11_worthSwapped_22 : decode cX11_worthSwapped 22 = .ok (.invokestatic 321, 3) := by decide +kernel
theorem dX11_worthSwapped_25 : decode cX11_worthSwapped 25 = .ok (.iload 5, 2) := by decide +kernel
theorem dX11_worthSwapped_27 : decode cX11_worthSwapped 27 = .ok (.ireturn, 1) := by decide +kernel
theorem dX11_changePlaces_0 : decode cX11_changePlaces 0 = .ok (.aload_n 0, 1) := by decide +kernel
theorem dX11_changePlaces_1 : decode cX11_changePlaces 1 = .ok (.getfield 160, 3) := by decide +kernel
theorem dX11_changePlaces_4 : decode cX11_changePlaces 4 = .ok (.iload_n 1, 1) := by decide +kernel
theorem dX11_changePlaces_5 : decode cX11_changePlaces 5 = .ok (.iaload, 1) := by decide +kernel
theorem dX11_changePlaces_6 : decode cX11_changePlaces 6 = .ok (.istore 4, 2) := by decide +kernel
theorem dX11_changePlaces_8 : decode cX11_changePlaces 8 = .ok (.aload_n 0, 1) := by decide +kernel
theorem dX11_changePlaces_9 : decode cX11_changePlaces 9 = .ok (.getfield 160, 3) := by decide +kernel
theorem dX11_changePlaces_12 : decode cX11_changePlaces 12 = .ok (.iload_n 1, 1) := by decide +kernel
theorem dX11_changePlaces_13 : decode cX11_changePlaces 13 = .ok (.aload_n 2, 1) := by decide +kernel
theorem dX11_changePlaces_14 : decode cX11_changePlaces 14 = .ok (.getfield 160, 3) := by decide +kernel
theorem dX11_changePlaces_17 : decode cX11_changePlaces 17 = .ok (.iload_n 3, 1) := by decide +kernel
theorem dX11_changePlaces_18 : decode cX11_changePlaces 18 = .ok (.iaload, 1) := by decide +kernel
theorem dX11_changePlaces_19 : decode cX11_changePlaces 19 = .ok (.iastore, 1) := by decide +kernel
theorem dX11_changePlaces_20 : decode cX11_changePlaces 20 = .ok (.aload_n 2, 1) := by decide +kernel
theorem dX11_changePlaces_21 : decode cX11_changePlaces 21 = .ok (.getfield 160, 3) := by decide +kernel
theorem dX11_changePlaces_24 : decode cX11_changePlaces 24 = .ok (.iload_n 3, 1) := by decide +kernel
theorem dX11_changePlaces_25 : decode cX11_changePlaces 25 = .ok (.iload 4, 2) := by decide +kernel
theorem dX11_changePlaces_27 : decode cX11_changePlaces 27 = .ok (.iastore, 1) := by decide +kernel
theorem dX11_changePlaces_28 : decode cX11_changePlaces 28 = .ok (.return_, 1) := by decide +kernel
theorem dX11_people_0 : decode cX11_people 0 = .ok (.aload_n 0, 1) := by decide +kernel
theorem dX11_people_1 : decode cX11_people 1 = .ok (.getfield 10, 3) := by decide +kernel
theorem dX11_people_4 : decode cX11_people 4 = .ok (.iload_n 1, 1) := by decide +kernel
theorem dX11_people_5 : decode cX11_people 5 = .ok (.invokevirtual 146, 3) := by decide +kernel
theorem dX11_people_8 : decode cX11_people 8 = .ok (.astore_n 3, 1) := by decide +kernel
theorem dX11_people_9 : decode cX11_people 9 = .ok (.aload_n 3, 1) := by decide +kernel
theorem dX11_people_10 : decode cX11_people 10 = .ok (.ifnonnull 6, 3) := by decide +kernel
theorem dX11_people_13 : decode cX11_people 13 = .ok (.bipush (-5), 2) := by decide +kernel
theorem dX11_people_15 : decode cX11_people 15 = .ok (.ireturn, 1) := by decide +kernel
theorem dX11_people_16 : decode cX11_people 16 = .ok (.iload_n 2, 1) := by decide +kernel
theorem dX11_people_17 : decode cX11_people 17 = .ok (.iconst 0, 1) := by decide +kernel
theorem dX11_people_18 : decode cX11_people 18 = .ok (.iconst 1, 1) := by decide +kernel
theorem dX11_people_19 : decode cX11_people 19 = .ok (.invokestatic 100, 3) := by decide +kernel
theorem dX11_people_22 : decode cX11_people 22 = .ok (.ifCond .ne 6, 3) := by decide +kernel
theorem dX11_people_25 : decode cX11_people 25 = .ok (.bipush (-7), 2) := by decide +kernel
theorem dX11_people_27 : decode cX11_people 27 = .ok (.ireturn, 1) := by decide +kernel
theorem dX11_people_28 : decode cX11_people 28 = .ok (.aload_n 0, 1) := by decide +kernel
theorem dX11_people_29 : decode cX11_people 29 = .ok (.getfield 10, 3) := by decide +kernel
theorem dX11_people_32 : decode cX11_people 32 = .ok (.invokevirtual 237, 3) := by decide +kernel
theorem dX11_people_35 : decode cX11_people 35 = .ok (.istore 4, 2) := by decide +kernel
theorem dX11_people_37 : decode cX11_people 37 = .ok (.aload_n 0, 1) := by decide +kernel
theorem dX11_people_38 : decode cX11_people 38 = .ok (.aload_n 3, 1) := by decide +kernel
theorem dX11_people_39 : decode cX11_people 39 = .ok (.iload 4, 2) := by decide +kernel
theorem dX11_people_41 : decode cX11_people 41 = .ok (.invokevirtual 325, 3) := by decide +kernel
theorem dX11_people_44 : decode cX11_people 44 = .ok (.istore 5, 2) := by decide +kernel
theorem dX11_people_46 : decode cX11_people 46 = .ok (.iload_n 2, 1) := by decide +kernel
theorem dX11_people_47 : decode cX11_people 47 = .ok (.ifCond .ne 6, 3) := by decide +kernel
theorem dX11_people_50 : decode cX11_people 50 = .ok (.iload 5, 2) := by decide +kernel
theorem dX11_people_52 : decode cX11_people 52 = .ok (.ireturn, 1) := by decide +kernel
theorem dX11_people_53 : decode cX11_people 53 = .ok (.iload 5, 2) := by decide +kernel
theorem dX11_people_55 : decode cX11_people 55 = .ok (.iconst (-1), 1) := by decide +kernel
theorem dX11_people_56 : decode cX11_people 56 = .ok (.if_icmp .ne 7, 3) := by decide +kernel
theorem dX11_people_59 : decode cX11_people 59 = .ok (.iconst 0, 1) := by decide +kernel
theorem dX11_people_60 : decode cX11_people 60 = .ok (.goto 22, 3) := by decide +kernel
theorem dX11_people_63 : decode cX11_people 63 = .ok (.aload_n 0, 1) := by decide +kernel
theorem dX11_people_64 : decode cX11_people 64 = .ok (.aload_n 3, 1) := by decide +kernel
theorem dX11_people_65 : decode cX11_people 65 = .ok (.iload 5, 2) := by decide +kernel
theorem dX11_people_67 : decode cX11_people 67 = .ok (.bipush 10, 2) := by decide +kernel
theorem dX11_people_69 : decode cX11_people 69 = .ok (.idiv, 1) := by decide +kernel
theorem dX11_people_70 : decode cX11_people 70 = .ok (.aload_n 3, 1) := by decide +kernel
theorem dX11_people_71 : decode cX11_people 71 = .ok (.iload 5, 2) := by decide +kernel
theorem dX11_people_73 : decode cX11_people 73 = .ok (.bipush 10, 2) := by decide +kernel
theorem dX11_people_75 : decode cX11_people 75 = .ok (.irem, 1) := by decide +kernel
theorem dX11_people_76 : decode cX11_people 76 = .ok (.invokevirtual 317, 3) := by decide +kernel
theorem dX11_people_79 : decode cX11_people 79 = .ok (.iload 4, 2) := by decide +kernel
theorem dX11_people_81 : decode cX11_people 81 = .ok (.isub, 1) := by decide +kernel
theorem dX11_people_82 : decode cX11_people 82 = .ok (.ireturn, 1) := by decide +kernel
theorem dX11_bestSwap_0 : decode cX11_bestSwap 0 = .ok (.iconst (-1), 1) := by decide +kernel
theorem dX11_bestSwap_1 : decode cX11_bestSwap 1 = .ok (.istore_n 3, 1) := by decide +kernel
theorem dX11_bestSwap_2 : decode cX11_bestSwap 2 = .ok (.iload_n 2, 1) := by decide +kernel
theorem dX11_bestSwap_3 : decode cX11_bestSwap 3 = .ok (.istore 4, 2) := by decide +kernel
theorem dX11_bestSwap_5 : decode cX11_bestSwap 5 = .ok (.iconst 0, 1) := by decide +kernel
theorem dX11_bestSwap_6 : decode cX11_bestSwap 6 = .ok (.istore 5, 2) := by decide +kernel
theorem dX11_bestSwap_8 : decode cX11_bestSwap 8 = .ok (.iload 5, 2) := by decide +kernel
theorem dX11_bestSwap_10 : decode cX11_bestSwap 10 = .ok (.aload_n 1, 1) := by decide +kernel
theorem dX11_bestSwap_11 : decode cX11_bestSwap 11 = .ok (.getfield 328, 3) := by decide +kernel
theorem dX11_bestSwap_14 : decode cX11_bestSwap 14 = .ok (.if_icmp .ge 97, 3) := by decide +kernel
theorem dX11_bestSwap_17 : decode cX11_bestSwap 17 = .ok (.iload 5, 2) := by decide +kernel
theorem dX11_bestSwap_19 : decode cX11_bestSwap 19 = .ok (.iconst 1, 1) := by decide +kernel
theorem dX11_bestSwap_20 : decode cX11_bestSwap 20 = .ok (.iadd, 1) := by decide +kernel
theorem dX11_bestSwap_21 : decode cX11_bestSwap 21 = .ok (.istore 6, 2) := by decide +kernel
theorem dX11_bestSwap_23 : decode cX11_bestSwap 23 = .ok (.iload 6, 2) := by decide +kernel
theorem dX11_bestSwap_25 : decode cX11_bestSwap 25 = .ok (.aload_n 1, 1) := by decide +kernel
theorem dX11_bestSwap_26 : decode cX11_bestSwap 26 = .ok (.getfield 328, 3) := by decide +kernel
theorem dX11_bestSwap_29 : decode cX11_bestSwap 29 = .ok (.if_icmp .ge 76, 3) := by decide +kernel
theorem dX11_bestSwap_32 : decode cX11_bestSwap 32 = .ok (.aload_n 1, 1) := by decide +kernel
theorem dX11_bestSwap_33 : decode cX11_bestSwap 33 = .ok (.getfield 160, 3) := by decide +kernel
theorem dX11_bestSwap_36 : decode cX11_bestSwap 36 = .ok (.iload 5, 2) := by decide +kernel
theorem dX11_bestSwap_38 : decode cX11_bestSwap 38 = .ok (.iaload, 1) := by decide +kernel
theorem dX11_bestSwap_39 : decode cX11_bestSwap 39 = .ok (.aload_n 1, 1) := by decide +kernel
theorem dX11_bestSwap_40 : decode cX11_bestSwap 40 = .ok (.getfield 160, 3) := by decide +kernel
theorem dX11_bestSwap_43 : decode cX11_bestSwap 43 = .ok (.iload 6, 2) := by decide +kernel
theorem dX11_bestSwap_45 : decode cX11_bestSwap 45 = .ok (.iaload, 1) := by decide +kernel
theorem dX11_bestSwap_46 : decode cX11_bestSwap 46 = .ok (.if_icmp .ne 6, 3) := by decide +kernel
theorem dX11_bestSwap_49 : decode cX11_bestSwap 49 = .ok (.goto 50, 3) := by decide +kernel
theorem dX11_bestSwap_52 : decode cX11_bestSwap 52 = .ok (.aload_n 1, 1) := by decide +kernel
theorem dX11_bestSwap_53 : decode cX11_bestSwap 53 = .ok (.iload 5, 2) := by decide +kernel
theorem dX11_bestSwap_55 : decode cX11_bestSwap 55 = .ok (.aload_n 1, 1) := by decide +kernel
theorem dX11_bestSwap_56 : decode cX11_bestSwap 56 = .ok (.iload 6, 2) := by decide +kernel
theorem dX11_bestSwap_58 : decode cX11_bestSwap 58 = .ok (.invokestatic 321, 3) := by decide +kernel
theorem dX11_bestSwap_61 : decode cX11_bestSwap 61 = .ok (.aload_n 0, 1) := by decide +kernel
theorem dX11_bestSwap_62 : decode cX11_bestSwap 62 = .ok (.getfield 10, 3) := by decide +kernel
theorem dX11_bestSwap_65 : decode cX11_bestSwap 65 = .ok (.invokevirtual 237, 3) := by decide +kernel
theorem dX11_bestSwap_68 : decode cX11_bestSwap 68 = .ok (.istore 7, 2) := by decide +kernel
theorem dX11_bestSwap_70 : decode cX11_bestSwap 70 = .ok (.aload_n 1, 1) := by decide +kernel
theorem dX11_bestSwap_71 : decode cX11_bestSwap 71 = .ok (.iload 5, 2) := by decide +kernel
theorem dX11_bestSwap_73 : decode cX11_bestSwap 73 = .ok (.aload_n 1, 1) := by decide +kernel
theorem dX11_bestSwap_74 : decode cX11_bestSwap 74 = .ok (.iload 6, 2) := by decide +kernel
theorem dX11_bestSwap_76 : decode cX11_bestSwap 76 = .ok (.invokestatic 321, 3) := by decide +kernel
theorem dX11_bestSwap_79 : decode cX11_bestSwap 79 = .ok (.iload 7, 2) := by decide +kernel
theorem dX11_bestSwap_81 : decode cX11_bestSwap 81 = .ok (.iload 4, 2) := by decide +kernel
theorem dX11_bestSwap_83 : decode cX11_bestSwap 83 = .ok (.if_icmp .le 16, 3) := by decide +kernel
theorem dX11_bestSwap_86 : decode cX11_bestSwap 86 = .ok (.iload 7, 2) := by decide +kernel
theorem dX11_bestSwap_88 : decode cX11_bestSwap 88 = .ok (.istore 4, 2) := by decide +kernel
theorem dX11_bestSwap_90 : decode cX11_bestSwap 90 = .ok (.bipush 10, 2) := by decide +kernel
theorem dX11_bestSwap_92 : decode cX11_bestSwap 92 = .ok (.iload 5, 2) := by decide +kernel
theorem dX11_bestSwap_94 : decode cX11_bestSwap 94 = .ok (.imul, 1) := by decide +kernel
theorem dX11_bestSwap_95 : decode cX11_bestSwap 95 = .ok (.iload 6, 2) := by decide +kernel
theorem dX11_bestSwap_97 : decode cX11_bestSwap 97 = .ok (.iadd, 1) := by decide +kernel
theorem dX11_bestSwap_98 : decode cX11_bestSwap 98 = .ok (.istore_n 3, 1) := by decide +kernel
theorem dX11_bestSwap_99 : decode cX11_bestSwap 99 = .ok (.iinc 6 1, 3) := by decide +kernel
theorem dX11_bestSwap_102 : decode cX11_bestSwap 102 = .ok (.goto (-79), 3) := by decide +kernel
theorem dX11_bestSwap_105 : decode cX11_bestSwap 105 = .ok (.iinc 5 1, 3) := by decide +kernel
theorem dX11_bestSwap_108 : decode cX11_bestSwap 108 = .ok (.goto (-100), 3) := by decide +kernel
theorem dX11_bestSwap_111 : decode cX11_bestSwap 111 = .ok (.iload_n 3, 1) := by decide +kernel
theorem dX11_bestSwap_112 : decode cX11_bestSwap 112 = .ok (.ireturn, 1) := by decide +kernel
theorem dX11_settle_0 : decode cX11_settle 0 = .ok (.aload_n 0, 1) := by decide +kernel
theorem dX11_settle_1 : decode cX11_settle 1 = .ok (.getfield 10, 3) := by decide +kernel
theorem dX11_settle_4 : decode cX11_settle 4 = .ok (.iload_n 1, 1) := by decide +kernel
theorem dX11_settle_5 : decode cX11_settle 5 = .ok (.invokevirtual 146, 3) := by decide +kernel
theorem dX11_settle_8 : decode cX11_settle 8 = .ok (.astore_n 3, 1) := by decide +kernel
theorem dX11_settle_9 : decode cX11_settle 9 = .ok (.aload_n 3, 1) := by decide +kernel
theorem dX11_settle_10 : decode cX11_settle 10 = .ok (.ifnonnull 6, 3) := by decide +kernel
theorem dX11_settle_13 : decode cX11_settle 13 = .ok (.bipush (-5), 2) := by decide +kernel
theorem dX11_settle_15 : decode cX11_settle 15 = .ok (.ireturn, 1) := by decide +kernel
theorem dX11_settle_16 : decode cX11_settle 16 = .ok (.iload_n 2, 1) := by decide +kernel
theorem dX11_settle_17 : decode cX11_settle 17 = .ok (.iconst 0, 1) := by decide +kernel
theorem dX11_settle_18 : decode cX11_settle 18 = .ok (.iconst 5, 1) := by decide +kernel
theorem dX11_settle_19 : decode cX11_settle 19 = .ok (.invokestatic 100, 3) := by decide +kernel
theorem dX11_settle_22 : decode cX11_settle 22 = .ok (.ifCond .ne 6, 3) := by decide +kernel
theorem dX11_settle_25 : decode cX11_settle 25 = .ok (.bipush (-7), 2) := by decide +kernel
theorem dX11_settle_27 : decode cX11_settle 27 = .ok (.ireturn, 1) := by decide +kernel
theorem dX11_settle_28 : decode cX11_settle 28 = .ok (.iconst 0, 1) := by decide +kernel
theorem dX11_settle_29 : decode cX11_settle 29 = .ok (.istore 4, 2) := by decide +kernel
theorem dX11_settle_31 : decode cX11_settle 31 = .ok (.iload 4, 2) := by decide +kernel
theorem dX11_settle_33 : decode cX11_settle 33 = .ok (.iload_n 2, 1) := by decide +kernel
theorem dX11_settle_34 : decode cX11_settle 34 = .ok (.if_icmp .ge 47, 3) := by decide +kernel
theorem dX11_settle_37 : decode cX11_settle 37 = .ok (.aload_n 0, 1) := by decide +kernel
theorem dX11_settle_38 : decode cX11_settle 38 = .ok (.aload_n 3, 1) := by decide +kernel
theorem dX11_settle_39 : decode cX11_settle 39 = .ok (.aload_n 0, 1) := by decide +kernel
theorem dX11_settle_40 : decode cX11_settle 40 = .ok (.getfield 10, 3) := by decide +kernel
theorem dX11_settle_43 : decode cX11_settle 43 = .ok (.invokevirtual 237, 3) := by decide +kernel
theorem dX11_settle_46 : decode cX11_settle 46 = .ok (.invokevirtual 325, 3) := by decide +kernel
theorem dX11_settle_49 : decode cX11_settle 49 = .ok (.istore 5, 2) := by decide +kernel
theorem dX11_settle_51 : decode cX11_settle 51 = .ok (.iload 5, 2) := by decide +kernel
theorem dX11_settle_53 : decode cX11_settle 53 = .ok (.iconst (-1), 1) := by decide +kernel
theorem dX11_settle_54 : decode cX11_settle 54 = .ok (.if_icmp .ne 6, 3) := by decide +kernel
theorem dX11_settle_57 : decode cX11_settle 57 = .ok (.iload 4, 2) := by decide +kernel
theorem dX11_settle_59 : decode cX11_settle 59 = .ok (.ireturn, 1) := by decide +kernel
theorem dX11_settle_60 : decode cX11_settle 60 = .ok (.aload_n 3, 1) := by decide +kernel
theorem dX11_settle_61 : decode cX11_settle 61 = .ok (.iload 5, 2) := by decide +kernel
theorem dX11_settle_63 : decode cX11_settle 63 = .ok (.bipush 10, 2) := by decide +kernel
theorem dX11_settle_65 : decode cX11_settle 65 = .ok (.idiv, 1) := by decide +kernel
theorem dX11_settle_66 : decode cX11_settle 66 = .ok (.aload_n 3, 1) := by decide +kernel
theorem dX11_settle_67 : decode cX11_settle 67 = .ok (.iload 5, 2) := by decide +kernel
theorem dX11_settle_69 : decode cX11_settle 69 = .ok (.bipush 10, 2) := by decide +kernel
theorem dX11_settle_71 : decode cX11_settle 71 = .ok (.irem, 1) := by decide +kernel
theorem dX11_settle_72 : decode cX11_settle 72 = .ok (.invokestatic 321, 3) := by decide +kernel
theorem dX11_settle_75 : decode cX11_settle 75 = .ok (.iinc 4 1, 3) := by decide +kernel
theorem dX11_settle_78 : decode cX11_settle 78 = .ok (.goto (-47), 3) := by decide +kernel
theorem dX11_settle_81 : decode cX11_settle 81 = .ok (.iload_n 2, 1) := by decide +kernel
theorem dX11_settle_82 : decode cX11_settle 82 = .ok (.ireturn, 1) := by decide +kernel
theorem dX11_hat_0 : decode cX11_hat 0 = .ok (.aload_n 0, 1) := by decide +kernel
theorem dX11_hat_1 : decode cX11_hat 1 = .ok (.getfield 10, 3) := by decide +kernel
theorem dX11_hat_4 : decode cX11_hat 4 = .ok (.iload_n 1, 1) := by decide +kernel
theorem dX11_hat_5 : decode cX11_hat 5 = .ok (.iload_n 2, 1) := by decide +kernel
theorem dX11_hat_6 : decode cX11_hat 6 = .ok (.invokevirtual 156, 3) := by decide +kernel
theorem dX11_hat_9 : decode cX11_hat 9 = .ok (.astore 4, 2) := by decide +kernel
theorem dX11_hat_11 : decode cX11_hat 11 = .ok (.aload 4, 2) := by decide +kernel
theorem dX11_hat_13 : decode cX11_hat 13 = .ok (.ifnonnull 6, 3) := by decide +kernel
theorem dX11_hat_16 : decode cX11_hat 16 = .ok (.bipush (-5), 2) := by decide +kernel
theorem dX11_hat_18 : decode cX11_hat 18 = .ok (.ireturn, 1) := by decide +kernel
theorem dX11_hat_19 : decode cX11_hat 19 = .ok (.iload_n 3, 1) := by decide +kernel
theorem dX11_hat_20 : decode cX11_hat 20 = .ok (.iconst 0, 1) := by decide +kernel
theorem dX11_hat_21 : decode cX11_hat 21 = .ok (.bipush 40, 2) := by decide +kernel
theorem dX11_hat_23 : decode cX11_hat 23 = .ok (.invokestatic 100, 3) := by decide +kernel
theorem dX11_hat_26 : decode cX11_hat 26 = .ok (.ifCond .ne 6, 3) := by decide +kernel
theorem dX11_hat_29 : decode cX11_hat 29 = .ok (.bipush (-7), 2) := by decide +kernel
theorem dX11_hat_31 : decode cX11_hat 31 = .ok (.ireturn, 1) := by decide +kernel
theorem dX11_hat_32 : decode cX11_hat 32 = .ok (.aload_n 0, 1) := by decide +kernel
theorem dX11_hat_33 : decode cX11_hat 33 = .ok (.getfield 10, 3) := by decide +kernel
theorem dX11_hat_36 : decode cX11_hat 36 = .ok (.invokevirtual 237, 3) := by decide +kernel
theorem dX11_hat_39 : decode cX11_hat 39 = .ok (.istore 5, 2) := by decide +kernel
theorem dX11_hat_41 : decode cX11_hat 41 = .ok (.aload_n 0, 1) := by decide +kernel
theorem dX11_hat_42 : decode cX11_hat 42 = .ok (.getfield 10, 3) := by decide +kernel
theorem dX11_hat_45 : decode cX11_hat 45 = .ok (.aload 4, 2) := by decide +kernel
theorem dX11_hat_47 : decode cX11_hat 47 = .ok (.putfield 331, 3) := by decide +kernel
theorem dX11_hat_50 : decode cX11_hat 50 = .ok (.aload_n 0, 1) := by decide +kernel
theorem dX11_hat_51 : decode cX11_hat 51 = .ok (.getfield 10, 3) := by decide +kernel
theorem dX11_hat_54 : decode cX11_hat 54 = .ok (.iload_n 2, 1) := by decide +kernel
theorem dX11_hat_55 : decode cX11_hat 55 = .ok (.putfield 335, 3) := by decide +kernel
theorem dX11_hat_58 : decode cX11_hat 58 = .ok (.aload_n 0, 1) := by decide +kernel
theorem dX11_hat_59 : decode cX11_hat 59 = .ok (.getfield 10, 3) := by decide +kernel
theorem dX11_hat_62 : decode cX11_hat 62 = .ok (.iload_n 3, 1) := by decide +kernel
theorem dX11_hat_63 : decode cX11_hat 63 = .ok (.putfield 338, 3) := by decide +kernel
theorem dX11_hat_66 : decode cX11_hat 66 = .ok (.aload_n 0, 1) := by decide +kernel
theorem dX11_hat_67 : decode cX11_hat 67 = .ok (.getfield 10, 3) := by decide +kernel
theorem dX11_hat_70 : decode cX11_hat 70 = .ok (.invokevirtual 237, 3) := by decide +kernel
theorem dX11_hat_73 : decode cX11_hat 73 = .ok (.istore 6, 2) := by decide +kernel
theorem dX11_hat_75 : decode cX11_hat 75 = .ok (.aload_n 0, 1) := by decide +kernel
theorem dX11_hat_76 : decode cX11_hat 76 = .ok (.getfield 10, 3) := by decide +kernel
theorem dX11_hat_79 : decode cX11_hat 79 = .ok (.aconst_null, 1) := by decide +kernel
theorem dX11_hat_80 : decode cX11_hat 80 = .ok (.putfield 331, 3) := by decide +kernel
theorem dX11_hat_83 : decode cX11_hat 83 = .ok (.iload 5, 2) := by decide +kernel
theorem dX11_hat_85 : decode cX11_hat 85 = .ok (.iload 6, 2) := by decide +kernel
theorem dX11_hat_87 : decode cX11_hat 87 = .ok (.isub, 1) := by decide +kernel
theorem dX11_hat_88 : decode cX11_hat 88 = .ok (.ireturn, 1) := by decide +kernel
theorem dX11_least_0 : decode cX11_least 0 = .ok (.aload_n 0, 1) := by decide +kernel
theorem dX11_least_1 : decode cX11_least 1 = .ok (.iload_n 1, 1) := by decide +kernel
theorem dX11_least_2 : decode cX11_least 2 = .ok (.invokevirtual 212, 3) := by decide +kernel
theorem dX11_least_5 : decode cX11_least 5 = .ok (.ifCond .ne 6, 3) := by decide +kernel
theorem dX11_least_8 : decode cX11_least 8 = .ok (.bipush (-5), 2) := by decide +kernel
theorem dX11_least_10 : decode cX11_least 10 = .ok (.ireturn, 1) := by decide +kernel
theorem dX11_least_11 : decode cX11_least 11 = .ok (.aload_n 0, 1) := by decide +kernel
theorem dX11_least_12 : decode cX11_least 12 = .ok (.getfield 10, 3) := by decide +kernel
theorem dX11_least_15 : decode cX11_least 15 = .ok (.getfield 206, 3) := by decide +kernel
theorem dX11_least_18 : decode cX11_least 18 = .ok (.iload_n 1, 1) := by decide +kernel
theorem dX11_least_19 : decode cX11_least 19 = .ok (.iaload, 1) := by decide +kernel
theorem dX11_least_20 : decode cX11_least 20 = .ok (.istore_n 2, 1) := by decide +kernel
theorem dX11_least_21 : decode cX11_least 21 = .ok (.iconst 0, 1) := by decide +kernel
theorem dX11_least_22 : decode cX11_least 22 = .ok (.istore_n 3, 1) := by decide +kernel
theorem dX11_least_23 : decode cX11_least 23 = .ok (.iconst (-1), 1) := by decide +kernel
theorem dX11_least_24 : decode cX11_least 24 = .ok (.istore 4, 2) := by decide +kernel
theorem dX11_least_26 : decode cX11_least 26 = .ok (.iconst 0, 1) := by decide +kernel
theorem dX11_least_27 : decode cX11_least 27 = .ok (.istore 5, 2) := by decide +kernel
theorem dX11_least_29 : decode cX11_least 29 = .ok (.iload 5, 2) := by decide +kernel
theorem dX11_least_31 : decode cX11_least 31 = .ok (.bipush 20, 2) := by decide +kernel
theorem dX11_least_33 : decode cX11_least 33 = .ok (.if_icmp .gt 43, 3) := by decide +kernel
theorem dX11_least_36 : decode cX11_least 36 = .ok (.aload_n 0, 1) := by decide +kernel
theorem dX11_least_37 : decode cX11_least 37 = .ok (.getfield 10, 3) := by decide +kernel
theorem dX11_least_40 : decode cX11_least 40 = .ok (.getfield 206, 3) := by decide +kernel
theorem dX11_least_43 : decode cX11_least 43 = .ok (.iload_n 1, 1) := by decide +kernel
theorem dX11_least_44 : decode cX11_least 44 = .ok (.iload 5, 2) := by decide +kernel
theorem dX11_least_46 : decode cX11_least 46 = .ok (.iastore, 1) := by decide +kernel
theorem dX11_least_47 : decode cX11_least 47 = .ok (.aload_n 0, 1) := by decide +kernel
theorem dX11_least_48 : decode cX11_least 48 = .ok (.getfield 10, 3) := by decide +kernel
theorem dX11_least_51 : decode cX11_least 51 = .ok (.invokevirtual 237, 3) := by decide +kernel
theorem dX11_least_54 : decode cX11_least 54 = .ok (.istore 6, 2) := by decide +kernel
theorem dX11_least_56 : decode cX11_least 56 = .ok (.iload 6, 2) := by decide +kernel
theorem dX11_least_58 : decode cX11_least 58 = .ok (.iload 4, 2) := by decide +kernel
theorem dX11_least_60 : decode cX11_least 60 = .ok (.if_icmp .le 10, 3) := by decide +kernel
theorem dX11_least_63 : decode cX11_least 63 = .ok (.iload 6, 2) := by decide +kernel
theorem dX11_least_65 : decode cX11_least 65 = .ok (.istore 4, 2) := by decide +kernel
theorem dX11_least_67 : decode cX11_least 67 = .ok (.iload 5, 2) := by decide +kernel
theorem dX11_least_69 : decode cX11_least 69 = .ok (.istore_n 3, 1) := by decide +kernel
theorem dX11_least_70 : decode cX11_least 70 = .ok (.iinc 5 1, 3) := by decide +kernel
theorem dX11_least_73 : decode cX11_least 73 = .ok (.goto (-44), 3) := by decide +kernel
theorem dX11_least_76 : decode cX11_least 76 = .ok (.aload_n 0, 1) := by decide +kernel
theorem dX11_least_77 : decode cX11_least 77 = .ok (.getfield 10, 3) := by decide +kernel
theorem dX11_least_80 : decode cX11_least 80 = .ok (.getfield 206, 3) := by decide +kernel
theorem dX11_least_83 : decode cX11_least 83 = .ok (.iload_n 1, 1) := by decide +kernel
theorem dX11_least_84 : decode cX11_least 84 = .ok (.iload_n 2, 1) := by decide +kernel
theorem dX11_least_85 : decode cX11_least 85 = .ok (.iastore, 1) := by decide +kernel
theorem dX11_least_86 : decode cX11_least 86 = .ok (.iload_n 3, 1) := by decide +kernel
theorem dX11_least_87 : decode cX11_least 87 = .ok (.ireturn, 1) := by decide +kernel
theorem dX11_sell_0 : decode cX11_sell 0 = .ok (.iload_n 1, 1) := by decide +kernel
theorem dX11_sell_1 : decode cX11_sell 1 = .ok (.iconst 0, 1) := by decide +kernel
theorem dX11_sell_2 : decode cX11_sell 2 = .ok (.iconst 1, 1) := by decide +kernel
theorem dX11_sell_3 : decode cX11_sell 3 = .ok (.invokestatic 100, 3) := by decide +kernel
theorem dX11_sell_6 : decode cX11_sell 6 = .ok (.ifCond .ne 6, 3) := by decide +kernel
theorem dX11_sell_9 : decode cX11_sell 9 = .ok (.bipush (-2), 2) := by decide +kernel
theorem dX11_sell_11 : decode cX11_sell 11 = .ok (.ireturn, 1) := by decide +kernel
theorem dX11_sell_12 : decode cX11_sell 12 = .ok (.aload_n 0, 1) := by decide +kernel
theorem dX11_sell_13 : decode cX11_sell 13 = .ok (.getfield 10, 3) := by decide +kernel
theorem dX11_sell_16 : decode cX11_sell 16 = .ok (.aload_n 0, 1) := by decide +kernel
theorem dX11_sell_17 : decode cX11_sell 17 = .ok (.getfield 65, 3) := by decide +kernel
theorem dX11_sell_20 : decode cX11_sell 20 = .ok (.invokevirtual 341, 3) := by decide +kernel
theorem dX11_sell_23 : decode cX11_sell 23 = .ok (.istore_n 2, 1) := by decide +kernel
theorem dX11_sell_24 : decode cX11_sell 24 = .ok (.iconst 0, 1) := by decide +kernel
theorem dX11_sell_25 : decode cX11_sell 25 = .ok (.istore_n 3, 1) := by decide +kernel
theorem dX11_sell_26 : decode cX11_sell 26 = .ok (.iconst 0, 1) := by decide +kernel
theorem dX11_sell_27 : decode cX11_sell 27 = .ok (.istore 4, 2) := by decide +kernel
theorem dX11_sell_29 : decode cX11_sell 29 = .ok (.iconst 0, 1) := by decide +kernel
theorem dX11_sell_30 : decode cX11_sell 30 = .ok (.istore 5, 2) := by decide +kernel
theorem dX11_sell_32 : decode cX11_sell 32 = .ok (.iload 5, 2) := by decide +kernel
theorem dX11_sell_34 : decode cX11_sell 34 = .ok (.iload_n 2, 1) := by decide +kernel
theorem dX11_sell_35 : decode cX11_sell 35 = .ok (.if_icmp .ge 68, 3) := by decide +kernel
theorem dX11_sell_38 : decode cX11_sell 38 = .ok (.aload_n 0, 1) := by decide +kernel
theorem dX11_sell_39 : decode cX11_sell 39 = .ok (.getfield 65, 3) := by decide +kernel
theorem dX11_sell_42 : decode cX11_sell 42 = .ok (.iload 5, 2) := by decide +kernel
theorem dX11_sell_44 : decode cX11_sell 44 = .ok (.iaload, 1) := by decide +kernel
theorem dX11_sell_45 : decode cX11_sell 45 = .ok (.aload_n 0, 1) := by decide +kernel
theorem dX11_sell_46 : decode cX11_sell 46 = .ok (.aload_n 0, 1) := by decide +kernel
theorem dX11_sell_47 : decode cX11_sell 47 = .ok (.getfield 65, 3) := by decide +kernel
theorem dX11_sell_50 : decode cX11_sell 50 = .ok (.iload 5, 2) := by decide +kernel
theorem dX11_sell_52 : decode cX11_sell 52 = .ok (.iaload, 1) := by decide +kernel
theorem dX11_sell_53 : decode cX11_sell 53 = .ok (.iload_n 2, 1) := by decide +kernel
theorem dX11_sell_54 : decode cX11_sell 54 = .ok (.invokevirtual 345, 3) := by decide +kernel
theorem dX11_sell_57 : decode cX11_sell 57 = .ok (.imul, 1) := by decide +kernel
theorem dX11_sell_58 : decode cX11_sell 58 = .ok (.istore 6, 2) := by decide +kernel
theorem dX11_sell_60 : decode cX11_sell 60 = .ok (.iload 6, 2) := by decide +kernel
theorem dX11_sell_62 : decode cX11_sell 62 = .ok (.iload 4, 2) := by decide +kernel
theorem dX11_sell_64 : decode cX11_sell 64 = .ok (.if_icmp .gt 21, 3) := by decide +kernel
theorem dX11_sell_67 : decode cX11_sell 67 = .ok (.iload 6, 2) := by decide +kernel
theorem dX11_sell_69 : decode cX11_sell 69 = .ok (.iload 4, 2) := by decide +kernel
theorem dX11_sell_71 : decode cX11_sell 71 = .ok (.if_icmp .ne 26, 3) := by decide +kernel
theorem dX11_sell_74 : decode cX11_sell 74 = .ok (.aload_n 0, 1) := by decide +kernel
theorem dX11_sell_75 : decode cX11_sell 75 = .ok (.getfield 65, 3) := by decide +kernel
theorem dX11_sell_78 : decode cX11_sell 78 = .ok (.iload 5, 2) := by decide +kernel
theorem dX11_sell_80 : decode cX11_sell 80 = .ok (.iaload, 1) := by decide +kernel
theorem dX11_sell_81 : decode cX11_sell 81 = .ok (.iload_n 3, 1) := by decide +kernel
theorem dX11_sell_82 : decode cX11_sell 82 = .ok (.if_icmp .ge 15, 3) := by decide +kernel
theorem dX11_sell_85 : decode cX11_sell 85 = .ok (.iload 6, 2) := by decide +kernel
theorem dX11_sell_87 : decode cX11_sell 87 = .ok (.istore 4, 2) := by decide +kernel
theorem dX11_sell_89 : decode cX11_sell 89 = .ok (.aload_n 0, 1) := by decide +kernel
theorem dX11_sell_90 : decode cX11_sell 90 = .ok (.getfield 65, 3) := by decide +kernel
theorem dX11_sell_93 : decode cX11_sell 93 = .ok (.iload 5, 2) := by decide +kernel
theorem dX11_sell_95 : decode cX11_sell 95 = .ok (.iaload, 1) := by decide +kernel
theorem dX11_sell_96 : decode cX11_sell 96 = .ok (.istore_n 3, 1) := by decide +kernel
theorem dX11_sell_97 : decode cX11_sell 97 = .ok (.iinc 5 1, 3) := by decide +kernel
theorem dX11_sell_100 : decode cX11_sell 100 = .ok (.goto (-68), 3) := by decide +kernel
theorem dX11_sell_103 : decode cX11_sell 103 = .ok (.iload_n 1, 1) := by decide +kernel
theorem dX11_sell_104 : decode cX11_sell 104 = .ok (.ifCond .ne 7, 3) := by decide +kernel
theorem dX11_sell_107 : decode cX11_sell 107 = .ok (.iload_n 3, 1) := by decide +kernel
theorem dX11_sell_108 : decode cX11_sell 108 = .ok (.goto 5, 3) := by decide +kernel
theorem dX11_sell_111 : decode cX11_sell 111 = .ok (.iload 4, 2) := by decide +kernel
theorem dX11_sell_113 : decode cX11_sell 113 = .ok (.ireturn, 1) := by decide +kernel
theorem dX11_howManyPay_0 : decode cX11_howManyPay 0 = .ok (.iconst 0, 1) := by decide +kernel
theorem dX11_howManyPay_1 : decode cX11_howManyPay 1 = .ok (.istore_n 3, 1) := by decide +kernel
theorem dX11_howManyPay_2 : decode cX11_howManyPay 2 = .ok (.iconst 0, 1) := by decide +kernel
theorem dX11_howManyPay_3 : decode cX11_howManyPay 3 = .ok (.istore 4, 2) := by decide +kernel
theorem dX11_howManyPay_5 : decode cX11_howManyPay 5 = .ok (.iload 4, 2) := by decide +kernel
theorem dX11_howManyPay_7 : decode cX11_howManyPay 7 = .ok (.iload_n 2, 1) := by decide +kernel
theorem dX11_howManyPay_8 : decode cX11_howManyPay 8 = .ok (.if_icmp .ge 23, 3) := by decide +kernel
theorem dX11_howManyPay_11 : decode cX11_howManyPay 11 = .ok (.aload_n 0, 1) := by decide +kernel
theorem dX11_howManyPay_12 : decode cX11_howManyPay 12 = .ok (.getfield 65, 3) := by decide +kernel
theorem dX11_howManyPay_15 : decode cX11_howManyPay 15 = .ok (.iload 4, 2) := by decide +kernel
theorem dX11_howManyPay_17 : decode cX11_howManyPay 17 = .ok (.iaload, 1) := by decide +kernel
theorem dX11_howManyPay_18 : decode cX11_howManyPay 18 = .ok (.iload_n 1, 1) := by decide +kernel
theorem dX11_howManyPay_19 : decode cX11_howManyPay 19 = .ok (.if_icmp .lt 6, 3) := by decide +kernel
theorem dX11_howManyPay_22 : decode cX11_howManyPay 22 = .ok (.iinc 3 1, 3) := by decide +kernel
theorem dX11_howManyPay_25 : decode cX11_howManyPay 25 = .ok (.iinc 4 1, 3) := by decide +kernel
theorem dX11_howManyPay_28 : decode cX11_howManyPay 28 = .ok (.goto (-23), 3) := by decide +kernel
theorem dX11_howManyPay_31 : decode cX11_howManyPay 31 = .ok (.iload_n 3, 1) := by decide +kernel
theorem dX11_howManyPay_32 : decode cX11_howManyPay 32 = .ok (.ireturn, 1) := by decide +kernel
theorem dX11_flat_0 : decode cX11_flat 0 = .ok (.iconst 0, 1) := by decide +kernel
theorem dX11_flat_1 : decode cX11_flat 1 = .ok (.istore_n 1, 1) := by decide +kernel
theorem dX11_flat_2 : decode cX11_flat 2 = .ok (.iconst 0, 1) := by decide +kernel
theorem dX11_flat_3 : decode cX11_flat 3 = .ok (.istore_n 2, 1) := by decide +kernel
theorem dX11_flat_4 : decode cX11_flat 4 = .ok (.iload_n 2, 1) := by decide +kernel
theorem dX11_flat_5 : decode cX11_flat 5 = .ok (.aload_n 0, 1) := by decide +kernel
theorem dX11_flat_6 : decode cX11_flat 6 = .ok (.getfield 10, 3) := by decide +kernel
theorem dX11_flat_9 : decode cX11_flat 9 = .ok (.getfield 113, 3) := by decide +kernel
theorem dX11_flat_12 : decode cX11_flat 12 = .ok (.if_icmp .ge 38, 3) := by decide +kernel
theorem dX11_flat_15 : decode cX11_flat 15 = .ok (.aload_n 0, 1) := by decide +kernel
theorem dX11_flat_16 : decode cX11_flat 16 = .ok (.getfield 10, 3) := by decide +kernel
theorem dX11_flat_19 : decode cX11_flat 19 = .ok (.getfield 116, 3) := by decide +kernel
theorem dX11_flat_22 : decode cX11_flat 22 = .ok (.iload_n 2, 1) := by decide +kernel
theorem dX11_flat_23 : decode cX11_flat 23 = .ok (.aaload, 1) := by decide +kernel
theorem dX11_flat_24 : decode cX11_flat 24 = .ok (.getfield 150, 3) := by decide +kernel
theorem dX11_flat_27 : decode cX11_flat 27 = .ok (.ifCond .le 17, 3) := by decide +kernel
theorem dX11_flat_30 : decode cX11_flat 30 = .ok (.aload_n 0, 1) := by decide +kernel
theorem dX11_flat_31 : decode cX11_flat 31 = .ok (.getfield 10, 3) := by decide +kernel
theorem dX11_flat_34 : decode cX11_flat 34 = .ok (.iload_n 2, 1) := by decide +kernel
theorem dX11_flat_35 : decode cX11_flat 35 = .ok (.invokevirtual 246, 3) := by decide +kernel
theorem dX11_flat_38 : decode cX11_flat 38 = .ok (.ifCond .eq 6, 3) := by decide +kernel
theorem dX11_flat_41 : decode cX11_flat 41 = .ok (.iinc 1 1, 3) := by decide +kernel
theorem dX11_flat_44 : decode cX11_flat 44 = .ok (.iinc 2 1, 3) := by decide +kernel
theorem dX11_flat_47 : decode cX11_flat 47 = .ok (.goto (-43), 3) := by decide +kernel
theorem dX11_flat_50 : decode cX11_flat 50 = .ok (.iload_n 1, 1) := by decide +kernel
theorem dX11_flat_51 : decode cX11_flat 51 = .ok (.ireturn, 1) := by decide +kernel
theorem dX11_thursday_0 : decode cX11_thursday 0 = .ok (.aload_n 0, 1) := by decide +kernel
theorem dX11_thursday_1 : decode cX11_thursday 1 = .ok (.iload_n 1, 1) := by decide +kernel
theorem dX11_thursday_2 : decode cX11_thursday 2 = .ok (.invokevirtual 254, 3) := by decide +kernel
theorem dX11_thursday_5 : decode cX11_thursday 5 = .ok (.istore_n 2, 1) := by decide +kernel
theorem dX11_thursday_6 : decode cX11_thursday 6 = .ok (.iload_n 2, 1) := by decide +kernel
theorem dX11_thursday_7 : decode cX11_thursday 7 = .ok (.ifCond .eq 5, 3) := by decide +kernel
theorem dX11_thursday_10 : decode cX11_thursday 10 = .ok (.iload_n 2, 1) := by decide +kernel
theorem dX11_thursday_11 : decode cX11_thursday 11 = .ok (.ireturn, 1) := by decide +kernel
theorem dX11_thursday_12 : decode cX11_thursday 12 = .ok (.iconst 0, 1) := by decide +kernel
theorem dX11_thursday_13 : decode cX11_thursday 13 = .ok (.istore_n 3, 1) := by decide +kernel
theorem dX11_thursday_14 : decode cX11_thursday 14 = .ok (.iconst 0, 1) := by decide +kernel
theorem dX11_thursday_15 : decode cX11_thursday 15 = .ok (.istore 4, 2) := by decide +kernel
theorem dX11_thursday_17 : decode cX11_thursday 17 = .ok (.iload 4, 2) := by decide +kernel
theorem dX11_thursday_19 : decode cX11_thursday 19 = .ok (.aload_n 0, 1) := by decide +kernel
theorem dX11_thursday_20 : decode cX11_thursday 20 = .ok (.getfield 10, 3) := by decide +kernel
theorem dX11_thursday_23 : decode cX11_thursday 23 = .ok (.getfield 113, 3) := by decide +kernel
theorem dX11_thursday_26 : decode cX11_thursday 26 = .ok (.if_icmp .ge 37, 3) := by decide +kernel
theorem dX11_thursday_29 : decode cX11_thursday 29 = .ok (.aload_n 0, 1) := by decide +kernel
theorem dX11_thursday_30 : decode cX11_thursday 30 = .ok (.getfield 10, 3) := by decide +kernel
theorem dX11_thursday_33 : decode cX11_thursday 33 = .ok (.getfield 116, 3) := by decide +kernel
theorem dX11_thursday_36 : decode cX11_thursday 36 = .ok (.iload 4, 2) := by decide +kernel
theorem dX11_thursday_38 : decode cX11_thursday 38 = .ok (.aaload, 1) := by decide +kernel
theorem dX11_thursday_39 : decode cX11_thursday 39 = .ok (.getfield 150, 3) := by decide +kernel
theorem dX11_thursday_42 : decode cX11_thursday 42 = .ok (.aload_n 0, 1) := by decide +kernel
theorem dX11_thursday_43 : decode cX11_thursday 43 = .ok (.getfield 52, 3) := by decide +kernel
theorem dX11_thursday_46 : decode cX11_thursday 46 = .ok (.iload_n 1, 1) := by decide +kernel
theorem dX11_thursday_47 : decode cX11_thursday 47 = .ok (.aaload, 1) := by decide +kernel
theorem dX11_thursday_48 : decode cX11_thursday 48 = .ok (.iload 4, 2) := by decide +kernel
theorem dX11_thursday_50 : decode cX11_thursday 50 = .ok (.iaload, 1) := by decide +kernel
theorem dX11_thursday_51 : decode cX11_thursday 51 = .ok (.if_icmp .eq 6, 3) := by decide +kernel
theorem dX11_thursday_54 : decode cX11_thursday 54 = .ok (.iinc 3 1, 3) := by decide +kernel
theorem dX11_thursday_57 : decode cX11_thursday 57 = .ok (.iinc 4 1, 3) := by decide +kernel
theorem dX11_thursday_60 : decode cX11_thursday 60 = .ok (.goto (-43), 3) := by decide +kernel
theorem dX11_thursday_63 : decode cX11_thursday 63 = .ok (.iload_n 3, 1) := by decide +kernel
theorem dX11_thursday_64 : decode cX11_thursday 64 = .ok (.ireturn, 1) := by decide +kernel
theorem dX11_image_0 : decode cX11_image 0 = .ok (.aload_n 0, 1) := by decide +kernel
theorem dX11_image_1 : decode cX11_image 1 = .ok (.getfield 19, 3) := by decide +kernel
theorem dX11_image_4 : decode cX11_image 4 = .ok (.aload_n 0, 1) := by decide +kernel
theorem dX11_image_5 : decode cX11_image 5 = .ok (.getfield 10, 3) := by decide +kernel
theorem dX11_image_8 : decode cX11_image 8 = .ok (.aload_n 0, 1) := by decide +kernel
theorem dX11_image_9 : decode cX11_image 9 = .ok (.getfield 44, 3) := by decide +kernel
theorem dX11_image_12 : decode cX11_image 12 = .ok (.invokevirtual 348, 3) := by decide +kernel
theorem dX11_image_15 : decode cX11_image 15 = .ok (.aload_n 0, 1) := by decide +kernel
theorem dX11_image_16 : decode cX11_image 16 = .ok (.getfield 10, 3) := by decide +kernel
theorem dX11_image_19 : decode cX11_image 19 = .ok (.getfield 113, 3) := by decide +kernel
theorem dX11_image_22 : decode cX11_image 22 = .ok (.ireturn, 1) := by decide +kernel
theorem dX11_back_0 : decode cX11_back 0 = .ok (.aload_n 0, 1) := by decide +kernel
theorem dX11_back_1 : decode cX11_back 1 = .ok (.getfield 19, 3) := by decide +kernel
theorem dX11_back_4 : decode cX11_back 4 = .ok (.getfield 352, 3) := by decide +kernel
theorem dX11_back_7 : decode cX11_back 7 = .ok (.ifCond .ne 6, 3) := by decide +kernel
theorem dX11_back_10 : decode cX11_back 10 = .ok (.bipush (-3), 2) := by decide +kernel
theorem dX11_back_12 : decode cX11_back 12 = .ok (.ireturn, 1) := by decide +kernel
theorem dX11_back_13 : decode cX11_back 13 = .ok (.aload_n 0, 1) := by decide +kernel
theorem dX11_back_14 : decode cX11_back 14 = .ok (.getfield 19, 3) := by decide +kernel
theorem dX11_back_17 : decode cX11_back 17 = .ok (.aload_n 0, 1) := by decide +kernel
theorem dX11_back_18 : decode cX11_back 18 = .ok (.getfield 10, 3) := by decide +kernel
theorem dX11_back_21 : decode cX11_back 21 = .ok (.invokevirtual 355, 3) := by decide +kernel
theorem dX11_back_24 : decode cX11_back 24 = .ok (.aload_n 0, 1) := by decide +kernel
theorem dX11_back_25 : decode cX11_back 25 = .ok (.aload_n 0, 1) := by decide +kernel
theorem dX11_back_26 : decode cX11_back 26 = .ok (.getfield 19, 3) := by decide +kernel
theorem dX11_back_29 : decode cX11_back 29 = .ok (.getfield 359, 3) := by decide +kernel
theorem dX11_back_32 : decode cX11_back 32 = .ok (.invokevirtual 361, 3) := by decide +kernel
theorem dX11_back_35 : decode cX11_back 35 = .ok (.pop, 1) := by decide +kernel
theorem dX11_back_36 : decode cX11_back 36 = .ok (.aload_n 0, 1) := by decide +kernel
theorem dX11_back_37 : decode cX11_back 37 = .ok (.getfield 10, 3) := by decide +kernel
theorem dX11_back_40 : decode cX11_back 40 = .ok (.getfield 113, 3) := by decide +kernel
theorem dX11_back_43 : decode cX11_back 43 = .ok (.ireturn, 1) := by decide +kernel
theorem dX11_sheet_0 : decode cX11_sheet 0 = .ok (.iload_n 1, 1) := by decide +kernel
theorem dX11_sheet_1 : decode cX11_sheet 1 = .ok (.iconst 0, 1) := by decide +kernel
theorem dX11_sheet_2 : decode cX11_sheet 2 = .ok (.iconst 3, 1) := by decide +kernel
theorem dX11_sheet_3 : decode cX11_sheet 3 = .ok (.invokestatic 100, 3) := by decide +kernel
theorem dX11_sheet_6 : decode cX11_sheet 6 = .ok (.ifCond .eq 12, 3) := by decide +kernel
theorem dX11_sheet_9 : decode cX11_sheet 9 = .ok (.iload_n 2, 1) := by decide +kernel
theorem dX11_sheet_10 : decode cX11_sheet 10 = .ok (.iconst (-1), 1) := by decide +kernel
theorem dX11_sheet_11 : decode cX11_sheet 11 = .ok (.iconst 2, 1) := by decide +kernel
theorem dX11_sheet_12 : decode cX11_sheet 12 = .ok (.invokestatic 100, 3) := by decide +kernel
theorem dX11_sheet_15 : decode cX11_sheet 15 = .ok (.ifCond .ne 6, 3) := by decide +kernel
theorem dX11_sheet_18 : decode cX11_sheet 18 = .ok (.bipush (-2), 2) := by decide +kernel
theorem dX11_sheet_20 : decode cX11_sheet 20 = .ok (.ireturn, 1) := by decide +kernel
theorem dX11_sheet_21 : decode cX11_sheet 21 = .ok (.iload_n 2, 1) := by decide +kernel
theorem dX11_sheet_22 : decode cX11_sheet 22 = .ok (.iconst (-1), 1) := by decide +kernel
theorem dX11_sheet_23 : decode cX11_sheet 23 = .ok (.if_icmp .ne 12, 3) := by decide +kernel
theorem dX11_sheet_26 : decode cX11_sheet 26 = .ok (.aload_n 0, 1) := by decide +kernel
theorem dX11_sheet_27 : decode cX11_sheet 27 = .ok (.getfield 55, 3) := by decide +kernel
theorem dX11_sheet_30 : decode cX11_sheet 30 = .ok (.iload_n 1, 1) := by decide +kernel
theorem dX11_sheet_31 : decode cX11_sheet 31 = .ok (.iconst (-1), 1) := by decide +kernel
theorem dX11_sheet_32 : decode cX11_sheet 32 = .ok (.iastore, 1) := by decide +kernel
theorem dX11_sheet_33 : decode cX11_sheet 33 = .ok (.iconst 1, 1) := by decide +kernel
theorem dX11_sheet_34 : decode cX11_sheet 34 = .ok (.ireturn, 1) := by decide +kernel
theorem dX11_sheet_35 : decode cX11_sheet 35 = .ok (.iload_n 3, 1) := by decide +kernel
theorem dX11_sheet_36 : decode cX11_sheet 36 = .ok (.bipush 60, 2) := by decide +kernel
theorem dX11_sheet_38 : decode cX11_sheet 38 = .ok (.if_icmp .le 6, 3) := by decide +kernel
theorem dX11_sheet_41 : decode cX11_sheet 41 = .ok (.bipush (-2), 2) := by decide +kernel
theorem dX11_sheet_43 : decode cX11_sheet 43 = .ok (.ireturn, 1) := by decide +kernel
theorem dX11_sheet_44 : decode cX11_sheet 44 = .ok (.iload_n 3, 1) := by decide +kernel
theorem dX11_sheet_45 : decode cX11_sheet 45 = .ok (.ifCond .ge 6, 3) := by decide +kernel
theorem dX11_sheet_48 : decode cX11_sheet 48 = .ok (.bipush (-14), 2) := by decide +kernel
theorem dX11_sheet_50 : decode cX11_sheet 50 = .ok (.ireturn, 1) := by decide +kernel
theorem dX11_sheet_51 : decode cX11_sheet 51 = .ok (.aload_n 0, 1) := by decide +kernel
theorem dX11_sheet_52 : decode cX11_sheet 52 = .ok (.getfield 55, 3) := by decide +kernel
theorem dX11_sheet_55 : decode cX11_sheet 55 = .ok (.iload_n 1, 1) := by decide +kernel
theorem dX11_sheet_56 : decode cX11_sheet 56 = .ok (.iload_n 2, 1) := by decide +kernel
theorem dX11_sheet_57 : decode cX11_sheet 57 = .ok (.iastore, 1) := by decide +kernel
theorem dX11_sheet_58 : decode cX11_sheet 58 = .ok (.aload_n 0, 1) := by decide +kernel
theorem dX11_sheet_59 : decode cX11_sheet 59 = .ok (.getfield 59, 3) := by decide +kernel
theorem dX11_sheet_62 : decode cX11_sheet 62 = .ok (.iload_n 1, 1) := by decide +kernel
theorem dX11_sheet_63 : decode cX11_sheet 63 = .ok (.iload_n 3, 1) := by decide +kernel
theorem dX11_sheet_64 : decode cX11_sheet 64 = .ok (.iastore, 1) := by decide +kernel
theorem dX11_sheet_65 : decode cX11_sheet 65 = .ok (.iconst 0, 1) := by decide +kernel
theorem dX11_sheet_66 : decode cX11_sheet 66 = .ok (.istore 4, 2) := by decide +kernel
theorem dX11_sheet_68 : decode cX11_sheet 68 = .ok (.iload 4, 2) := by decide +kernel
theorem dX11_sheet_70 : decode cX11_sheet 70 = .ok (.iload_n 3, 1) := by decide +kernel
theorem dX11_sheet_71 : decode cX11_sheet 71 = .ok (.if_icmp .ge 19, 3) := by decide +kernel
theorem dX11_sheet_74 : decode cX11_sheet 74 = .ok (.aload_n 0, 1) := by decide +kernel
theorem dX11_sheet_75 : decode cX11_sheet 75 = .ok (.getfield 52, 3) := by decide +kernel
theorem dX11_sheet_78 : decode cX11_sheet 78 = .ok (.iload_n 1, 1) := by decide +kernel
theorem dX11_sheet_79 : decode cX11_sheet 79 = .ok (.aaload, 1) := by decide +kernel
theorem dX11_sheet_80 : decode cX11_sheet 80 = .ok (.iload 4, 2) := by decide +kernel
theorem dX11_sheet_82 : decode cX11_sheet 82 = .ok (.iconst 0, 1) := by decide +kernel
theorem dX11_sheet_83 : decode cX11_sheet 83 = .ok (.iastore, 1) := by decide +kernel
theorem dX11_sheet_84 : decode cX11_sheet 84 = .ok (.iinc 4 1, 3) := by decide +kernel
theorem dX11_sheet_87 : decode cX11_sheet 87 = .ok (.goto (-19), 3) := by decide +kernel
theorem dX11_sheet_90 : decode cX11_sheet 90 = .ok (.iconst 1, 1) := by decide +kernel
theorem dX11_sheet_91 : decode cX11_sheet 91 = .ok (.ireturn, 1) := by decide +kernel
theorem dX11_refusalOfSheet_0 : decode cX11_refusalOfSheet 0 = .ok (.iload_n 1, 1) := by decide +kernel
theorem dX11_refusalOfSheet_1 : decode cX11_refusalOfSheet 1 = .ok (.iconst 0, 1) := by decide +kernel
theorem dX11_refusalOfSheet_2 : decode cX11_refusalOfSheet 2 = .ok (.iconst 3, 1) := by decide +kernel
theorem dX11_refusalOfSheet_3 : decode cX11_refusalOfSheet 3 = .ok (.invokestatic 100, 3) := by decide +kernel
theorem dX11_refusalOfSheet_6 : decode cX11_refusalOfSheet 6 = .ok (.ifCond .ne 6, 3) := by decide +kernel
theorem dX11_refusalOfSheet_9 : decode cX11_refusalOfSheet 9 = .ok (.bipush (-2), 2) := by decide +kernel
theorem dX11_refusalOfSheet_11 : decode cX11_refusalOfSheet 11 = .ok (.ireturn, 1) := by decide +kernel
theorem dX11_refusalOfSheet_12 : decode cX11_refusalOfSheet 12 = .ok (.aload_n 0, 1) := by decide +kernel
theorem dX11_refusalOfSheet_13 : decode cX11_refusalOfSheet 13 = .ok (.getfield 55, 3) := by decide +kernel
theorem dX11_refusalOfSheet_16 : decode cX11_refusalOfSheet 16 = .ok (.iload_n 1, 1) := by decide +kernel
theorem dX11_refusalOfSheet_17 : decode cX11_refusalOfSheet 17 = .ok (.iaload, 1) := by decide +kernel
theorem dX11_refusalOfSheet_18 : decode cX11_refusalOfSheet 18 = .ok (.iconst (-1), 1) := by decide +kernel
theorem dX11_refusalOfSheet_19 : decode cX11_refusalOfSheet 19 = .ok (.if_icmp .ne 8, 3) := by decide +kernel
theorem dX11_refusalOfSheet_22 : decode cX11_refusalOfSheet 22 = .ok (.bipush (-11), 2) := by decide +kernel
theorem dX11_refusalOfSheet_24 : decode cX11_refusalOfSheet 24 = .ok (.goto 4, 3) := by decide +kernel
theorem dX11_refusalOfSheet_27 : decode cX11_refusalOfSheet 27 = .ok (.iconst 0, 1) := by decide +kernel
theorem dX11_refusalOfSheet_28 : decode cX11_refusalOfSheet 28 = .ok (.ireturn, 1) := by decide +kernel
theorem dX11_cell_0 : decode cX11_cell 0 = .ok (.aload_n 0, 1) := by decide +kernel
theorem dX11_cell_1 : decode cX11_cell 1 = .ok (.iload_n 1, 1) := by decide +kernel
theorem dX11_cell_2 : decode cX11_cell 2 = .ok (.invokevirtual 266, 3) := by decide +kernel
theorem dX11_cell_5 : decode cX11_cell 5 = .ok (.istore 4, 2) := by decide +kernel
theorem dX11_cell_7 : decode cX11_cell 7 = .ok (.iload 4, 2) := by decide +kernel
theorem dX11_cell_9 : decode cX11_cell 9 = .ok (.ifCond .eq 6, 3) := by decide +kernel
theorem dX11_cell_12 : decode cX11_cell 12 = .ok (.iload 4, 2) := by decide +kernel
theorem dX11_cell_14 : decode cX11_cell 14 = .ok (.ireturn, 1) := by decide +kernel
theorem dX11_cell_15 : decode cX11_cell 15 = .ok (.iload_n 2, 1) := by decide +kernel
theorem dX11_cell_16 : decode cX11_cell 16 = .ok (.ifCond .lt 13, 3) := by decide +kernel
theorem dX11_cell_19 : decode cX11_cell 19 = .ok (.iload_n 2, 1) := by decide +kernel
theorem dX11_cell_20 : decode cX11_cell 20 = .ok (.aload_n 0, 1) := by decide +kernel
theorem dX11_cell_21 : decode cX11_cell 21 = .ok (.getfield 59, 3) := by decide +kernel
theorem dX11_cell_24 : decode cX11_cell 24 = .ok (.iload_n 1, 1) := by decide +kernel
theorem dX11_cell_25 : decode cX11_cell 25 = .ok (.iaload, 1) := by decide +kernel
theorem dX11_cell_26 : decode cX11_cell 26 = .ok (.if_icmp .lt 6, 3) := by decide +kernel
theorem dX11_cell_29 : decode cX11_cell 29 = .ok (.bipush (-12), 2) := by decide +kernel
theorem dX11_cell_31 : decode cX11_cell 31 = .ok (.ireturn, 1) := by decide +kernel
theorem dX11_cell_32 : decode cX11_cell 32 = .ok (.aload_n 0, 1) := by decide +kernel
theorem dX11_cell_33 : decode cX11_cell 33 = .ok (.getfield 52, 3) := by decide +kernel
theorem dX11_cell_36 : decode cX11_cell 36 = .ok (.iload_n 1, 1) := by decide +kernel
theorem dX11_cell_37 : decode cX11_cell 37 = .ok (.aaload, 1) := by decide +kernel
theorem dX11_cell_38 : decode cX11_cell 38 = .ok (.iload_n 2, 1) := by decide +kernel
theorem dX11_cell_39 : decode cX11_cell 39 = .ok (.aload_n 0, 1) := by decide +kernel
theorem dX11_cell_40 : decode cX11_cell 40 = .ok (.getfield 55, 3) := by decide +kernel
theorem dX11_cell_43 : decode cX11_cell 43 = .ok (.iload_n 1, 1) := by decide +kernel
theorem dX11_cell_44 : decode cX11_cell 44 = .ok (.iaload, 1) := by decide +kernel
theorem dX11_cell_45 : decode cX11_cell 45 = .ok (.ifCond .ne 8, 3) := by decide +kernel
theorem dX11_cell_48 : decode cX11_cell 48 = .ok (.iload_n 3, 1) := by decide +kernel
theorem dX11_cell_49 : decode cX11_cell 49 = .ok (.i2b, 1) := by decide +kernel
theorem dX11_cell_50 : decode cX11_cell 50 = .ok (.goto 19, 3) := by decide +kernel
theorem dX11_cell_53 : decode cX11_cell 53 = .ok (.aload_n 0, 1) := by decide +kernel
theorem dX11_cell_54 : decode cX11_cell 54 = .ok (.getfield 55, 3) := by decide +kernel
theorem dX11_cell_57 : decode cX11_cell 57 = .ok (.iload_n 1, 1) := by decide +kernel
theorem dX11_cell_58 : decode cX11_cell 58 = .ok (.iaload, 1) := by decide +kernel
theorem dX11_cell_59 : decode cX11_cell 59 = .ok (.iconst 1, 1) := by decide +kernel
theorem dX11_cell_60 : decode cX11_cell 60 = .ok (.if_icmp .ne 8, 3) := by decide +kernel
theorem dX11_cell_63 : decode cX11_cell 63 = .ok (.iload_n 3, 1) := by decide +kernel
theorem dX11_cell_64 : decode cX11_cell 64 = .ok (.i2s, 1) := by decide +kernel
theorem dX11_cell_65 : decode cX11_cell 65 = .ok (.goto 4, 3) := by decide +kernel
theorem dX11_cell_68 : decode cX11_cell 68 = .ok (.iload_n 3, 1) := by decide +kernel
theorem dX11_cell_69 : decode cX11_cell 69 = .ok (.iastore, 1) := by decide +kernel
theorem dX11_cell_70 : decode cX11_cell 70 = .ok (.iconst 1, 1) := by decide +kernel
theorem dX11_cell_71 : decode cX11_cell 71 = .ok (.ireturn, 1) := by decide +kernel
theorem dX11_copy_0 : decode cX11_copy 0 = .ok (.iload_n 1, 1) := by decide +kernel
theorem dX11_copy_1 : decode cX11_copy 1 = .ok (.iconst 0, 1) := by decide +kernel
theorem dX11_copy_2 : decode cX11_copy 2 = .ok (.iconst 3, 1) := by decide +kernel
theorem dX11_copy_3 : decode cX11_copy 3 = .ok (.invokestatic 100, 3) := by decide +kernel
theorem dX11_copy_6 : decode cX11_copy 6 = .ok (.ifCond .eq 12, 3) := by decide +kernel
theorem dX11_copy_9 : decode cX11_copy 9 = .ok (.iload_n 3, 1) := by decide +kernel
theorem dX11_copy_10 : decode cX11_copy 10 = .ok (.iconst 0, 1) := by decide +kernel
theorem dX11_copy_11 : decode cX11_copy 11 = .ok (.iconst 3, 1) := by decide +kernel
theorem dX11_copy_12 : decode cX11_copy 12 = .ok (.invokestatic 100, 3) := by decide +kernel
theorem dX11_copy_15 : decode cX11_copy 15 = .ok (.ifCond .ne 6, 3) := by decide +kernel
theorem dX11_copy_18 : decode cX11_copy 18 = .ok (.bipush (-2), 2) := by decide +kernel
theorem dX11_copy_20 : decode cX11_copy 20 = .ok (.ireturn, 1) := by decide +kernel
theorem dX11_copy_21 : decode cX11_copy 21 = .ok (.aload_n 0, 1) := by decide +kernel
theorem dX11_copy_22 : decode cX11_copy 22 = .ok (.getfield 55, 3) := by decide +kernel
theorem dX11_copy_25 : decode cX11_copy 25 = .ok (.iload_n 1, 1) := by decide +kernel
theorem dX11_copy_26 : decode cX11_copy 26 = .ok (.iaload, 1) := by decide +kernel
theorem dX11_copy_27 : decode cX11_copy 27 = .ok (.iconst (-1), 1) := by decide +kernel
theorem dX11_copy_28 : decode cX11_copy 28 = .ok (.if_icmp .eq 13, 3) := by decide +kernel
theorem dX11_copy_31 : decode cX11_copy 31 = .ok (.aload_n 0, 1) := by decide +kernel
theorem dX11_copy_32 : decode cX11_copy 32 = .ok (.getfield 55, 3) := by decide +kernel
theorem dX11_copy_35 : decode cX11_copy 35 = .ok (.iload_n 3, 1) := by decide +kernel
theorem dX11_copy_36 : decode cX11_copy 36 = .ok (.iaload, 1) := by decide +kernel
theorem dX11_copy_37 : decode cX11_copy 37 = .ok (.iconst (-1), 1) := by decide +kernel
theorem dX11_copy_38 : decode cX11_copy 38 = .ok (.if_icmp .ne 6, 3) := by decide +kernel
theorem dX11_copy_41 : decode cX11_copy 41 = .ok (.bipush (-11), 2) := by decide +kernel
theorem dX11_copy_43 : decode cX11_copy 43 = .ok (.ireturn, 1) := by decide +kernel
theorem dX11_copy_44 : decode cX11_copy 44 = .ok (.aload_n 0, 1) := by decide +kernel
theorem dX11_copy_45 : decode cX11_copy 45 = .ok (.getfield 55, 3) := by decide +kernel
theorem dX11_copy_48 : decode cX11_copy 48 = .ok (.iload_n 1, 1) := by decide +kernel
theorem dX11_copy_49 : decode cX11_copy 49 = .ok (.iaload, 1) := by decide +kernel
theorem dX11_copy_50 : decode cX11_copy 50 = .ok (.aload_n 0, 1) := by decide +kernel
theorem dX11_copy_51 : decode cX11_copy 51 = .ok (.getfield 55, 3) := by decide +kernel
theorem dX11_copy_54 : decode cX11_copy 54 = .ok (.iload_n 3, 1) := by decide +kernel
theorem dX11_copy_55 : decode cX11_copy 55 = .ok (.iaload, 1) := by decide +kernel
theorem dX11_copy_56 : decode cX11_copy 56 = .ok (.if_icmp .eq 6, 3) := by decide +kernel
theorem dX11_copy_59 : decode cX11_copy 59 = .ok (.bipush (-13), 2) := by decide +kernel
theorem dX11_copy_61 : decode cX11_copy 61 = .ok (.ireturn, 1) := by decide +kernel
theorem dX11_copy_62 : decode cX11_copy 62 = .ok (.iload 5, 2) := by decide +kernel
theorem dX11_copy_64 : decode cX11_copy 64 = .ok (.ifCond .lt 39, 3) := by decide +kernel
theorem dX11_copy_67 : decode cX11_copy 67 = .ok (.iload_n 2, 1) := by decide +kernel
theorem dX11_copy_68 : decode cX11_copy 68 = .ok (.ifCond .lt 35, 3) := by decide +kernel
theorem dX11_copy_71 : decode cX11_copy 71 = .ok (.iload 4, 2) := by decide +kernel
theorem dX11_copy_73 : decode cX11_copy 73 = .ok (.ifCond .lt 30, 3) := by decide +kernel
theorem dX11_copy_76 : decode cX11_copy 76 = .ok (.iload_n 2, 1) := by decide +kernel
theorem dX11_copy_77 : decode cX11_copy 77 = .ok (.aload_n 0, 1) := by decide +kernel
theorem dX11_copy_78 : decode cX11_copy 78 = .ok (.getfield 59, 3) := by decide +kernel
theorem dX11_copy_81 : decode cX11_copy 81 = .ok (.iload_n 1, 1) := by decide +kernel
theorem dX11_copy_82 : decode cX11_copy 82 = .ok (.iaload, 1) := by decide +kernel
theorem dX11_copy_83 : decode cX11_copy 83 = .ok (.iload 5, 2) := by decide +kernel
theorem dX11_copy_85 : decode cX11_copy 85 = .ok (.isub, 1) := by decide +kernel
theorem dX11_copy_86 : decode cX11_copy 86 = .ok (.if_icmp .gt 17, 3) := by decide +kernel
theorem dX11_copy_89 : decode cX11_copy 89 = .ok (.iload 4, 2) := by decide +kernel
theorem dX11_copy_91 : decode cX11_copy 91 = .ok (.aload_n 0, 1) := by decide +kernel
theorem dX11_copy_92 : decode cX11_copy 92 = .ok (.getfield 59, 3) := by decide +kernel
theorem dX11_copy_95 : decode cX11_copy 95 = .ok (.iload_n 3, 1) := by decide +kernel
theorem dX11_copy_96 : decode cX11_copy 96 = .ok (.iaload, 1) := by decide +kernel
theorem dX11_copy_97 : decode cX11_copy 97 = .ok (.iload 5, 2) := by decide +kernel
theorem dX11_copy_99 : decode cX11_copy 99 = .ok (.isub, 1) := by decide +kernel
theorem dX11_copy_100 : decode cX11_copy 100 = .ok (.if_icmp .le 6, 3) := by decide +kernel
theorem dX11_copy_103 : decode cX11_copy 103 = .ok (.bipush (-12), 2) := by decide +kernel
theorem dX11_copy_105 : decode cX11_copy 105 = .ok (.ireturn, 1) := by decide +kernel
theorem dX11_copy_106 : decode cX11_copy 106 = .ok (.aload_n 0, 1) := by decide +kernel
theorem dX11_copy_107 : decode cX11_copy 107 = .ok (.getfield 52, 3) := by decide +kernel
theorem dX11_copy_110 : decode cX11_copy 110 = .ok (.iload_n 1, 1) := by decide +kernel
theorem dX11_copy_111 : decode cX11_copy 111 = .ok (.aaload, 1) := by decide +kernel
theorem dX11_copy_112 : decode cX11_copy 112 = .ok (.iload_n 2, 1) := by decide +kernel
theorem dX11_copy_113 : decode cX11_copy 113 = .ok (.aload_n 0, 1) := by decide +kernel
theorem dX11_copy_114 : decode cX11_copy 114 = .ok (.getfield 52, 3) := by decide +kernel
theorem dX11_copy_117 : decode cX11_copy 117 = .ok (.iload_n 3, 1) := by decide +kernel
theorem dX11_copy_118 : decode cX11_copy 118 = .ok (.aaload, 1) := by decide +kernel
theorem dX11_copy_119 : decode cX11_copy 119 = .ok (.iload 4, 2) := by decide +kernel
theorem dX11_copy_121 : decode cX11_copy 121 = .ok (.iload 5, 2) := by decide +kernel
theorem dX11_copy_123 : decode cX11_copy 123 = .ok (.invokestatic 364, 3) := by decide +kernel
theorem dX11_copy_126 : decode cX11_copy 126 = .ok (.iload 5, 2) := by decide +kernel
theorem dX11_copy_128 : decode cX11_copy 128 = .ok (.ireturn, 1) := by decide +kernel
theorem dX11_sitters_0 : decode cX11_sitters 0 = .ok (.iload_n 1, 1) := by decide +kernel
theorem dX11_sitters_1 : decode cX11_sitters 1 = .ok (.iconst 0, 1) := by decide +kernel
theorem dX11_sitters_2 : decode cX11_sitters 2 = .ok (.iconst 3, 1) := by decide +kernel
theorem dX11_sitters_3 : decode cX11_sitters 3 = .ok (.invokestatic 100, 3) := by decide +kernel
theorem dX11_sitters_6 : decode cX11_sitters 6 = .ok (.ifCond .eq 23, 3) := by decide +kernel
theorem dX11_sitters_9 : decode cX11_sitters 9 = .ok (.iload_n 2, 1) := by decide +kernel
theorem dX11_sitters_10 : decode cX11_sitters 10 = .ok (.iconst 0, 1) := by decide +kernel
theorem dX11_sitters_11 : decode cX11_sitters 11 = .ok (.iconst 2, 1) := by decide +kernel
theorem dX11_sitters_12 : decode cX11_sitters 12 = .ok (.invokestatic 100, 3) := by decide +kernel
theorem dX11_sitters_15 : decode cX11_sitters 15 = .ok (.ifCond .eq 14, 3) := by decide +kernel
theorem dX11_sitters_18 : decode cX11_sitters 18 = .ok (.iload 4, 2) := by decide +kernel
theorem dX11_sitters_20 : decode cX11_sitters 20 = .ok (.iconst 0, 1) := by decide +kernel
theorem dX11_sitters_21 : decode cX11_sitters 21 = .ok (.bipush 8, 2) := by decide +kernel
theorem dX11_sitters_23 : decode cX11_sitters 23 = .ok (.invokestatic 100, 3) := by decide +kernel
theorem dX11_sitters_26 : decode cX11_sitters 26 = .ok (.ifCond .ne 6, 3) := by decide +kernel
theorem dX11_sitters_29 : decode cX11_sitters 29 = .ok (.bipush (-2), 2) := by decide +kernel
theorem dX11_sitters_31 : decode cX11_sitters 31 = .ok (.ireturn, 1) := by decide +kernel
theorem dX11_sitters_32 : decode cX11_sitters 32 = .ok (.aload_n 0, 1) := by decide +kernel
theorem dX11_sitters_33 : decode cX11_sitters 33 = .ok (.getfield 55, 3) := by decide +kernel
theorem dX11_sitters_36 : decode cX11_sitters 36 = .ok (.iload_n 1, 1) := by decide +kernel
theorem dX11_sitters_37 : decode cX11_sitters 37 = .ok (.iaload, 1) := by decide +kernel
theorem dX11_sitters_38 : decode cX11_sitters 38 = .ok (.iconst (-1), 1) := by decide +kernel
theorem dX11_sitters_39 : decode cX11_sitters 39 = .ok (.if_icmp .ne 6, 3) := by decide +kernel
theorem dX11_sitters_42 : decode cX11_sitters 42 = .ok (.bipush (-11), 2) := by decide +kernel
theorem dX11_sitters_44 : decode cX11_sitters 44 = .ok (.ireturn, 1) := by decide +kernel
theorem dX11_sitters_45 : decode cX11_sitters 45 = .ok (.aload_n 0, 1) := by decide +kernel
theorem dX11_sitters_46 : decode cX11_sitters 46 = .ok (.getfield 55, 3) := by decide +kernel
theorem dX11_sitters_49 : decode cX11_sitters 49 = .ok (.iload_n 1, 1) := by decide +kernel
theorem dX11_sitters_50 : decode cX11_sitters 50 = .ok (.iaload, 1) := by decide +kernel
theorem dX11_sitters_51 : decode cX11_sitters 51 = .ok (.iload_n 2, 1) := by decide +kernel
theorem dX11_sitters_52 : decode cX11_sitters 52 = .ok (.if_icmp .eq 6, 3) := by decide +kernel
theorem dX11_sitters_55 : decode cX11_sitters 55 = .ok (.bipush (-13), 2) := by decide +kernel
theorem dX11_sitters_57 : decode cX11_sitters 57 = .ok (.ireturn, 1) := by decide +kernel
theorem dX11_sitters_58 : decode cX11_sitters 58 = .ok (.iconst 0, 1) := by decide +kernel
theorem dX11_sitters_59 : decode cX11_sitters 59 = .ok (.istore 5, 2) := by decide +kernel
theorem dX11_sitters_61 : decode cX11_sitters 61 = .ok (.iconst 0, 1) := by decide +kernel
theorem dX11_sitters_62 : decode cX11_sitters 62 = .ok (.istore 6, 2) := by decide +kernel
theorem dX11_sitters_64 : decode cX11_sitters 64 = .ok (.iload 6, 2) := by decide +kernel
theorem dX11_sitters_66 : decode cX11_sitters 66 = .ok (.iload 4, 2) := by decide +kernel
theorem dX11_sitters_68 : decode cX11_sitters 68 = .ok (.if_icmp .ge 45, 3) := by decide +kernel
theorem dX11_sitters_71 : decode cX11_sitters 71 = .ok (.iload 6, 2) := by decide +kernel
theorem dX11_sitters_73 : decode cX11_sitters 73 = .ok (.aload_n 0, 1) := by decide +kernel
theorem dX11_sitters_74 : decode cX11_sitters 74 = .ok (.getfield 59, 3) := by decide +kernel
theorem dX11_sitters_77 : decode cX11_sitters 77 = .ok (.iload_n 1, 1) := by decide +kernel
theorem dX11_sitters_78 : decode cX11_sitters 78 = .ok (.iaload, 1) := by decide +kernel
theorem dX11_sitters_79 : decode cX11_sitters 79 = .ok (.if_icmp .lt 6, 3) := by decide +kernel
theorem dX11_sitters_82 : decode cX11_sitters 82 = .ok (.bipush (-12), 2) := by decide +kernel
theorem dX11_sitters_84 : decode cX11_sitters 84 = .ok (.ireturn, 1) := by decide +kernel
theorem dX11_sitters_85 : decode cX11_sitters 85 = .ok (.aload_n 0, 1) := by decide +kernel
theorem dX11_sitters_86 : decode cX11_sitters 86 = .ok (.iload_n 3, 1) := by decide +kernel
theorem dX11_sitters_87 : decode cX11_sitters 87 = .ok (.iload 6, 2) := by decide +kernel
theorem dX11_sitters_89 : decode cX11_sitters 89 = .ok (.aload_n 0, 1) := by decide +kernel
theorem dX11_sitters_90 : decode cX11_sitters 90 = .ok (.getfield 52, 3) := by decide +kernel
theorem dX11_sitters_93 : decode cX11_sitters 93 = .ok (.iload_n 1, 1) := by decide +kernel
theorem dX11_sitters_94 : decode cX11_sitters 94 = .ok (.aaload, 1) := by decide +kernel
theorem dX11_sitters_95 : decode cX11_sitters 95 = .ok (.iload 6, 2) := by decide +kernel
theorem dX11_sitters_97 : decode cX11_sitters 97 = .ok (.iaload, 1) := by decide +kernel
theorem dX11_sitters_98 : decode cX11_sitters 98 = .ok (.invokevirtual 370, 3) := by decide +kernel
theorem dX11_sitters_101 : decode cX11_sitters 101 = .ok (.ifCond .lt 6, 3) := by decide +kernel
theorem dX11_sitters_104 : decode cX11_sitters 104 = .ok (.iinc 5 1, 3) := by decide +kernel
theorem dX11_sitters_107 : decode cX11_sitters 107 = .ok (.iinc 6 1, 3) := by decide +kernel
theorem dX11_sitters_110 : decode cX11_sitters 110 = .ok (.goto (-46), 3) := by decide +kernel
theorem dX11_sitters_113 : decode cX11_sitters 113 = .ok (.iload 5, 2) := by decide +kernel
theorem dX11_sitters_115 : decode cX11_sitters 115 = .ok (.ireturn, 1) := by decide +kernel
theorem dX11_taken_0 : decode cX11_taken 0 = .ok (.iload_n 2, 1) := by decide +kernel
theorem dX11_taken_1 : decode cX11_taken 1 = .ok (.iconst 0, 1) := by decide +kernel
theorem dX11_taken_2 : decode cX11_taken 2 = .ok (.bipush 6, 2) := by decide +kernel
theorem dX11_taken_4 : decode cX11_taken 4 = .ok (.invokestatic 100, 3) := by decide +kernel
theorem dX11_taken_7 : decode cX11_taken 7 = .ok (.ifCond .ne 6, 3) := by decide +kernel
theorem dX11_taken_10 : decode cX11_taken 10 = .ok (.bipush (-2), 2) := by decide +kernel
theorem dX11_taken_12 : decode cX11_taken 12 = .ok (.ireturn, 1) := by decide +kernel
theorem dX11_taken_13 : decode cX11_taken 13 = .ok (.iload_n 1, 1) := by decide +kernel
theorem dX11_taken_14 : decode cX11_taken 14 = .ok (.iconst 0, 1) := by decide +kernel
theorem dX11_taken_15 : decode cX11_taken 15 = .ok (.bipush 11, 2) := by decide +kernel
theorem dX11_taken_17 : decode cX11_taken 17 = .ok (.invokestatic 100, 3) := by decide +kernel
theorem dX11_taken_20 : decode cX11_taken 20 = .ok (.ifCond .ne 6, 3) := by decide +kernel
theorem dX11_taken_23 : decode cX11_taken 23 = .ok (.bipush (-12), 2) := by decide +kernel
theorem dX11_taken_25 : decode cX11_taken 25 = .ok (.ireturn, 1) := by decide +kernel
theorem dX11_taken_26 : decode cX11_taken 26 = .ok (.iload_n 2, 1) := by decide +kernel
theorem dX11_taken_27 : decode cX11_taken 27 = .ok (.bipush 6, 2) := by decide +kernel
theorem dX11_taken_29 : decode cX11_taken 29 = .ok (.if_icmp .ne 7, 3) := by decide +kernel
theorem dX11_taken_32 : decode cX11_taken 32 = .ok (.iconst 1, 1) := by decide +kernel
theorem dX11_taken_33 : decode cX11_taken 33 = .ok (.goto 4, 3) := by decide +kernel
theorem dX11_taken_36 : decode cX11_taken 36 = .ok (.iconst 0, 1) := by decide +kernel
theorem dX11_taken_37 : decode cX11_taken 37 = .ok (.istore_n 3, 1) := by decide +kernel
theorem dX11_taken_38 : decode cX11_taken 38 = .ok (.iload_n 1, 1) := by decide +kernel
theorem dX11_taken_39 : decode cX11_taken 39 = .ok (.bipush 6, 2) := by decide +kernel
theorem dX11_taken_41 : decode cX11_taken 41 = .ok (.if_icmp .ge 33, 3) := by decide +kernel
theorem dX11_taken_44 : decode cX11_taken 44 = .ok (.aload_n 0, 1) := by decide +kernel
theorem dX11_taken_45 : decode cX11_taken 45 = .ok (.iload_n 1, 1) := by decide +kernel
theorem dX11_taken_46 : decode cX11_taken 46 = .ok (.invokevirtual 218, 3) := by decide +kernel
theorem dX11_taken_49 : decode cX11_taken 49 = .ok (.ifCond .ne 6, 3) := by decide +kernel
theorem dX11_taken_52 : decode cX11_taken 52 = .ok (.bipush (-11), 2) := by decide +kernel
theorem dX11_taken_54 : decode cX11_taken 54 = .ok (.ireturn, 1) := by decide +kernel
theorem dX11_taken_55 : decode cX11_taken 55 = .ok (.iload_n 3, 1) := by decide +kernel
theorem dX11_taken_56 : decode cX11_taken 56 = .ok (.ifCond .eq 15, 3) := by decide +kernel
theorem dX11_taken_59 : decode cX11_taken 59 = .ok (.aload_n 0, 1) := by decide +kernel
theorem dX11_taken_60 : decode cX11_taken 60 = .ok (.getfield 10, 3) := by decide +kernel
theorem dX11_taken_63 : decode cX11_taken 63 = .ok (.getfield 193, 3) := by decide +kernel
theorem dX11_taken_66 : decode cX11_taken 66 = .ok (.iload_n 1, 1) := by decide +kernel
theorem dX11_taken_67 : decode cX11_taken 67 = .ok (.iaload, 1) := by decide +kernel
theorem dX11_taken_68 : decode cX11_taken 68 = .ok (.goto 5, 3) := by decide +kernel
theorem dX11_taken_71 : decode cX11_taken 71 = .ok (.bipush (-13), 2) := by decide +kernel
theorem dX11_taken_73 : decode cX11_taken 73 = .ok (.ireturn, 1) := by decide +kernel
theorem dX11_taken_74 : decode cX11_taken 74 = .ok (.aload_n 0, 1) := by decide +kernel
theorem dX11_taken_75 : decode cX11_taken 75 = .ok (.getfield 10, 3) := by decide +kernel
theorem dX11_taken_78 : decode cX11_taken 78 = .ok (.iload_n 1, 1) := by decide +kernel
theorem dX11_taken_79 : decode cX11_taken 79 = .ok (.bipush 6, 2) := by decide +kernel
theorem dX11_taken_81 : decode cX11_taken 81 = .ok (.isub, 1) := by decide +kernel
theorem dX11_taken_82 : decode cX11_taken 82 = .ok (.invokevirtual 146, 3) := by decide +kernel
theorem dX11_taken_85 : decode cX11_taken 85 = .ok (.astore 4, 2) := by decide +kernel
theorem dX11_taken_87 : decode cX11_taken 87 = .ok (.aload 4, 2) := by decide +kernel
theorem dX11_taken_89 : decode cX11_taken 89 = .ok (.ifnonnull 6, 3) := by decide +kernel
theorem dX11_taken_92 : decode cX11_taken 92 = .ok (.bipush (-11), 2) := by decide +kernel
theorem dX11_taken_94 : decode cX11_taken 94 = .ok (.ireturn, 1) := by decide +kernel
theorem dX11_taken_95 : decode cX11_taken 95 = .ok (.iload_n 3, 1) := by decide +kernel
theorem dX11_taken_96 : decode cX11_taken 96 = .ok (.ifCond .ne 20, 3) := by decide +kernel
theorem dX11_taken_99 : decode cX11_taken 99 = .ok (.aload 4, 2) := by decide +kernel
theorem dX11_taken_101 : decode cX11_taken 101 = .ok (.iload_n 2, 1) := by decide +kernel
theorem dX11_taken_102 : decode cX11_taken 102 = .ok (.invokestatic 374, 3) := by decide +kernel
theorem dX11_taken_105 : decode cX11_taken 105 = .ok (.ifCond .eq 11, 3) := by decide +kernel
theorem dX11_taken_108 : decode cX11_taken 108 = .ok (.aload 4, 2) := by decide +kernel
theorem dX11_taken_110 : decode cX11_taken 110 = .ok (.getfield 378, 3) := by decide +kernel
theorem dX11_taken_113 : decode cX11_taken 113 = .ok (.goto 5, 3) := by decide +kernel
theorem dX11_taken_116 : decode cX11_taken 116 = .ok (.bipush (-13), 2) := by decide +kernel
theorem dX11_taken_118 : decode cX11_taken 118 = .ok (.ireturn, 1) := by decide +kernel
theorem dX11_isOfKind_0 : decode cX11_isOfKind 0 = .ok (.iload_n 1, 1) := by decide +kernel
theorem dX11_isOfKind_1 : decode cX11_isOfKind 1 = .ok (.tableswitch 60 1 5 #[35, 40, 45, 50, 55], 35) := by decide +kernel
theorem dX11_isOfKind_36 : decode cX11_isOfKind 36 = .ok (.aload_n 0, 1) := by decide +kernel
theorem dX11_isOfKind_37 : decode cX11_isOfKind 37 = .ok (.instanceof 124, 3) := by decide +kernel
theorem dX11_isOfKind_40 : decode cX11_isOfKind 40 = .ok (.ireturn, 1) := by decide +kernel
theorem dX11_isOfKind_41 : decode cX11_isOfKind 41 = .ok (.aload_n 0, 1) := by decide +kernel
theorem dX11_isOfKind_42 : decode cX11_isOfKind 42 = .ok (.instanceof 129, 3) := by decide +kernel
theorem dX11_isOfKind_45 : decode cX11_isOfKind 45 = .ok (.ireturn, 1) := by decide +kernel
theorem dX11_isOfKind_46 : decode cX11_isOfKind 46 = .ok (.aload_n 0, 1) := by decide +kernel
theorem dX11_isOfKind_47 : decode cX11_isOfKind 47 = .ok (.instanceof 134, 3) := by decide +kernel
theorem dX11_isOfKind_50 : decode cX11_isOfKind 50 = .ok (.ireturn, 1) := by decide +kernel
theorem dX11_isOfKind_51 : decode cX11_isOfKind 51 = .ok (.aload_n 0, 1) := by decide +kernel
theorem dX11_isOfKind_52 : decode cX11_isOfKind 52 = .ok (.instanceof 137, 3) := by decide +kernel
theorem dX11_isOfKind_55 : decode cX11_isOfKind 55 = .ok (.ireturn, 1) := by decide +kernel
theorem dX11_isOfKind_56 : decode cX11_isOfKind 56 = .ok (.aload_n 0, 1) := by decide +kernel
theorem dX11_isOfKind_57 : decode cX11_isOfKind 57 = .ok (.instanceof 140, 3) := by decide +kernel
theorem dX11_isOfKind_60 : decode cX11_isOfKind 60 = .ok (.ireturn, 1) := by decide +kernel
theorem dX11_isOfKind_61 : decode cX11_isOfKind 61 = .ok (.iconst 1, 1) := by decide +kernel
theorem dX11_isOfKind_62 : decode cX11_isOfKind 62 = .ok (.ireturn, 1) := by decide +kernel
