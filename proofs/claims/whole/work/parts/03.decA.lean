theorem dX0_init_0 : decode cX0_init 0 = .ok (.aload_n 0, 1) := by decide +kernel
theorem dX0_init_1 : decode cX0_init 1 = .ok (.invokespecial 3, 3) := by decide +kernel
theorem dX0_init_4 : decode cX0_init 4 = .ok (.aload_n 0, 1) := by decide +kernel
theorem dX0_init_5 : decode cX0_init 5 = .ok (.bipush 8, 2) := by decide +kernel
theorem dX0_init_7 : decode cX0_init 7 = .ok (.newarray .int, 2) := by decide +kernel
theorem dX0_init_9 : decode cX0_init 9 = .ok (.putfield 9, 3) := by decide +kernel
theorem dX0_init_12 : decode cX0_init 12 = .ok (.aload_n 0, 1) := by decide +kernel
theorem dX0_init_13 : decode cX0_init 13 = .ok (.aload_n 1, 1) := by decide +kernel
theorem dX0_init_14 : decode cX0_init 14 = .ok (.putfield 15, 3) := by decide +kernel
theorem dX0_init_17 : decode cX0_init 17 = .ok (.return_, 1) := by decide +kernel
theorem dX0_firstDay_0 : decode cX0_firstDay 0 = .ok (.aload_n 0, 1) := by decide +kernel
theorem dX0_firstDay_1 : decode cX0_firstDay 1 = .ok (.getfield 15, 3) := by decide +kernel
theorem dX0_firstDay_4 : decode cX0_firstDay 4 = .ok (.getfield 19, 3) := by decide +kernel
theorem dX0_firstDay_7 : decode cX0_firstDay 7 = .ok (.iload_n 1, 1) := by decide +kernel
theorem dX0_firstDay_8 : decode cX0_firstDay 8 = .ok (.iaload, 1) := by decide +kernel
theorem dX0_firstDay_9 : decode cX0_firstDay 9 = .ok (.istore 4, 2) := by decide +kernel
theorem dX0_firstDay_11 : decode cX0_firstDay 11 = .ok (.aload_n 0, 1) := by decide +kernel
theorem dX0_firstDay_12 : decode cX0_firstDay 12 = .ok (.getfield 15, 3) := by decide +kernel
theorem dX0_firstDay_15 : decode cX0_firstDay 15 = .ok (.getfield 24, 3) := by decide +kernel
theorem dX0_firstDay_18 : decode cX0_firstDay 18 = .ok (.istore 5, 2) := by decide +kernel
theorem dX0_firstDay_20 : decode cX0_firstDay 20 = .ok (.iload 4, 2) := by decide +kernel
theorem dX0_firstDay_22 : decode cX0_firstDay 22 = .ok (.ifCond .eq 9, 3) := by decide +kernel
theorem dX0_firstDay_25 : decode cX0_firstDay 25 = .ok (.iload 5, 2) := by decide +kernel
theorem dX0_firstDay_27 : decode cX0_firstDay 27 = .ok (.iconst 1, 1) := by decide +kernel
theorem dX0_firstDay_28 : decode cX0_firstDay 28 = .ok (.if_icmp .ge 5, 3) := by decide +kernel
theorem dX0_firstDay_31 : decode cX0_firstDay 31 = .ok (.iconst (-1), 1) := by decide +kernel
theorem dX0_firstDay_32 : decode cX0_firstDay 32 = .ok (.ireturn, 1) := by decide +kernel
theorem dX0_firstDay_33 : decode cX0_firstDay 33 = .ok (.iload_n 2, 1) := by decide +kernel
theorem dX0_firstDay_34 : decode cX0_firstDay 34 = .ok (.iload_n 3, 1) := by decide +kernel
theorem dX0_firstDay_35 : decode cX0_firstDay 35 = .ok (.iadd, 1) := by decide +kernel
theorem dX0_firstDay_36 : decode cX0_firstDay 36 = .ok (.iload 5, 2) := by decide +kernel
theorem dX0_firstDay_38 : decode cX0_firstDay 38 = .ok (.irem, 1) := by decide +kernel
theorem dX0_firstDay_39 : decode cX0_firstDay 39 = .ok (.istore 6, 2) := by decide +kernel
theorem dX0_firstDay_41 : decode cX0_firstDay 41 = .ok (.iconst 0, 1) := by decide +kernel
theorem dX0_firstDay_42 : decode cX0_firstDay 42 = .ok (.istore 7, 2) := by decide +kernel
theorem dX0_firstDay_44 : decode cX0_firstDay 44 = .ok (.iload 7, 2) := by decide +kernel
theorem dX0_firstDay_46 : decode cX0_firstDay 46 = .ok (.iload 5, 2) := by decide +kernel
theorem dX0_firstDay_48 : decode cX0_firstDay 48 = .ok (.if_icmp .ge 43, 3) := by decide +kernel
theorem dX0_firstDay_51 : decode cX0_firstDay 51 = .ok (.iload 4, 2) := by decide +kernel
theorem dX0_firstDay_53 : decode cX0_firstDay 53 = .ok (.iload 6, 2) := by decide +kernel
theorem dX0_firstDay_55 : decode cX0_firstDay 55 = .ok (.ishr, 1) := by decide +kernel
theorem dX0_firstDay_56 : decode cX0_firstDay 56 = .ok (.iconst 1, 1) := by decide +kernel
theorem dX0_firstDay_57 : decode cX0_firstDay 57 = .ok (.iand, 1) := by decide +kernel
theorem dX0_firstDay_58 : decode cX0_firstDay 58 = .ok (.ifCond .eq 8, 3) := by decide +kernel
theorem dX0_firstDay_61 : decode cX0_firstDay 61 = .ok (.iload_n 2, 1) := by decide +kernel
theorem dX0_firstDay_62 : decode cX0_firstDay 62 = .ok (.iload 7, 2) := by decide +kernel
theorem dX0_firstDay_64 : decode cX0_firstDay 64 = .ok (.iadd, 1) := by decide +kernel
theorem dX0_firstDay_65 : decode cX0_firstDay 65 = .ok (.ireturn, 1) := by decide +kernel
theorem dX0_firstDay_66 : decode cX0_firstDay 66 = .ok (.iload 6, 2) := by decide +kernel
theorem dX0_firstDay_68 : decode cX0_firstDay 68 = .ok (.iconst 1, 1) := by decide +kernel
theorem dX0_firstDay_69 : decode cX0_firstDay 69 = .ok (.iadd, 1) := by decide +kernel
theorem dX0_firstDay_70 : decode cX0_firstDay 70 = .ok (.iload 5, 2) := by decide +kernel
theorem dX0_firstDay_72 : decode cX0_firstDay 72 = .ok (.if_icmp .ne 7, 3) := by decide +kernel
theorem dX0_firstDay_75 : decode cX0_firstDay 75 = .ok (.iconst 0, 1) := by decide +kernel
theorem dX0_firstDay_76 : decode cX0_firstDay 76 = .ok (.goto 7, 3) := by decide +kernel
theorem dX0_firstDay_79 : decode cX0_firstDay 79 = .ok (.iload 6, 2) := by decide +kernel
theorem dX0_firstDay_81 : decode cX0_firstDay 81 = .ok (.iconst 1, 1) := by decide +kernel
theorem dX0_firstDay_82 : decode cX0_firstDay 82 = .ok (.iadd, 1) := by decide +kernel
theorem dX0_firstDay_83 : decode cX0_firstDay 83 = .ok (.istore 6, 2) := by decide +kernel
theorem dX0_firstDay_85 : decode cX0_firstDay 85 = .ok (.iinc 7 1, 3) := by decide +kernel
theorem dX0_firstDay_88 : decode cX0_firstDay 88 = .ok (.goto (-44), 3) := by decide +kernel
theorem dX0_firstDay_91 : decode cX0_firstDay 91 = .ok (.iconst (-1), 1) := by decide +kernel
theorem dX0_firstDay_92 : decode cX0_firstDay 92 = .ok (.ireturn, 1) := by decide +kernel
theorem dX0_zeroFrom_0 : decode cX0_zeroFrom 0 = .ok (.aload_n 0, 1) := by decide +kernel
theorem dX0_zeroFrom_1 : decode cX0_zeroFrom 1 = .ok (.getfield 15, 3) := by decide +kernel
theorem dX0_zeroFrom_4 : decode cX0_zeroFrom 4 = .ok (.getfield 24, 3) := by decide +kernel
theorem dX0_zeroFrom_7 : decode cX0_zeroFrom 7 = .ok (.iconst 1, 1) := by decide +kernel
theorem dX0_zeroFrom_8 : decode cX0_zeroFrom 8 = .ok (.if_icmp .ge 5, 3) := by decide +kernel
theorem dX0_zeroFrom_11 : decode cX0_zeroFrom 11 = .ok (.iconst (-1), 1) := by decide +kernel
theorem dX0_zeroFrom_12 : decode cX0_zeroFrom 12 = .ok (.ireturn, 1) := by decide +kernel
theorem dX0_zeroFrom_13 : decode cX0_zeroFrom 13 = .ok (.iload_n 1, 1) := by decide +kernel
theorem dX0_zeroFrom_14 : decode cX0_zeroFrom 14 = .ok (.aload_n 0, 1) := by decide +kernel
theorem dX0_zeroFrom_15 : decode cX0_zeroFrom 15 = .ok (.getfield 15, 3) := by decide +kernel
theorem dX0_zeroFrom_18 : decode cX0_zeroFrom 18 = .ok (.getfield 24, 3) := by decide +kernel
theorem dX0_zeroFrom_21 : decode cX0_zeroFrom 21 = .ok (.irem, 1) := by decide +kernel
theorem dX0_zeroFrom_22 : decode cX0_zeroFrom 22 = .ok (.istore_n 2, 1) := by decide +kernel
theorem dX0_zeroFrom_23 : decode cX0_zeroFrom 23 = .ok (.iload_n 2, 1) := by decide +kernel
theorem dX0_zeroFrom_24 : decode cX0_zeroFrom 24 = .ok (.ifCond .ne 7, 3) := by decide +kernel
theorem dX0_zeroFrom_27 : decode cX0_zeroFrom 27 = .ok (.iload_n 1, 1) := by decide +kernel
theorem dX0_zeroFrom_28 : decode cX0_zeroFrom 28 = .ok (.goto 14, 3) := by decide +kernel
theorem dX0_zeroFrom_31 : decode cX0_zeroFrom 31 = .ok (.iload_n 1, 1) := by decide +kernel
theorem dX0_zeroFrom_32 : decode cX0_zeroFrom 32 = .ok (.aload_n 0, 1) := by decide +kernel
theorem dX0_zeroFrom_33 : decode cX0_zeroFrom 33 = .ok (.getfield 15, 3) := by decide +kernel
theorem dX0_zeroFrom_36 : decode cX0_zeroFrom 36 = .ok (.getfield 24, 3) := by decide +kernel
theorem dX0_zeroFrom_39 : decode cX0_zeroFrom 39 = .ok (.iadd, 1) := by decide +kernel
theorem dX0_zeroFrom_40 : decode cX0_zeroFrom 40 = .ok (.iload_n 2, 1) := by decide +kernel
theorem dX0_zeroFrom_41 : decode cX0_zeroFrom 41 = .ok (.isub, 1) := by decide +kernel
theorem dX0_zeroFrom_42 : decode cX0_zeroFrom 42 = .ok (.ireturn, 1) := by decide +kernel
theorem dX0_dayBehind_0 : decode cX0_dayBehind 0 = .ok (.aload_n 0, 1) := by decide +kernel
theorem dX0_dayBehind_1 : decode cX0_dayBehind 1 = .ok (.getfield 15, 3) := by decide +kernel
theorem dX0_dayBehind_4 : decode cX0_dayBehind 4 = .ok (.iload_n 1, 1) := by decide +kernel
theorem dX0_dayBehind_5 : decode cX0_dayBehind 5 = .ok (.iload_n 2, 1) := by decide +kernel
theorem dX0_dayBehind_6 : decode cX0_dayBehind 6 = .ok (.iconst 0, 1) := by decide +kernel
theorem dX0_dayBehind_7 : decode cX0_dayBehind 7 = .ok (.invokevirtual 28, 3) := by decide +kernel
theorem dX0_dayBehind_10 : decode cX0_dayBehind 10 = .ok (.istore 4, 2) := by decide +kernel
theorem dX0_dayBehind_12 : decode cX0_dayBehind 12 = .ok (.aload_n 0, 1) := by decide +kernel
theorem dX0_dayBehind_13 : decode cX0_dayBehind 13 = .ok (.getfield 15, 3) := by decide +kernel
theorem dX0_dayBehind_16 : decode cX0_dayBehind 16 = .ok (.getfield 32, 3) := by decide +kernel
theorem dX0_dayBehind_19 : decode cX0_dayBehind 19 = .ok (.iload_n 1, 1) := by decide +kernel
theorem dX0_dayBehind_20 : decode cX0_dayBehind 20 = .ok (.iaload, 1) := by decide +kernel
theorem dX0_dayBehind_21 : decode cX0_dayBehind 21 = .ok (.tableswitch 170 1 6 #[39, 48, 76, 110, 118, 151], 39) := by decide +kernel
theorem dX0_dayBehind_60 : decode cX0_dayBehind 60 = .ok (.aload_n 0, 1) := by decide +kernel
theorem dX0_dayBehind_61 : decode cX0_dayBehind 61 = .ok (.iload 4, 2) := by decide +kernel
theorem dX0_dayBehind_63 : decode cX0_dayBehind 63 = .ok (.iload_n 3, 1) := by decide +kernel
theorem dX0_dayBehind_64 : decode cX0_dayBehind 64 = .ok (.iconst 0, 1) := by decide +kernel
theorem dX0_dayBehind_65 : decode cX0_dayBehind 65 = .ok (.invokevirtual 35, 3) := by decide +kernel
theorem dX0_dayBehind_68 : decode cX0_dayBehind 68 = .ok (.ireturn, 1) := by decide +kernel
theorem dX0_dayBehind_69 : decode cX0_dayBehind 69 = .ok (.iload_n 2, 1) := by decide +kernel
theorem dX0_dayBehind_70 : decode cX0_dayBehind 70 = .ok (.ifCond .ne 18, 3) := by decide +kernel
theorem dX0_dayBehind_73 : decode cX0_dayBehind 73 = .ok (.aload_n 0, 1) := by decide +kernel
theorem dX0_dayBehind_74 : decode cX0_dayBehind 74 = .ok (.iload 4, 2) := by decide +kernel
theorem dX0_dayBehind_76 : decode cX0_dayBehind 76 = .ok (.aload_n 0, 1) := by decide +kernel
theorem dX0_dayBehind_77 : decode cX0_dayBehind 77 = .ok (.iload_n 3, 1) := by decide +kernel
theorem dX0_dayBehind_78 : decode cX0_dayBehind 78 = .ok (.invokevirtual 38, 3) := by decide +kernel
theorem dX0_dayBehind_81 : decode cX0_dayBehind 81 = .ok (.iconst 0, 1) := by decide +kernel
theorem dX0_dayBehind_82 : decode cX0_dayBehind 82 = .ok (.invokevirtual 35, 3) := by decide +kernel
theorem dX0_dayBehind_85 : decode cX0_dayBehind 85 = .ok (.goto 11, 3) := by decide +kernel
theorem dX0_dayBehind_88 : decode cX0_dayBehind 88 = .ok (.aload_n 0, 1) := by decide +kernel
theorem dX0_dayBehind_89 : decode cX0_dayBehind 89 = .ok (.iload 4, 2) := by decide +kernel
theorem dX0_dayBehind_91 : decode cX0_dayBehind 91 = .ok (.iload_n 2, 1) := by decide +kernel
theorem dX0_dayBehind_92 : decode cX0_dayBehind 92 = .ok (.iload_n 3, 1) := by decide +kernel
theorem dX0_dayBehind_93 : decode cX0_dayBehind 93 = .ok (.invokevirtual 42, 3) := by decide +kernel
theorem dX0_dayBehind_96 : decode cX0_dayBehind 96 = .ok (.ireturn, 1) := by decide +kernel
theorem dX0_dayBehind_97 : decode cX0_dayBehind 97 = .ok (.iload_n 2, 1) := by decide +kernel
theorem dX0_dayBehind_98 : decode cX0_dayBehind 98 = .ok (.ifCond .le 24, 3) := by decide +kernel
theorem dX0_dayBehind_101 : decode cX0_dayBehind 101 = .ok (.aload_n 0, 1) := by decide +kernel
theorem dX0_dayBehind_102 : decode cX0_dayBehind 102 = .ok (.getfield 15, 3) := by decide +kernel
theorem dX0_dayBehind_105 : decode cX0_dayBehind 105 = .ok (.iload_n 1, 1) := by decide +kernel
theorem dX0_dayBehind_106 : decode cX0_dayBehind 106 = .ok (.iload_n 2, 1) := by decide +kernel
theorem dX0_dayBehind_107 : decode cX0_dayBehind 107 = .ok (.iconst 1, 1) := by decide +kernel
theorem dX0_dayBehind_108 : decode cX0_dayBehind 108 = .ok (.isub, 1) := by decide +kernel
theorem dX0_dayBehind_109 : decode cX0_dayBehind 109 = .ok (.iconst 0, 1) := by decide +kernel
theorem dX0_dayBehind_110 : decode cX0_dayBehind 110 = .ok (.invokevirtual 28, 3) := by decide +kernel
theorem dX0_dayBehind_113 : decode cX0_dayBehind 113 = .ok (.iload 4, 2) := by decide +kernel
theorem dX0_dayBehind_115 : decode cX0_dayBehind 115 = .ok (.if_icmp .ne 7, 3) := by decide +kernel
theorem dX0_dayBehind_118 : decode cX0_dayBehind 118 = .ok (.iload_n 3, 1) := by decide +kernel
theorem dX0_dayBehind_119 : decode cX0_dayBehind 119 = .ok (.goto 11, 3) := by decide +kernel
theorem dX0_dayBehind_122 : decode cX0_dayBehind 122 = .ok (.aload_n 0, 1) := by decide +kernel
theorem dX0_dayBehind_123 : decode cX0_dayBehind 123 = .ok (.iload 4, 2) := by decide +kernel
theorem dX0_dayBehind_125 : decode cX0_dayBehind 125 = .ok (.iload_n 2, 1) := by decide +kernel
theorem dX0_dayBehind_126 : decode cX0_dayBehind 126 = .ok (.iload_n 3, 1) := by decide +kernel
theorem dX0_dayBehind_127 : decode cX0_dayBehind 127 = .ok (.invokevirtual 42, 3) := by decide +kernel
theorem dX0_dayBehind_130 : decode cX0_dayBehind 130 = .ok (.ireturn, 1) := by decide +kernel
theorem dX0_dayBehind_131 : decode cX0_dayBehind 131 = .ok (.aload_n 0, 1) := by decide +kernel
theorem dX0_dayBehind_132 : decode cX0_dayBehind 132 = .ok (.iload 4, 2) := by decide +kernel
theorem dX0_dayBehind_134 : decode cX0_dayBehind 134 = .ok (.iload_n 3, 1) := by decide +kernel
theorem dX0_dayBehind_135 : decode cX0_dayBehind 135 = .ok (.invokevirtual 45, 3) := by decide +kernel
theorem dX0_dayBehind_138 : decode cX0_dayBehind 138 = .ok (.ireturn, 1) := by decide +kernel
theorem dX0_dayBehind_139 : decode cX0_dayBehind 139 = .ok (.aload_n 0, 1) := by decide +kernel
theorem dX0_dayBehind_140 : decode cX0_dayBehind 140 = .ok (.aload_n 0, 1) := by decide +kernel
theorem dX0_dayBehind_141 : decode cX0_dayBehind 141 = .ok (.iload 4, 2) := by decide +kernel
theorem dX0_dayBehind_143 : decode cX0_dayBehind 143 = .ok (.iload_n 3, 1) := by decide +kernel
theorem dX0_dayBehind_144 : decode cX0_dayBehind 144 = .ok (.invokevirtual 45, 3) := by decide +kernel
theorem dX0_dayBehind_147 : decode cX0_dayBehind 147 = .ok (.iload_n 3, 1) := by decide +kernel
theorem dX0_dayBehind_148 : decode cX0_dayBehind 148 = .ok (.iload_n 2, 1) := by decide +kernel
theorem dX0_dayBehind_149 : decode cX0_dayBehind 149 = .ok (.aload_n 0, 1) := by decide +kernel
theorem dX0_dayBehind_150 : decode cX0_dayBehind 150 = .ok (.getfield 15, 3) := by decide +kernel
theorem dX0_dayBehind_153 : decode cX0_dayBehind 153 = .ok (.getfield 49, 3) := by decide +kernel
theorem dX0_dayBehind_156 : decode cX0_dayBehind 156 = .ok (.iload_n 1, 1) := by decide +kernel
theorem dX0_dayBehind_157 : decode cX0_dayBehind 157 = .ok (.iaload, 1) := by decide +kernel
theorem dX0_dayBehind_158 : decode cX0_dayBehind 158 = .ok (.iconst 1, 1) := by decide +kernel
theorem dX0_dayBehind_159 : decode cX0_dayBehind 159 = .ok (.isub, 1) := by decide +kernel
theorem dX0_dayBehind_160 : decode cX0_dayBehind 160 = .ok (.if_icmp .ne 7, 3) := by decide +kernel
theorem dX0_dayBehind_163 : decode cX0_dayBehind 163 = .ok (.iconst 1, 1) := by decide +kernel
theorem dX0_dayBehind_164 : decode cX0_dayBehind 164 = .ok (.goto 4, 3) := by decide +kernel
theorem dX0_dayBehind_167 : decode cX0_dayBehind 167 = .ok (.iconst 0, 1) := by decide +kernel
theorem dX0_dayBehind_168 : decode cX0_dayBehind 168 = .ok (.invokevirtual 52, 3) := by decide +kernel
theorem dX0_dayBehind_171 : decode cX0_dayBehind 171 = .ok (.ireturn, 1) := by decide +kernel
theorem dX0_dayBehind_172 : decode cX0_dayBehind 172 = .ok (.aload_n 0, 1) := by decide +kernel
theorem dX0_dayBehind_173 : decode cX0_dayBehind 173 = .ok (.iload 4, 2) := by decide +kernel
theorem dX0_dayBehind_175 : decode cX0_dayBehind 175 = .ok (.iload_n 2, 1) := by decide +kernel
theorem dX0_dayBehind_176 : decode cX0_dayBehind 176 = .ok (.iload_n 2, 1) := by decide +kernel
theorem dX0_dayBehind_177 : decode cX0_dayBehind 177 = .ok (.ifCond .ne 7, 3) := by decide +kernel
theorem dX0_dayBehind_180 : decode cX0_dayBehind 180 = .ok (.iload_n 3, 1) := by decide +kernel
theorem dX0_dayBehind_181 : decode cX0_dayBehind 181 = .ok (.goto 6, 3) := by decide +kernel
theorem dX0_dayBehind_184 : decode cX0_dayBehind 184 = .ok (.iload_n 3, 1) := by decide +kernel
theorem dX0_dayBehind_185 : decode cX0_dayBehind 185 = .ok (.iconst 1, 1) := by decide +kernel
theorem dX0_dayBehind_186 : decode cX0_dayBehind 186 = .ok (.iadd, 1) := by decide +kernel
theorem dX0_dayBehind_187 : decode cX0_dayBehind 187 = .ok (.invokevirtual 42, 3) := by decide +kernel
theorem dX0_dayBehind_190 : decode cX0_dayBehind 190 = .ok (.ireturn, 1) := by decide +kernel
theorem dX0_dayBehind_191 : decode cX0_dayBehind 191 = .ok (.aload_n 0, 1) := by decide +kernel
theorem dX0_dayBehind_192 : decode cX0_dayBehind 192 = .ok (.iload 4, 2) := by decide +kernel
theorem dX0_dayBehind_194 : decode cX0_dayBehind 194 = .ok (.iload_n 2, 1) := by decide +kernel
theorem dX0_dayBehind_195 : decode cX0_dayBehind 195 = .ok (.iload_n 3, 1) := by decide +kernel
theorem dX0_dayBehind_196 : decode cX0_dayBehind 196 = .ok (.invokevirtual 42, 3) := by decide +kernel
theorem dX0_dayBehind_199 : decode cX0_dayBehind 199 = .ok (.ireturn, 1) := by decide +kernel
theorem dX0_plannedFrom_0 : decode cX0_plannedFrom 0 = .ok (.aload_n 0, 1) := by decide +kernel
theorem dX0_plannedFrom_1 : decode cX0_plannedFrom 1 = .ok (.iload_n 1, 1) := by decide +kernel
theorem dX0_plannedFrom_2 : decode cX0_plannedFrom 2 = .ok (.iload_n 2, 1) := by decide +kernel
theorem dX0_plannedFrom_3 : decode cX0_plannedFrom 3 = .ok (.ifCond .ne 7, 3) := by decide +kernel
theorem dX0_plannedFrom_6 : decode cX0_plannedFrom 6 = .ok (.iload_n 3, 1) := by decide +kernel
theorem dX0_plannedFrom_7 : decode cX0_plannedFrom 7 = .ok (.goto 6, 3) := by decide +kernel
theorem dX0_plannedFrom_10 : decode cX0_plannedFrom 10 = .ok (.iload_n 3, 1) := by decide +kernel
theorem dX0_plannedFrom_11 : decode cX0_plannedFrom 11 = .ok (.iconst 1, 1) := by decide +kernel
theorem dX0_plannedFrom_12 : decode cX0_plannedFrom 12 = .ok (.iadd, 1) := by decide +kernel
theorem dX0_plannedFrom_13 : decode cX0_plannedFrom 13 = .ok (.iconst 0, 1) := by decide +kernel
theorem dX0_plannedFrom_14 : decode cX0_plannedFrom 14 = .ok (.invokevirtual 35, 3) := by decide +kernel
theorem dX0_plannedFrom_17 : decode cX0_plannedFrom 17 = .ok (.ireturn, 1) := by decide +kernel
theorem dX0_walkedFrom_0 : decode cX0_walkedFrom 0 = .ok (.aload_n 0, 1) := by decide +kernel
theorem dX0_walkedFrom_1 : decode cX0_walkedFrom 1 = .ok (.iload_n 1, 1) := by decide +kernel
theorem dX0_walkedFrom_2 : decode cX0_walkedFrom 2 = .ok (.iload_n 2, 1) := by decide +kernel
theorem dX0_walkedFrom_3 : decode cX0_walkedFrom 3 = .ok (.iconst 0, 1) := by decide +kernel
theorem dX0_walkedFrom_4 : decode cX0_walkedFrom 4 = .ok (.invokevirtual 35, 3) := by decide +kernel
theorem dX0_walkedFrom_7 : decode cX0_walkedFrom 7 = .ok (.istore_n 3, 1) := by decide +kernel
theorem dX0_walkedFrom_8 : decode cX0_walkedFrom 8 = .ok (.aload_n 0, 1) := by decide +kernel
theorem dX0_walkedFrom_9 : decode cX0_walkedFrom 9 = .ok (.getfield 15, 3) := by decide +kernel
theorem dX0_walkedFrom_12 : decode cX0_walkedFrom 12 = .ok (.getfield 56, 3) := by decide +kernel
theorem dX0_walkedFrom_15 : decode cX0_walkedFrom 15 = .ok (.ifCond .ge 5, 3) := by decide +kernel
theorem dX0_walkedFrom_18 : decode cX0_walkedFrom 18 = .ok (.iload_n 3, 1) := by decide +kernel
theorem dX0_walkedFrom_19 : decode cX0_walkedFrom 19 = .ok (.ireturn, 1) := by decide +kernel
theorem dX0_walkedFrom_20 : decode cX0_walkedFrom 20 = .ok (.iload_n 3, 1) := by decide +kernel
theorem dX0_walkedFrom_21 : decode cX0_walkedFrom 21 = .ok (.aload_n 0, 1) := by decide +kernel
theorem dX0_walkedFrom_22 : decode cX0_walkedFrom 22 = .ok (.iload_n 1, 1) := by decide +kernel
theorem dX0_walkedFrom_23 : decode cX0_walkedFrom 23 = .ok (.iload_n 2, 1) := by decide +kernel
theorem dX0_walkedFrom_24 : decode cX0_walkedFrom 24 = .ok (.iconst 1, 1) := by decide +kernel
theorem dX0_walkedFrom_25 : decode cX0_walkedFrom 25 = .ok (.iadd, 1) := by decide +kernel
theorem dX0_walkedFrom_26 : decode cX0_walkedFrom 26 = .ok (.aload_n 0, 1) := by decide +kernel
theorem dX0_walkedFrom_27 : decode cX0_walkedFrom 27 = .ok (.getfield 15, 3) := by decide +kernel
theorem dX0_walkedFrom_30 : decode cX0_walkedFrom 30 = .ok (.getfield 56, 3) := by decide +kernel
theorem dX0_walkedFrom_33 : decode cX0_walkedFrom 33 = .ok (.invokevirtual 35, 3) := by decide +kernel
theorem dX0_walkedFrom_36 : decode cX0_walkedFrom 36 = .ok (.invokestatic 59, 3) := by decide +kernel
theorem dX0_walkedFrom_39 : decode cX0_walkedFrom 39 = .ok (.ireturn, 1) := by decide +kernel
theorem dX0_bestOf_0 : decode cX0_bestOf 0 = .ok (.aload_n 0, 1) := by decide +kernel
theorem dX0_bestOf_1 : decode cX0_bestOf 1 = .ok (.iload_n 2, 1) := by decide +kernel
theorem dX0_bestOf_2 : decode cX0_bestOf 2 = .ok (.invokevirtual 38, 3) := by decide +kernel
theorem dX0_bestOf_5 : decode cX0_bestOf 5 = .ok (.istore 4, 2) := by decide +kernel
theorem dX0_bestOf_7 : decode cX0_bestOf 7 = .ok (.iload_n 3, 1) := by decide +kernel
theorem dX0_bestOf_8 : decode cX0_bestOf 8 = .ok (.ifCond .eq 17, 3) := by decide +kernel
theorem dX0_bestOf_11 : decode cX0_bestOf 11 = .ok (.iload 4, 2) := by decide +kernel
theorem dX0_bestOf_13 : decode cX0_bestOf 13 = .ok (.iload_n 1, 1) := by decide +kernel
theorem dX0_bestOf_14 : decode cX0_bestOf 14 = .ok (.invokestatic 64, 3) := by decide +kernel
theorem dX0_bestOf_17 : decode cX0_bestOf 17 = .ok (.ifCond .eq 8, 3) := by decide +kernel
theorem dX0_bestOf_20 : decode cX0_bestOf 20 = .ok (.iload 4, 2) := by decide +kernel
theorem dX0_bestOf_22 : decode cX0_bestOf 22 = .ok (.goto 4, 3) := by decide +kernel
theorem dX0_bestOf_25 : decode cX0_bestOf 25 = .ok (.iload_n 1, 1) := by decide +kernel
theorem dX0_bestOf_26 : decode cX0_bestOf 26 = .ok (.ireturn, 1) := by decide +kernel
theorem dX0_goThrough_0 : decode cX0_goThrough 0 = .ok (.iload_n 2, 1) := by decide +kernel
theorem dX0_goThrough_1 : decode cX0_goThrough 1 = .ok (.istore_n 3, 1) := by decide +kernel
theorem dX0_goThrough_2 : decode cX0_goThrough 2 = .ok (.aload_n 0, 1) := by decide +kernel
theorem dX0_goThrough_3 : decode cX0_goThrough 3 = .ok (.getfield 15, 3) := by decide +kernel
theorem dX0_goThrough_6 : decode cX0_goThrough 6 = .ok (.getfield 49, 3) := by decide +kernel
theorem dX0_goThrough_9 : decode cX0_goThrough 9 = .ok (.iload_n 1, 1) := by decide +kernel
theorem dX0_goThrough_10 : decode cX0_goThrough 10 = .ok (.iaload, 1) := by decide +kernel
theorem dX0_goThrough_11 : decode cX0_goThrough 11 = .ok (.istore 4, 2) := by decide +kernel
theorem dX0_goThrough_13 : decode cX0_goThrough 13 = .ok (.iconst 0, 1) := by decide +kernel
theorem dX0_goThrough_14 : decode cX0_goThrough 14 = .ok (.istore 5, 2) := by decide +kernel
theorem dX0_goThrough_16 : decode cX0_goThrough 16 = .ok (.iload 5, 2) := by decide +kernel
theorem dX0_goThrough_18 : decode cX0_goThrough 18 = .ok (.iload 4, 2) := by decide +kernel
theorem dX0_goThrough_20 : decode cX0_goThrough 20 = .ok (.if_icmp .ge 62, 3) := by decide +kernel
theorem dX0_goThrough_23 : decode cX0_goThrough 23 = .ok (.aload_n 0, 1) := by decide +kernel
theorem dX0_goThrough_24 : decode cX0_goThrough 24 = .ok (.iload_n 1, 1) := by decide +kernel
theorem dX0_goThrough_25 : decode cX0_goThrough 25 = .ok (.iload 5, 2) := by decide +kernel
theorem dX0_goThrough_27 : decode cX0_goThrough 27 = .ok (.iload_n 3, 1) := by decide +kernel
theorem dX0_goThrough_28 : decode cX0_goThrough 28 = .ok (.invokevirtual 68, 3) := by decide +kernel
theorem dX0_goThrough_31 : decode cX0_goThrough 31 = .ok (.istore 6, 2) := by decide +kernel
theorem dX0_goThrough_33 : decode cX0_goThrough 33 = .ok (.iload 6, 2) := by decide +kernel
theorem dX0_goThrough_35 : decode cX0_goThrough 35 = .ok (.ifCond .lt 26, 3) := by decide +kernel
theorem dX0_goThrough_38 : decode cX0_goThrough 38 = .ok (.iload 5, 2) := by decide +kernel
theorem dX0_goThrough_40 : decode cX0_goThrough 40 = .ok (.ifCond .le 24, 3) := by decide +kernel
theorem dX0_goThrough_43 : decode cX0_goThrough 43 = .ok (.iload 6, 2) := by decide +kernel
theorem dX0_goThrough_45 : decode cX0_goThrough 45 = .ok (.iload_n 3, 1) := by decide +kernel
theorem dX0_goThrough_46 : decode cX0_goThrough 46 = .ok (.isub, 1) := by decide +kernel
theorem dX0_goThrough_47 : decode cX0_goThrough 47 = .ok (.aload_n 0, 1) := by decide +kernel
theorem dX0_goThrough_48 : decode cX0_goThrough 48 = .ok (.getfield 15, 3) := by decide +kernel
theorem dX0_goThrough_51 : decode cX0_goThrough 51 = .ok (.iload_n 1, 1) := by decide +kernel
theorem dX0_goThrough_52 : decode cX0_goThrough 52 = .ok (.iload 5, 2) := by decide +kernel
theorem dX0_goThrough_54 : decode cX0_goThrough 54 = .ok (.iconst 2, 1) := by decide +kernel
theorem dX0_goThrough_55 : decode cX0_goThrough 55 = .ok (.invokevirtual 28, 3) := by decide +kernel
theorem dX0_goThrough_58 : decode cX0_goThrough 58 = .ok (.if_icmp .le 6, 3) := by decide +kernel
theorem dX0_goThrough_61 : decode cX0_goThrough 61 = .ok (.iload 5, 2) := by decide +kernel
theorem dX0_goThrough_63 : decode cX0_goThrough 63 = .ok (.ireturn, 1) := by decide +kernel
theorem dX0_goThrough_64 : decode cX0_goThrough 64 = .ok (.aload_n 0, 1) := by decide +kernel
theorem dX0_goThrough_65 : decode cX0_goThrough 65 = .ok (.getfield 9, 3) := by decide +kernel
theorem dX0_goThrough_68 : decode cX0_goThrough 68 = .ok (.iload 5, 2) := by decide +kernel
theorem dX0_goThrough_70 : decode cX0_goThrough 70 = .ok (.iload 6, 2) := by decide +kernel
theorem dX0_goThrough_72 : decode cX0_goThrough 72 = .ok (.iastore, 1) := by decide +kernel
theorem dX0_goThrough_73 : decode cX0_goThrough 73 = .ok (.iload 6, 2) := by decide +kernel
theorem dX0_goThrough_75 : decode cX0_goThrough 75 = .ok (.istore_n 3, 1) := by decide +kernel
theorem dX0_goThrough_76 : decode cX0_goThrough 76 = .ok (.iinc 5 1, 3) := by decide +kernel
theorem dX0_goThrough_79 : decode cX0_goThrough 79 = .ok (.goto (-63), 3) := by decide +kernel
theorem dX0_goThrough_82 : decode cX0_goThrough 82 = .ok (.iconst (-1), 1) := by decide +kernel
theorem dX0_goThrough_83 : decode cX0_goThrough 83 = .ok (.ireturn, 1) := by decide +kernel
theorem dX0_lastRunDay_0 : decode cX0_lastRunDay 0 = .ok (.aload_n 0, 1) := by decide +kernel
theorem dX0_lastRunDay_1 : decode cX0_lastRunDay 1 = .ok (.getfield 15, 3) := by decide +kernel
theorem dX0_lastRunDay_4 : decode cX0_lastRunDay 4 = .ok (.getfield 49, 3) := by decide +kernel
theorem dX0_lastRunDay_7 : decode cX0_lastRunDay 7 = .ok (.iload_n 1, 1) := by decide +kernel
theorem dX0_lastRunDay_8 : decode cX0_lastRunDay 8 = .ok (.iaload, 1) := by decide +kernel
theorem dX0_lastRunDay_9 : decode cX0_lastRunDay 9 = .ok (.istore_n 2, 1) := by decide +kernel
theorem dX0_lastRunDay_10 : decode cX0_lastRunDay 10 = .ok (.iload_n 2, 1) := by decide +kernel
theorem dX0_lastRunDay_11 : decode cX0_lastRunDay 11 = .ok (.iconst 1, 1) := by decide +kernel
theorem dX0_lastRunDay_12 : decode cX0_lastRunDay 12 = .ok (.if_icmp .ge 7, 3) := by decide +kernel
theorem dX0_lastRunDay_15 : decode cX0_lastRunDay 15 = .ok (.iconst (-1), 1) := by decide +kernel
theorem dX0_lastRunDay_16 : decode cX0_lastRunDay 16 = .ok (.goto 11, 3) := by decide +kernel
theorem dX0_lastRunDay_19 : decode cX0_lastRunDay 19 = .ok (.aload_n 0, 1) := by decide +kernel
theorem dX0_lastRunDay_20 : decode cX0_lastRunDay 20 = .ok (.getfield 9, 3) := by decide +kernel
theorem dX0_lastRunDay_23 : decode cX0_lastRunDay 23 = .ok (.iload_n 2, 1) := by decide +kernel
theorem dX0_lastRunDay_24 : decode cX0_lastRunDay 24 = .ok (.iconst 1, 1) := by decide +kernel
theorem dX0_lastRunDay_25 : decode cX0_lastRunDay 25 = .ok (.isub, 1) := by decide +kernel
theorem dX0_lastRunDay_26 : decode cX0_lastRunDay 26 = .ok (.iaload, 1) := by decide +kernel
theorem dX0_lastRunDay_27 : decode cX0_lastRunDay 27 = .ok (.ireturn, 1) := by decide +kernel
theorem dX0_begunFrom_0 : decode cX0_begunFrom 0 = .ok (.iload_n 2, 1) := by decide +kernel
theorem dX0_begunFrom_1 : decode cX0_begunFrom 1 = .ok (.istore_n 3, 1) := by decide +kernel
theorem dX0_begunFrom_2 : decode cX0_begunFrom 2 = .ok (.iload_n 3, 1) := by decide +kernel
theorem dX0_begunFrom_3 : decode cX0_begunFrom 3 = .ok (.iload_n 2, 1) := by decide +kernel
theorem dX0_begunFrom_4 : decode cX0_begunFrom 4 = .ok (.aload_n 0, 1) := by decide +kernel
theorem dX0_begunFrom_5 : decode cX0_begunFrom 5 = .ok (.getfield 15, 3) := by decide +kernel
theorem dX0_begunFrom_8 : decode cX0_begunFrom 8 = .ok (.getfield 24, 3) := by decide +kernel
theorem dX0_begunFrom_11 : decode cX0_begunFrom 11 = .ok (.iadd, 1) := by decide +kernel
theorem dX0_begunFrom_12 : decode cX0_begunFrom 12 = .ok (.if_icmp .ge 20, 3) := by decide +kernel
theorem dX0_begunFrom_15 : decode cX0_begunFrom 15 = .ok (.aload_n 0, 1) := by decide +kernel
theorem dX0_begunFrom_16 : decode cX0_begunFrom 16 = .ok (.iload_n 1, 1) := by decide +kernel
theorem dX0_begunFrom_17 : decode cX0_begunFrom 17 = .ok (.iload_n 3, 1) := by decide +kernel
theorem dX0_begunFrom_18 : decode cX0_begunFrom 18 = .ok (.invokevirtual 71, 3) := by decide +kernel
theorem dX0_begunFrom_21 : decode cX0_begunFrom 21 = .ok (.ifCond .ge 5, 3) := by decide +kernel
theorem dX0_begunFrom_24 : decode cX0_begunFrom 24 = .ok (.iload_n 3, 1) := by decide +kernel
theorem dX0_begunFrom_25 : decode cX0_begunFrom 25 = .ok (.ireturn, 1) := by decide +kernel
theorem dX0_begunFrom_26 : decode cX0_begunFrom 26 = .ok (.iinc 3 1, 3) := by decide +kernel
theorem dX0_begunFrom_29 : decode cX0_begunFrom 29 = .ok (.goto (-27), 3) := by decide +kernel
theorem dX0_begunFrom_32 : decode cX0_begunFrom 32 = .ok (.iconst (-1), 1) := by decide +kernel
theorem dX0_begunFrom_33 : decode cX0_begunFrom 33 = .ok (.ireturn, 1) := by decide +kernel
theorem dX0_readyFrom_0 : decode cX0_readyFrom 0 = .ok (.aload_n 0, 1) := by decide +kernel
theorem dX0_readyFrom_1 : decode cX0_readyFrom 1 = .ok (.iload_n 1, 1) := by decide +kernel
theorem dX0_readyFrom_2 : decode cX0_readyFrom 2 = .ok (.iload_n 2, 1) := by decide +kernel
theorem dX0_readyFrom_3 : decode cX0_readyFrom 3 = .ok (.invokevirtual 74, 3) := by decide +kernel
theorem dX0_readyFrom_6 : decode cX0_readyFrom 6 = .ok (.ifCond .ge 7, 3) := by decide +kernel
theorem dX0_readyFrom_9 : decode cX0_readyFrom 9 = .ok (.iconst (-1), 1) := by decide +kernel
theorem dX0_readyFrom_10 : decode cX0_readyFrom 10 = .ok (.goto 8, 3) := by decide +kernel
theorem dX0_readyFrom_13 : decode cX0_readyFrom 13 = .ok (.aload_n 0, 1) := by decide +kernel
theorem dX0_readyFrom_14 : decode cX0_readyFrom 14 = .ok (.iload_n 1, 1) := by decide +kernel
theorem dX0_readyFrom_15 : decode cX0_readyFrom 15 = .ok (.invokevirtual 77, 3) := by decide +kernel
theorem dX0_readyFrom_18 : decode cX0_readyFrom 18 = .ok (.ireturn, 1) := by decide +kernel
theorem dX0_latestFor_0 : decode cX0_latestFor 0 = .ok (.iload_n 2, 1) := by decide +kernel
theorem dX0_latestFor_1 : decode cX0_latestFor 1 = .ok (.istore_n 3, 1) := by decide +kernel
theorem dX0_latestFor_2 : decode cX0_latestFor 2 = .ok (.iload_n 3, 1) := by decide +kernel
theorem dX0_latestFor_3 : decode cX0_latestFor 3 = .ok (.ifCond .lt 29, 3) := by decide +kernel
theorem dX0_latestFor_6 : decode cX0_latestFor 6 = .ok (.aload_n 0, 1) := by decide +kernel
theorem dX0_latestFor_7 : decode cX0_latestFor 7 = .ok (.iload_n 1, 1) := by decide +kernel
theorem dX0_latestFor_8 : decode cX0_latestFor 8 = .ok (.iload_n 3, 1) := by decide +kernel
theorem dX0_latestFor_9 : decode cX0_latestFor 9 = .ok (.invokevirtual 71, 3) := by decide +kernel
theorem dX0_latestFor_12 : decode cX0_latestFor 12 = .ok (.ifCond .ge 14, 3) := by decide +kernel
theorem dX0_latestFor_15 : decode cX0_latestFor 15 = .ok (.aload_n 0, 1) := by decide +kernel
theorem dX0_latestFor_16 : decode cX0_latestFor 16 = .ok (.iload_n 1, 1) := by decide +kernel
theorem dX0_latestFor_17 : decode cX0_latestFor 17 = .ok (.invokevirtual 77, 3) := by decide +kernel
theorem dX0_latestFor_20 : decode cX0_latestFor 20 = .ok (.iload_n 2, 1) := by decide +kernel
theorem dX0_latestFor_21 : decode cX0_latestFor 21 = .ok (.if_icmp .gt 5, 3) := by decide +kernel
theorem dX0_latestFor_24 : decode cX0_latestFor 24 = .ok (.iload_n 3, 1) := by decide +kernel
theorem dX0_latestFor_25 : decode cX0_latestFor 25 = .ok (.ireturn, 1) := by decide +kernel
theorem dX0_latestFor_26 : decode cX0_latestFor 26 = .ok (.iinc 3 (-1), 3) := by decide +kernel
theorem dX0_latestFor_29 : decode cX0_latestFor 29 = .ok (.goto (-27), 3) := by decide +kernel
theorem dX0_latestFor_32 : decode cX0_latestFor 32 = .ok (.iconst (-1), 1) := by decide +kernel
theorem dX0_latestFor_33 : decode cX0_latestFor 33 = .ok (.ireturn, 1) := by decide +kernel
theorem dX0_longestWait_0 : decode cX0_longestWait 0 = .ok (.iconst 0, 1) := by decide +kernel
theorem dX0_longestWait_1 : decode cX0_longestWait 1 = .ok (.istore_n 2, 1) := by decide +kernel
theorem dX0_longestWait_2 : decode cX0_longestWait 2 = .ok (.iconst 1, 1) := by decide +kernel
theorem dX0_longestWait_3 : decode cX0_longestWait 3 = .ok (.istore_n 3, 1) := by decide +kernel
theorem dX0_longestWait_4 : decode cX0_longestWait 4 = .ok (.iload_n 3, 1) := by decide +kernel
theorem dX0_longestWait_5 : decode cX0_longestWait 5 = .ok (.aload_n 0, 1) := by decide +kernel
theorem dX0_longestWait_6 : decode cX0_longestWait 6 = .ok (.getfield 15, 3) := by decide +kernel
theorem dX0_longestWait_9 : decode cX0_longestWait 9 = .ok (.getfield 49, 3) := by decide +kernel
theorem dX0_longestWait_12 : decode cX0_longestWait 12 = .ok (.iload_n 1, 1) := by decide +kernel
theorem dX0_longestWait_13 : decode cX0_longestWait 13 = .ok (.iaload, 1) := by decide +kernel
theorem dX0_longestWait_14 : decode cX0_longestWait 14 = .ok (.if_icmp .ge 29, 3) := by decide +kernel
theorem dX0_longestWait_17 : decode cX0_longestWait 17 = .ok (.iload_n 2, 1) := by decide +kernel
theorem dX0_longestWait_18 : decode cX0_longestWait 18 = .ok (.aload_n 0, 1) := by decide +kernel
theorem dX0_longestWait_19 : decode cX0_longestWait 19 = .ok (.getfield 9, 3) := by decide +kernel
theorem dX0_longestWait_22 : decode cX0_longestWait 22 = .ok (.iload_n 3, 1) := by decide +kernel
theorem dX0_longestWait_23 : decode cX0_longestWait 23 = .ok (.iaload, 1) := by decide +kernel
theorem dX0_longestWait_24 : decode cX0_longestWait 24 = .ok (.aload_n 0, 1) := by decide +kernel
theorem dX0_longestWait_25 : decode cX0_longestWait 25 = .ok (.getfield 9, 3) := by decide +kernel
theorem dX0_longestWait_28 : decode cX0_longestWait 28 = .ok (.iload_n 3, 1) := by decide +kernel
theorem dX0_longestWait_29 : decode cX0_longestWait 29 = .ok (.iconst 1, 1) := by decide +kernel
theorem dX0_longestWait_30 : decode cX0_longestWait 30 = .ok (.isub, 1) := by decide +kernel
theorem dX0_longestWait_31 : decode cX0_longestWait 31 = .ok (.iaload, 1) := by decide +kernel
theorem dX0_longestWait_32 : decode cX0_longestWait 32 = .ok (.isub, 1) := by decide +kernel
theorem dX0_longestWait_33 : decode cX0_longestWait 33 = .ok (.invokestatic 80, 3) := by decide +kernel
theorem dX0_longestWait_36 : decode cX0_longestWait 36 = .ok (.istore_n 2, 1) := by decide +kernel
theorem dX0_longestWait_37 : decode cX0_longestWait 37 = .ok (.iinc 3 1, 3) := by decide +kernel
theorem dX0_longestWait_40 : decode cX0_longestWait 40 = .ok (.goto (-36), 3) := by decide +kernel
theorem dX0_longestWait_43 : decode cX0_longestWait 43 = .ok (.iload_n 2, 1) := by decide +kernel
theorem dX0_longestWait_44 : decode cX0_longestWait 44 = .ok (.ireturn, 1) := by decide +kernel
theorem dX0_rightDays_0 : decode cX0_rightDays 0 = .ok (.aload_n 2, 1) := by decide +kernel
theorem dX0_rightDays_1 : decode cX0_rightDays 1 = .ok (.getfield 83, 3) := by decide +kernel
theorem dX0_rightDays_4 : decode cX0_rightDays 4 = .ok (.aload_n 0, 1) := by decide +kernel
theorem dX0_rightDays_5 : decode cX0_rightDays 5 = .ok (.getfield 15, 3) := by decide +kernel
theorem dX0_rightDays_8 : decode cX0_rightDays 8 = .ok (.getfield 49, 3) := by decide +kernel
theorem dX0_rightDays_11 : decode cX0_rightDays 11 = .ok (.iload_n 1, 1) := by decide +kernel
theorem dX0_rightDays_12 : decode cX0_rightDays 12 = .ok (.iaload, 1) := by decide +kernel
theorem dX0_rightDays_13 : decode cX0_rightDays 13 = .ok (.invokestatic 59, 3) := by decide +kernel
theorem dX0_rightDays_16 : decode cX0_rightDays 16 = .ok (.istore_n 3, 1) := by decide +kernel
theorem dX0_rightDays_17 : decode cX0_rightDays 17 = .ok (.iconst 0, 1) := by decide +kernel
theorem dX0_rightDays_18 : decode cX0_rightDays 18 = .ok (.istore 4, 2) := by decide +kernel
theorem dX0_rightDays_20 : decode cX0_rightDays 20 = .ok (.iload 4, 2) := by decide +kernel
theorem dX0_rightDays_22 : decode cX0_rightDays 22 = .ok (.iload_n 3, 1) := by decide +kernel
theorem dX0_rightDays_23 : decode cX0_rightDays 23 = .ok (.if_icmp .ge 104, 3) := by decide +kernel
theorem dX0_rightDays_26 : decode cX0_rightDays 26 = .ok (.aload_n 2, 1) := by decide +kernel
theorem dX0_rightDays_27 : decode cX0_rightDays 27 = .ok (.getfield 88, 3) := by decide +kernel
theorem dX0_rightDays_30 : decode cX0_rightDays 30 = .ok (.iload 4, 2) := by decide +kernel
theorem dX0_rightDays_32 : decode cX0_rightDays 32 = .ok (.iaload, 1) := by decide +kernel
theorem dX0_rightDays_33 : decode cX0_rightDays 33 = .ok (.istore 5, 2) := by decide +kernel
theorem dX0_rightDays_35 : decode cX0_rightDays 35 = .ok (.iload 5, 2) := by decide +kernel
theorem dX0_rightDays_37 : decode cX0_rightDays 37 = .ok (.ifCond .lt 16, 3) := by decide +kernel
theorem dX0_rightDays_40 : decode cX0_rightDays 40 = .ok (.iload 4, 2) := by decide +kernel
theorem dX0_rightDays_42 : decode cX0_rightDays 42 = .ok (.ifCond .ne 14, 3) := by decide +kernel
theorem dX0_rightDays_45 : decode cX0_rightDays 45 = .ok (.iload 5, 2) := by decide +kernel
theorem dX0_rightDays_47 : decode cX0_rightDays 47 = .ok (.sipush 999, 3) := by decide +kernel
theorem dX0_rightDays_50 : decode cX0_rightDays 50 = .ok (.if_icmp .le 6, 3) := by decide +kernel
theorem dX0_rightDays_53 : decode cX0_rightDays 53 = .ok (.iload 4, 2) := by decide +kernel
theorem dX0_rightDays_55 : decode cX0_rightDays 55 = .ok (.ireturn, 1) := by decide +kernel
theorem dX0_rightDays_56 : decode cX0_rightDays 56 = .ok (.iload 4, 2) := by decide +kernel
theorem dX0_rightDays_58 : decode cX0_rightDays 58 = .ok (.ifCond .ne 8, 3) := by decide +kernel
theorem dX0_rightDays_61 : decode cX0_rightDays 61 = .ok (.iload 5, 2) := by decide +kernel
theorem dX0_rightDays_63 : decode cX0_rightDays 63 = .ok (.goto 12, 3) := by decide +kernel
theorem dX0_rightDays_66 : decode cX0_rightDays 66 = .ok (.aload_n 2, 1) := by decide +kernel
theorem dX0_rightDays_67 : decode cX0_rightDays 67 = .ok (.getfield 88, 3) := by decide +kernel
theorem dX0_rightDays_70 : decode cX0_rightDays 70 = .ok (.iload 4, 2) := by decide +kernel
theorem dX0_rightDays_72 : decode cX0_rightDays 72 = .ok (.iconst 1, 1) := by decide +kernel
theorem dX0_rightDays_73 : decode cX0_rightDays 73 = .ok (.isub, 1) := by decide +kernel
theorem dX0_rightDays_74 : decode cX0_rightDays 74 = .ok (.iaload, 1) := by decide +kernel
theorem dX0_rightDays_75 : decode cX0_rightDays 75 = .ok (.istore 6, 2) := by decide +kernel
theorem dX0_rightDays_77 : decode cX0_rightDays 77 = .ok (.aload_n 0, 1) := by decide +kernel
theorem dX0_rightDays_78 : decode cX0_rightDays 78 = .ok (.iload_n 1, 1) := by decide +kernel
theorem dX0_rightDays_79 : decode cX0_rightDays 79 = .ok (.iload 4, 2) := by decide +kernel
theorem dX0_rightDays_81 : decode cX0_rightDays 81 = .ok (.iload 6, 2) := by decide +kernel
theorem dX0_rightDays_83 : decode cX0_rightDays 83 = .ok (.invokevirtual 68, 3) := by decide +kernel
theorem dX0_rightDays_86 : decode cX0_rightDays 86 = .ok (.iload 5, 2) := by decide +kernel
theorem dX0_rightDays_88 : decode cX0_rightDays 88 = .ok (.if_icmp .eq 6, 3) := by decide +kernel
theorem dX0_rightDays_91 : decode cX0_rightDays 91 = .ok (.iload 4, 2) := by decide +kernel
theorem dX0_rightDays_93 : decode cX0_rightDays 93 = .ok (.ireturn, 1) := by decide +kernel
theorem dX0_rightDays_94 : decode cX0_rightDays 94 = .ok (.iload 4, 2) := by decide +kernel
theorem dX0_rightDays_96 : decode cX0_rightDays 96 = .ok (.ifCond .le 25, 3) := by decide +kernel
theorem dX0_rightDays_99 : decode cX0_rightDays 99 = .ok (.iload 5, 2) := by decide +kernel
theorem dX0_rightDays_101 : decode cX0_rightDays 101 = .ok (.iload 6, 2) := by decide +kernel
theorem dX0_rightDays_103 : decode cX0_rightDays 103 = .ok (.isub, 1) := by decide +kernel
theorem dX0_rightDays_104 : decode cX0_rightDays 104 = .ok (.aload_n 0, 1) := by decide +kernel
theorem dX0_rightDays_105 : decode cX0_rightDays 105 = .ok (.getfield 15, 3) := by decide +kernel
theorem dX0_rightDays_108 : decode cX0_rightDays 108 = .ok (.iload_n 1, 1) := by decide +kernel
theorem dX0_rightDays_109 : decode cX0_rightDays 109 = .ok (.iload 4, 2) := by decide +kernel
theorem dX0_rightDays_111 : decode cX0_rightDays 111 = .ok (.iconst 2, 1) := by decide +kernel
theorem dX0_rightDays_112 : decode cX0_rightDays 112 = .ok (.invokevirtual 28, 3) := by decide +kernel
theorem dX0_rightDays_115 : decode cX0_rightDays 115 = .ok (.if_icmp .le 6, 3) := by decide +kernel
theorem dX0_rightDays_118 : decode cX0_rightDays 118 = .ok (.iload 4, 2) := by decide +kernel
theorem dX0_rightDays_120 : decode cX0_rightDays 120 = .ok (.ireturn, 1) := by decide +kernel
theorem dX0_rightDays_121 : decode cX0_rightDays 121 = .ok (.iinc 4 1, 3) := by decide +kernel
theorem dX0_rightDays_124 : decode cX0_rightDays 124 = .ok (.goto (-104), 3) := by decide +kernel
theorem dX0_rightDays_127 : decode cX0_rightDays 127 = .ok (.iload_n 3, 1) := by decide +kernel
theorem dX0_rightDays_128 : decode cX0_rightDays 128 = .ok (.ireturn, 1) := by decide +kernel
theorem dX1_init_0 : decode cX1_init 0 = .ok (.aload_n 0, 1) := by decide +kernel
theorem dX1_init_1 : decode cX1_init 1 = .ok (.invokespecial 3, 3) := by decide +kernel
theorem dX1_init_4 : decode cX1_init 4 = .ok (.aload_n 0, 1) := by decide +kernel
theorem dX1_init_5 : decode cX1_init 5 = .ok (.iconst 0, 1) := by decide +kernel
theorem dX1_init_6 : decode cX1_init 6 = .ok (.putfield 9, 3) := by decide +kernel
theorem dX1_init_9 : decode cX1_init 9 = .ok (.aload_n 0, 1) := by decide +kernel
theorem dX1_init_10 : decode cX1_init 10 = .ok (.iconst 0, 1) := by decide +kernel
theorem dX1_init_11 : decode cX1_init 11 = .ok (.putfield 15, 3) := by decide +kernel
theorem dX1_init_14 : decode cX1_init 14 = .ok (.aload_n 0, 1) := by decide +kernel
theorem dX1_init_15 : decode cX1_init 15 = .ok (.bipush 40, 2) := by decide +kernel
theorem dX1_init_17 : decode cX1_init 17 = .ok (.newarray .int, 2) := by decide +kernel
theorem dX1_init_19 : decode cX1_init 19 = .ok (.putfield 18, 3) := by decide +kernel
theorem dX1_init_22 : decode cX1_init 22 = .ok (.return_, 1) := by decide +kernel
theorem dX1_layOut_0 : decode cX1_layOut 0 = .ok (.aload_n 0, 1) := by decide +kernel
theorem dX1_layOut_1 : decode cX1_layOut 1 = .ok (.iload_n 1, 1) := by decide +kernel
theorem dX1_layOut_2 : decode cX1_layOut 2 = .ok (.putfield 9, 3) := by decide +kernel
theorem dX1_layOut_5 : decode cX1_layOut 5 = .ok (.aload_n 0, 1) := by decide +kernel
theorem dX1_layOut_6 : decode cX1_layOut 6 = .ok (.iload_n 1, 1) := by decide +kernel
theorem dX1_layOut_7 : decode cX1_layOut 7 = .ok (.ifCond .ne 7, 3) := by decide +kernel
theorem dX1_layOut_10 : decode cX1_layOut 10 = .ok (.iconst 0, 1) := by decide +kernel
theorem dX1_layOut_11 : decode cX1_layOut 11 = .ok (.goto 4, 3) := by decide +kernel
theorem dX1_layOut_14 : decode cX1_layOut 14 = .ok (.iload_n 2, 1) := by decide +kernel
theorem dX1_layOut_15 : decode cX1_layOut 15 = .ok (.putfield 15, 3) := by decide +kernel
theorem dX1_layOut_18 : decode cX1_layOut 18 = .ok (.iconst 0, 1) := by decide +kernel
theorem dX1_layOut_19 : decode cX1_layOut 19 = .ok (.istore_n 3, 1) := by decide +kernel
theorem dX1_layOut_20 : decode cX1_layOut 20 = .ok (.iload_n 3, 1) := by decide +kernel
theorem dX1_layOut_21 : decode cX1_layOut 21 = .ok (.bipush 40, 2) := by decide +kernel
theorem dX1_layOut_23 : decode cX1_layOut 23 = .ok (.if_icmp .ge 16, 3) := by decide +kernel
theorem dX1_layOut_26 : decode cX1_layOut 26 = .ok (.aload_n 0, 1) := by decide +kernel
theorem dX1_layOut_27 : decode cX1_layOut 27 = .ok (.getfield 18, 3) := by decide +kernel
theorem dX1_layOut_30 : decode cX1_layOut 30 = .ok (.iload_n 3, 1) := by decide +kernel
theorem dX1_layOut_31 : decode cX1_layOut 31 = .ok (.iconst 0, 1) := by decide +kernel
theorem dX1_layOut_32 : decode cX1_layOut 32 = .ok (.iastore, 1) := by decide +kernel
theorem dX1_layOut_33 : decode cX1_layOut 33 = .ok (.iinc 3 1, 3) := by decide +kernel
theorem dX1_layOut_36 : decode cX1_layOut 36 = .ok (.goto (-16), 3) := by decide +kernel
theorem dX1_layOut_39 : decode cX1_layOut 39 = .ok (.return_, 1) := by decide +kernel
theorem dX1_put_0 : decode cX1_put 0 = .ok (.bipush 32, 2) := by decide +kernel
theorem dX1_put_2 : decode cX1_put 2 = .ok (.aload_n 0, 1) := by decide +kernel
theorem dX1_put_3 : decode cX1_put 3 = .ok (.getfield 9, 3) := by decide +kernel
theorem dX1_put_6 : decode cX1_put 6 = .ok (.isub, 1) := by decide +kernel
theorem dX1_put_7 : decode cX1_put 7 = .ok (.istore_n 3, 1) := by decide +kernel
theorem dX1_put_8 : decode cX1_put 8 = .ok (.aload_n 0, 1) := by decide +kernel
theorem dX1_put_9 : decode cX1_put 9 = .ok (.getfield 18, 3) := by decide +kernel
theorem dX1_put_12 : decode cX1_put 12 = .ok (.iload_n 1, 1) := by decide +kernel
theorem dX1_put_13 : decode cX1_put 13 = .ok (.iload_n 2, 1) := by decide +kernel
theorem dX1_put_14 : decode cX1_put 14 = .ok (.iload_n 3, 1) := by decide +kernel
theorem dX1_put_15 : decode cX1_put 15 = .ok (.ishl, 1) := by decide +kernel
theorem dX1_put_16 : decode cX1_put 16 = .ok (.iload_n 3, 1) := by decide +kernel
theorem dX1_put_17 : decode cX1_put 17 = .ok (.ishr, 1) := by decide +kernel
theorem dX1_put_18 : decode cX1_put 18 = .ok (.iastore, 1) := by decide +kernel
theorem dX1_put_19 : decode cX1_put 19 = .ok (.return_, 1) := by decide +kernel
theorem dX1_hasStretch_0 : decode cX1_hasStretch 0 = .ok (.iload_n 1, 1) := by decide +kernel
theorem dX1_hasStretch_1 : decode cX1_hasStretch 1 = .ok (.ifCond .lt 29, 3) := by decide +kernel
theorem dX1_hasStretch_4 : decode cX1_hasStretch 4 = .ok (.iload_n 2, 1) := by decide +kernel
theorem dX1_hasStretch_5 : decode cX1_hasStretch 5 = .ok (.ifCond .lt 25, 3) := by decide +kernel
theorem dX1_hasStretch_8 : decode cX1_hasStretch 8 = .ok (.iload_n 1, 1) := by decide +kernel
theorem dX1_hasStretch_9 : decode cX1_hasStretch 9 = .ok (.aload_n 0, 1) := by decide +kernel
theorem dX1_hasStretch_10 : decode cX1_hasStretch 10 = .ok (.getfield 15, 3) := by decide +kernel
theorem dX1_hasStretch_13 : decode cX1_hasStretch 13 = .ok (.if_icmp .gt 17, 3) := by decide +kernel
theorem dX1_hasStretch_16 : decode cX1_hasStretch 16 = .ok (.iload_n 2, 1) := by decide +kernel
theorem dX1_hasStretch_17 : decode cX1_hasStretch 17 = .ok (.aload_n 0, 1) := by decide +kernel
theorem dX1_hasStretch_18 : decode cX1_hasStretch 18 = .ok (.getfield 15, 3) := by decide +kernel
theorem dX1_hasStretch_21 : decode cX1_hasStretch 21 = .ok (.iload_n 1, 1) := by decide +kernel
theorem dX1_hasStretch_22 : decode cX1_hasStretch 22 = .ok (.isub, 1) := by decide +kernel
theorem dX1_hasStretch_23 : decode cX1_hasStretch 23 = .ok (.if_icmp .gt 7, 3) := by decide +kernel
theorem dX1_hasStretch_26 : decode cX1_hasStretch 26 = .ok (.iconst 1, 1) := by decide +kernel
theorem dX1_hasStretch_27 : decode cX1_hasStretch 27 = .ok (.goto 4, 3) := by decide +kernel
theorem dX1_hasStretch_30 : decode cX1_hasStretch 30 = .ok (.iconst 0, 1) := by decide +kernel
theorem dX1_hasStretch_31 : decode cX1_hasStretch 31 = .ok (.ireturn, 1) := by decide +kernel
theorem dX2_init_0 : decode cX2_init 0 = .ok (.aload_n 0, 1) := by decide +kernel
theorem dX2_init_1 : decode cX2_init 1 = .ok (.invokespecial 3, 3) := by decide +kernel
theorem dX2_init_4 : decode cX2_init 4 = .ok (.aload_n 0, 1) := by decide +kernel
theorem dX2_init_5 : decode cX2_init 5 = .ok (.bipush 60, 2) := by decide +kernel
theorem dX2_init_7 : decode cX2_init 7 = .ok (.newarray .boolean, 2) := by decide +kernel
theorem dX2_init_9 : decode cX2_init 9 = .ok (.putfield 9, 3) := by decide +kernel
theorem dX2_init_12 : decode cX2_init 12 = .ok (.aload_n 0, 1) := by decide +kernel
theorem dX2_init_13 : decode cX2_init 13 = .ok (.sipush 480, 3) := by decide +kernel
theorem dX2_init_16 : decode cX2_init 16 = .ok (.newarray .int, 2) := by decide +kernel
theorem dX2_init_18 : decode cX2_init 18 = .ok (.putfield 15, 3) := by decide +kernel
theorem dX2_init_21 : decode cX2_init 21 = .ok (.aload_n 0, 1) := by decide +kernel
theorem dX2_init_22 : decode cX2_init 22 = .ok (.sipush 3200, 3) := by decide +kernel
theorem dX2_init_25 : decode cX2_init 25 = .ok (.newarray .int, 2) := by decide +kernel
theorem dX2_init_27 : decode cX2_init 27 = .ok (.putfield 19, 3) := by decide +kernel
theorem dX2_init_30 : decode cX2_init 30 = .ok (.aload_n 0, 1) := by decide +kernel
theorem dX2_init_31 : decode cX2_init 31 = .ok (.bipush 40, 2) := by decide +kernel
theorem dX2_init_33 : decode cX2_init 33 = .ok (.newarray .int, 2) := by decide +kernel
theorem dX2_init_35 : decode cX2_init 35 = .ok (.putfield 22, 3) := by decide +kernel
theorem dX2_init_38 : decode cX2_init 38 = .ok (.aload_n 0, 1) := by decide +kernel
theorem dX2_init_39 : decode cX2_init 39 = .ok (.iconst 0, 1) := by decide +kernel
theorem dX2_init_40 : decode cX2_init 40 = .ok (.putfield 25, 3) := by decide +kernel
theorem dX2_init_43 : decode cX2_init 43 = .ok (.aload_n 0, 1) := by decide +kernel
theorem dX2_init_44 : decode cX2_init 44 = .ok (.iconst 5, 1) := by decide +kernel
theorem dX2_init_45 : decode cX2_init 45 = .ok (.newarray .int, 2) := by decide +kernel
theorem dX2_init_47 : decode cX2_init 47 = .ok (.putfield 29, 3) := by decide +kernel
theorem dX2_init_50 : decode cX2_init 50 = .ok (.aload_n 0, 1) := by decide +kernel
theorem dX2_init_51 : decode cX2_init 51 = .ok (.bipush 8, 2) := by decide +kernel
theorem dX2_init_53 : decode cX2_init 53 = .ok (.newarray .int, 2) := by decide +kernel
theorem dX2_init_55 : decode cX2_init 55 = .ok (.putfield 32, 3) := by decide +kernel
theorem dX2_init_58 : decode cX2_init 58 = .ok (.aload_n 0, 1) := by decide +kernel
theorem dX2_init_59 : decode cX2_init 59 = .ok (.iconst 0, 1) := by decide +kernel
theorem dX2_init_60 : decode cX2_init 60 = .ok (.putfield 35, 3) := by decide +kernel
theorem dX2_init_63 : decode cX2_init 63 = .ok (.aload_n 0, 1) := by decide +kernel
theorem dX2_init_64 : decode cX2_init 64 = .ok (.iconst 0, 1) := by decide +kernel
theorem dX2_init_65 : decode cX2_init 65 = .ok (.putfield 38, 3) := by decide +kernel
theorem dX2_init_68 : decode cX2_init 68 = .ok (.aload_n 0, 1) := by decide +kernel
theorem dX2_init_69 : decode cX2_init 69 = .ok (.iconst (-1), 1) := by decide +kernel
theorem dX2_init_70 : decode cX2_init 70 = .ok (.putfield 41, 3) := by decide +kernel
theorem dX2_init_73 : decode cX2_init 73 = .ok (.aload_n 0, 1) := by decide +kernel
theorem dX2_init_74 : decode cX2_init 74 = .ok (.iconst 0, 1) := by decide +kernel
theorem dX2_init_75 : decode cX2_init 75 = .ok (.putfield 44, 3) := by decide +kernel
theorem dX2_init_78 : decode cX2_init 78 = .ok (.aload_n 0, 1) := by decide +kernel
theorem dX2_init_79 : decode cX2_init 79 = .ok (.iconst 0, 1) := by decide +kernel
theorem dX2_init_80 : decode cX2_init 80 = .ok (.putfield 47, 3) := by decide +kernel
theorem dX2_init_83 : decode cX2_init 83 = .ok (.aload_n 0, 1) := by decide +kernel
theorem dX2_init_84 : decode cX2_init 84 = .ok (.iconst 0, 1) := by decide +kernel
theorem dX2_init_85 : decode cX2_init 85 = .ok (.putfield 50, 3) := by decide +kernel
theorem dX2_init_88 : decode cX2_init 88 = .ok (.aload_n 0, 1) := by decide +kernel
theorem dX2_init_89 : decode cX2_init 89 = .ok (.aload_n 1, 1) := by decide +kernel
theorem dX2_init_90 : decode cX2_init 90 = .ok (.putfield 53, 3) := by decide +kernel
theorem dX2_init_93 : decode cX2_init 93 = .ok (.aload_n 0, 1) := by decide +kernel
theorem dX2_init_94 : decode cX2_init 94 = .ok (.aload_n 2, 1) := by decide +kernel
theorem dX2_init_95 : decode cX2_init 95 = .ok (.putfield 57, 3) := by decide +kernel
theorem dX2_init_98 : decode cX2_init 98 = .ok (.return_, 1) := by decide +kernel
theorem dX2_readSequence_0 : decode cX2_readSequence 0 = .ok (.iload_n 1, 1) := by decide +kernel
theorem dX2_readSequence_1 : decode cX2_readSequence 1 = .ok (.ifCond .lt 12, 3) := by decide +kernel
theorem dX2_readSequence_4 : decode cX2_readSequence 4 = .ok (.iload_n 2, 1) := by decide +kernel
theorem dX2_readSequence_5 : decode cX2_readSequence 5 = .ok (.iconst 0, 1) := by decide +kernel
theorem dX2_readSequence_6 : decode cX2_readSequence 6 = .ok (.iconst 5, 1) := by decide +kernel
theorem dX2_readSequence_7 : decode cX2_readSequence 7 = .ok (.invokestatic 61, 3) := by decide +kernel
theorem dX2_readSequence_10 : decode cX2_readSequence 10 = .ok (.ifCond .ne 5, 3) := by decide +kernel
theorem dX2_readSequence_13 : decode cX2_readSequence 13 = .ok (.iconst 0, 1) := by decide +kernel
theorem dX2_readSequence_14 : decode cX2_readSequence 14 = .ok (.ireturn, 1) := by decide +kernel
theorem dX2_readSequence_15 : decode cX2_readSequence 15 = .ok (.iload_n 1, 1) := by decide +kernel
theorem dX2_readSequence_16 : decode cX2_readSequence 16 = .ok (.istore_n 3, 1) := by decide +kernel
theorem dX2_readSequence_17 : decode cX2_readSequence 17 = .ok (.iconst 0, 1) := by decide +kernel
theorem dX2_readSequence_18 : decode cX2_readSequence 18 = .ok (.istore 4, 2) := by decide +kernel
theorem dX2_readSequence_20 : decode cX2_readSequence 20 = .ok (.iload_n 2, 1) := by decide +kernel
theorem dX2_readSequence_21 : decode cX2_readSequence 21 = .ok (.iconst 1, 1) := by decide +kernel
theorem dX2_readSequence_22 : decode cX2_readSequence 22 = .ok (.isub, 1) := by decide +kernel
theorem dX2_readSequence_23 : decode cX2_readSequence 23 = .ok (.istore 5, 2) := by decide +kernel
theorem dX2_readSequence_25 : decode cX2_readSequence 25 = .ok (.iload 5, 2) := by decide +kernel
theorem dX2_readSequence_27 : decode cX2_readSequence 27 = .ok (.ifCond .lt 62, 3) := by decide +kernel
theorem dX2_readSequence_30 : decode cX2_readSequence 30 = .ok (.iload_n 3, 1) := by decide +kernel
theorem dX2_readSequence_31 : decode cX2_readSequence 31 = .ok (.bipush 10, 2) := by decide +kernel
theorem dX2_readSequence_33 : decode cX2_readSequence 33 = .ok (.irem, 1) := by decide +kernel
theorem dX2_readSequence_34 : decode cX2_readSequence 34 = .ok (.istore 6, 2) := by decide +kernel
theorem dX2_readSequence_36 : decode cX2_readSequence 36 = .ok (.iload 6, 2) := by decide +kernel
theorem dX2_readSequence_38 : decode cX2_readSequence 38 = .ok (.aload_n 0, 1) := by decide +kernel
theorem dX2_readSequence_39 : decode cX2_readSequence 39 = .ok (.getfield 53, 3) := by decide +kernel
theorem dX2_readSequence_42 : decode cX2_readSequence 42 = .ok (.getfield 65, 3) := by decide +kernel
theorem dX2_readSequence_45 : decode cX2_readSequence 45 = .ok (.if_icmp .ge 13, 3) := by decide +kernel
theorem dX2_readSequence_48 : decode cX2_readSequence 48 = .ok (.iload 4, 2) := by decide +kernel
theorem dX2_readSequence_50 : decode cX2_readSequence 50 = .ok (.iload 6, 2) := by decide +kernel
theorem dX2_readSequence_52 : decode cX2_readSequence 52 = .ok (.ishr, 1) := by decide +kernel
theorem dX2_readSequence_53 : decode cX2_readSequence 53 = .ok (.iconst 1, 1) := by decide +kernel
theorem dX2_readSequence_54 : decode cX2_readSequence 54 = .ok (.iand, 1) := by decide +kernel
theorem dX2_readSequence_55 : decode cX2_readSequence 55 = .ok (.ifCond .eq 5, 3) := by decide +kernel
theorem dX2_readSequence_58 : decode cX2_readSequence 58 = .ok (.iconst 0, 1) := by decide +kernel
theorem dX2_readSequence_59 : decode cX2_readSequence 59 = .ok (.ireturn, 1) := by decide +kernel
theorem dX2_readSequence_60 : decode cX2_readSequence 60 = .ok (.iload 4, 2) := by decide +kernel
theorem dX2_readSequence_62 : decode cX2_readSequence 62 = .ok (.iconst 1, 1) := by decide +kernel
theorem dX2_readSequence_63 : decode cX2_readSequence 63 = .ok (.iload 6, 2) := by decide +kernel
theorem dX2_readSequence_65 : decode cX2_readSequence 65 = .ok (.ishl, 1) := by decide +kernel
theorem dX2_readSequence_66 : decode cX2_readSequence 66 = .ok (.ior, 1) := by decide +kernel
theorem dX2_readSequence_67 : decode cX2_readSequence 67 = .ok (.istore 4, 2) := by decide +kernel
theorem dX2_readSequence_69 : decode cX2_readSequence 69 = .ok (.aload_n 0, 1) := by decide +kernel
theorem dX2_readSequence_70 : decode cX2_readSequence 70 = .ok (.getfield 29, 3) := by decide +kernel
theorem dX2_readSequence_73 : decode cX2_readSequence 73 = .ok (.iload 5, 2) := by decide +kernel
theorem dX2_readSequence_75 : decode cX2_readSequence 75 = .ok (.iload 6, 2) := by decide +kernel
theorem dX2_readSequence_77 : decode cX2_readSequence 77 = .ok (.iastore, 1) := by decide +kernel
theorem dX2_readSequence_78 : decode cX2_readSequence 78 = .ok (.iload_n 3, 1) := by decide +kernel
theorem dX2_readSequence_79 : decode cX2_readSequence 79 = .ok (.bipush 10, 2) := by decide +kernel
theorem dX2_readSequence_81 : decode cX2_readSequence 81 = .ok (.idiv, 1) := by decide +kernel
theorem dX2_readSequence_82 : decode cX2_readSequence 82 = .ok (.istore_n 3, 1) := by decide +kernel
theorem dX2_readSequence_83 : decode cX2_readSequence 83 = .ok (.iinc 5 (-1), 3) := by decide +kernel
theorem dX2_readSequence_86 : decode cX2_readSequence 86 = .ok (.goto (-61), 3) := by decide +kernel
theorem dX2_readSequence_89 : decode cX2_readSequence 89 = .ok (.iload_n 3, 1) := by decide +kernel
theorem dX2_readSequence_90 : decode cX2_readSequence 90 = .ok (.ifCond .ne 7, 3) := by decide +kernel
theorem dX2_readSequence_93 : decode cX2_readSequence 93 = .ok (.iconst 1, 1) := by decide +kernel
theorem dX2_readSequence_94 : decode cX2_readSequence 94 = .ok (.goto 4, 3) := by decide +kernel
theorem dX2_readSequence_97 : decode cX2_readSequence 97 = .ok (.iconst 0, 1) := by decide +kernel
theorem dX2_readSequence_98 : decode cX2_readSequence 98 = .ok (.ireturn, 1) := by decide +kernel
theorem dX2_plotRuns_0 : decode cX2_plotRuns 0 = .ok (.aload_n 0, 1) := by decide +kernel
theorem dX2_plotRuns_1 : decode cX2_plotRuns 1 = .ok (.invokevirtual 70, 3) := by decide +kernel
theorem dX2_plotRuns_4 : decode cX2_plotRuns 4 = .ok (.iconst 0, 1) := by decide +kernel
theorem dX2_plotRuns_5 : decode cX2_plotRuns 5 = .ok (.istore_n 1, 1) := by decide +kernel
theorem dX2_plotRuns_6 : decode cX2_plotRuns 6 = .ok (.iload_n 1, 1) := by decide +kernel
theorem dX2_plotRuns_7 : decode cX2_plotRuns 7 = .ok (.aload_n 0, 1) := by decide +kernel
theorem dX2_plotRuns_8 : decode cX2_plotRuns 8 = .ok (.getfield 53, 3) := by decide +kernel
theorem dX2_plotRuns_11 : decode cX2_plotRuns 11 = .ok (.getfield 65, 3) := by decide +kernel
theorem dX2_plotRuns_14 : decode cX2_plotRuns 14 = .ok (.if_icmp .ge 115, 3) := by decide +kernel
theorem dX2_plotRuns_17 : decode cX2_plotRuns 17 = .ok (.aload_n 0, 1) := by decide +kernel
theorem dX2_plotRuns_18 : decode cX2_plotRuns 18 = .ok (.getfield 53, 3) := by decide +kernel
theorem dX2_plotRuns_21 : decode cX2_plotRuns 21 = .ok (.iload_n 1, 1) := by decide +kernel
theorem dX2_plotRuns_22 : decode cX2_plotRuns 22 = .ok (.iconst 0, 1) := by decide +kernel
theorem dX2_plotRuns_23 : decode cX2_plotRuns 23 = .ok (.invokevirtual 73, 3) := by decide +kernel
theorem dX2_plotRuns_26 : decode cX2_plotRuns 26 = .ok (.istore_n 2, 1) := by decide +kernel
theorem dX2_plotRuns_27 : decode cX2_plotRuns 27 = .ok (.iconst 0, 1) := by decide +kernel
theorem dX2_plotRuns_28 : decode cX2_plotRuns 28 = .ok (.istore_n 3, 1) := by decide +kernel
theorem dX2_plotRuns_29 : decode cX2_plotRuns 29 = .ok (.iload_n 3, 1) := by decide +kernel
theorem dX2_plotRuns_30 : decode cX2_plotRuns 30 = .ok (.aload_n 0, 1) := by decide +kernel
theorem dX2_plotRuns_31 : decode cX2_plotRuns 31 = .ok (.getfield 53, 3) := by decide +kernel
theorem dX2_plotRuns_34 : decode cX2_plotRuns 34 = .ok (.getfield 77, 3) := by decide +kernel
theorem dX2_plotRuns_37 : decode cX2_plotRuns 37 = .ok (.if_icmp .ge 86, 3) := by decide +kernel
theorem dX2_plotRuns_40 : decode cX2_plotRuns 40 = .ok (.iload_n 1, 1) := by decide +kernel
theorem dX2_plotRuns_41 : decode cX2_plotRuns 41 = .ok (.bipush 12, 2) := by decide +kernel
theorem dX2_plotRuns_43 : decode cX2_plotRuns 43 = .ok (.imul, 1) := by decide +kernel
theorem dX2_plotRuns_44 : decode cX2_plotRuns 44 = .ok (.iload_n 3, 1) := by decide +kernel
theorem dX2_plotRuns_45 : decode cX2_plotRuns 45 = .ok (.iadd, 1) := by decide +kernel
theorem dX2_plotRuns_46 : decode cX2_plotRuns 46 = .ok (.istore 4, 2) := by decide +kernel
theorem dX2_plotRuns_48 : decode cX2_plotRuns 48 = .ok (.aload_n 0, 1) := by decide +kernel
theorem dX2_plotRuns_49 : decode cX2_plotRuns 49 = .ok (.getfield 57, 3) := by decide +kernel
theorem dX2_plotRuns_52 : decode cX2_plotRuns 52 = .ok (.iload_n 2, 1) := by decide +kernel
theorem dX2_plotRuns_53 : decode cX2_plotRuns 53 = .ok (.iload_n 3, 1) := by decide +kernel
theorem dX2_plotRuns_54 : decode cX2_plotRuns 54 = .ok (.invokevirtual 80, 3) := by decide +kernel
theorem dX2_plotRuns_57 : decode cX2_plotRuns 57 = .ok (.ifCond .lt 7, 3) := by decide +kernel
theorem dX2_plotRuns_60 : decode cX2_plotRuns 60 = .ok (.iconst 1, 1) := by decide +kernel
theorem dX2_plotRuns_61 : decode cX2_plotRuns 61 = .ok (.goto 4, 3) := by decide +kernel
theorem dX2_plotRuns_64 : decode cX2_plotRuns 64 = .ok (.iconst 0, 1) := by decide +kernel
theorem dX2_plotRuns_65 : decode cX2_plotRuns 65 = .ok (.istore 5, 2) := by decide +kernel
theorem dX2_plotRuns_67 : decode cX2_plotRuns 67 = .ok (.aload_n 0, 1) := by decide +kernel
theorem dX2_plotRuns_68 : decode cX2_plotRuns 68 = .ok (.getfield 57, 3) := by decide +kernel
theorem dX2_plotRuns_71 : decode cX2_plotRuns 71 = .ok (.getfield 85, 3) := by decide +kernel
theorem dX2_plotRuns_74 : decode cX2_plotRuns 74 = .ok (.iconst 0, 1) := by decide +kernel
theorem dX2_plotRuns_75 : decode cX2_plotRuns 75 = .ok (.aload_n 0, 1) := by decide +kernel
theorem dX2_plotRuns_76 : decode cX2_plotRuns 76 = .ok (.getfield 15, 3) := by decide +kernel
theorem dX2_plotRuns_79 : decode cX2_plotRuns 79 = .ok (.iload 4, 2) := by decide +kernel
theorem dX2_plotRuns_81 : decode cX2_plotRuns 81 = .ok (.bipush 8, 2) := by decide +kernel
theorem dX2_plotRuns_83 : decode cX2_plotRuns 83 = .ok (.imul, 1) := by decide +kernel
theorem dX2_plotRuns_84 : decode cX2_plotRuns 84 = .ok (.bipush 8, 2) := by decide +kernel
theorem dX2_plotRuns_86 : decode cX2_plotRuns 86 = .ok (.invokestatic 88, 3) := by decide +kernel
theorem dX2_plotRuns_89 : decode cX2_plotRuns 89 = .ok (.aload_n 0, 1) := by decide +kernel
theorem dX2_plotRuns_90 : decode cX2_plotRuns 90 = .ok (.getfield 9, 3) := by decide +kernel
theorem dX2_plotRuns_93 : decode cX2_plotRuns 93 = .ok (.iload 4, 2) := by decide +kernel
theorem dX2_plotRuns_95 : decode cX2_plotRuns 95 = .ok (.iload 5, 2) := by decide +kernel
theorem dX2_plotRuns_97 : decode cX2_plotRuns 97 = .ok (.ifCond .ne 18, 3) := by decide +kernel
theorem dX2_plotRuns_100 : decode cX2_plotRuns 100 = .ok (.aload_n 0, 1) := by decide +kernel
theorem dX2_plotRuns_101 : decode cX2_plotRuns 101 = .ok (.iload_n 1, 1) := by decide +kernel
theorem dX2_plotRuns_102 : decode cX2_plotRuns 102 = .ok (.iload 4, 2) := by decide +kernel
theorem dX2_plotRuns_104 : decode cX2_plotRuns 104 = .ok (.iconst 0, 1) := by decide +kernel
theorem dX2_plotRuns_105 : decode cX2_plotRuns 105 = .ok (.invokevirtual 94, 3) := by decide +kernel
theorem dX2_plotRuns_108 : decode cX2_plotRuns 108 = .ok (.ifCond .eq 7, 3) := by decide +kernel
theorem dX2_plotRuns_111 : decode cX2_plotRuns 111 = .ok (.iconst 1, 1) := by decide +kernel
theorem dX2_plotRuns_112 : decode cX2_plotRuns 112 = .ok (.goto 4, 3) := by decide +kernel
theorem dX2_plotRuns_115 : decode cX2_plotRuns 115 = .ok (.iconst 0, 1) := by decide +kernel
theorem dX2_plotRuns_116 : decode cX2_plotRuns 116 = .ok (.bastore, 1) := by decide +kernel
theorem dX2_plotRuns_117 : decode cX2_plotRuns 117 = .ok (.iinc 3 1, 3) := by decide +kernel
theorem dX2_plotRuns_120 : decode cX2_plotRuns 120 = .ok (.goto (-91), 3) := by decide +kernel
theorem dX2_plotRuns_123 : decode cX2_plotRuns 123 = .ok (.iinc 1 1, 3) := by decide +kernel
theorem dX2_plotRuns_126 : decode cX2_plotRuns 126 = .ok (.goto (-120), 3) := by decide +kernel
theorem dX2_plotRuns_129 : decode cX2_plotRuns 129 = .ok (.return_, 1) := by decide +kernel
theorem dX2_takeInSequence_0 : decode cX2_takeInSequence 0 = .ok (.aload_n 0, 1) := by decide +kernel
theorem dX2_takeInSequence_1 : decode cX2_takeInSequence 1 = .ok (.invokevirtual 70, 3) := by decide +kernel
theorem dX2_takeInSequence_4 : decode cX2_takeInSequence 4 = .ok (.iconst 0, 1) := by decide +kernel
theorem dX2_takeInSequence_5 : decode cX2_takeInSequence 5 = .ok (.istore_n 2, 1) := by decide +kernel
theorem dX2_takeInSequence_6 : decode cX2_takeInSequence 6 = .ok (.iload_n 2, 1) := by decide +kernel
theorem dX2_takeInSequence_7 : decode cX2_takeInSequence 7 = .ok (.iload_n 1, 1) := by decide +kernel
theorem dX2_takeInSequence_8 : decode cX2_takeInSequence 8 = .ok (.if_icmp .ge 71, 3) := by decide +kernel
theorem dX2_takeInSequence_11 : decode cX2_takeInSequence 11 = .ok (.aload_n 0, 1) := by decide +kernel
theorem dX2_takeInSequence_12 : decode cX2_takeInSequence 12 = .ok (.getfield 29, 3) := by decide +kernel
theorem dX2_takeInSequence_15 : decode cX2_takeInSequence 15 = .ok (.iload_n 2, 1) := by decide +kernel
theorem dX2_takeInSequence_16 : decode cX2_takeInSequence 16 = .ok (.iaload, 1) := by decide +kernel
theorem dX2_takeInSequence_17 : decode cX2_takeInSequence 17 = .ok (.istore_n 3, 1) := by decide +kernel
theorem dX2_takeInSequence_18 : decode cX2_takeInSequence 18 = .ok (.aload_n 0, 1) := by decide +kernel
theorem dX2_takeInSequence_19 : decode cX2_takeInSequence 19 = .ok (.iload_n 3, 1) := by decide +kernel
theorem dX2_takeInSequence_20 : decode cX2_takeInSequence 20 = .ok (.invokevirtual 97, 3) := by decide +kernel
theorem dX2_takeInSequence_23 : decode cX2_takeInSequence 23 = .ok (.istore 4, 2) := by decide +kernel
theorem dX2_takeInSequence_25 : decode cX2_takeInSequence 25 = .ok (.iload 4, 2) := by decide +kernel
theorem dX2_takeInSequence_27 : decode cX2_takeInSequence 27 = .ok (.ifCond .lt 46, 3) := by decide +kernel
theorem dX2_takeInSequence_30 : decode cX2_takeInSequence 30 = .ok (.aload_n 0, 1) := by decide +kernel
theorem dX2_takeInSequence_31 : decode cX2_takeInSequence 31 = .ok (.dup, 1) := by decide +kernel
theorem dX2_takeInSequence_32 : decode cX2_takeInSequence 32 = .ok (.getfield 35, 3) := by decide +kernel
theorem dX2_takeInSequence_35 : decode cX2_takeInSequence 35 = .ok (.aload_n 0, 1) := by decide +kernel
theorem dX2_takeInSequence_36 : decode cX2_takeInSequence 36 = .ok (.getfield 53, 3) := by decide +kernel
theorem dX2_takeInSequence_39 : decode cX2_takeInSequence 39 = .ok (.iload_n 3, 1) := by decide +kernel
theorem dX2_takeInSequence_40 : decode cX2_takeInSequence 40 = .ok (.iconst 2, 1) := by decide +kernel
theorem dX2_takeInSequence_41 : decode cX2_takeInSequence 41 = .ok (.invokevirtual 73, 3) := by decide +kernel
theorem dX2_takeInSequence_44 : decode cX2_takeInSequence 44 = .ok (.iadd, 1) := by decide +kernel
theorem dX2_takeInSequence_45 : decode cX2_takeInSequence 45 = .ok (.putfield 35, 3) := by decide +kernel
theorem dX2_takeInSequence_48 : decode cX2_takeInSequence 48 = .ok (.aload_n 0, 1) := by decide +kernel
theorem dX2_takeInSequence_49 : decode cX2_takeInSequence 49 = .ok (.dup, 1) := by decide +kernel
theorem dX2_takeInSequence_50 : decode cX2_takeInSequence 50 = .ok (.getfield 38, 3) := by decide +kernel
theorem dX2_takeInSequence_53 : decode cX2_takeInSequence 53 = .ok (.iconst 1, 1) := by decide +kernel
theorem dX2_takeInSequence_54 : decode cX2_takeInSequence 54 = .ok (.iload_n 3, 1) := by decide +kernel
theorem dX2_takeInSequence_55 : decode cX2_takeInSequence 55 = .ok (.ishl, 1) := by decide +kernel
theorem dX2_takeInSequence_56 : decode cX2_takeInSequence 56 = .ok (.ior, 1) := by decide +kernel
theorem dX2_takeInSequence_57 : decode cX2_takeInSequence 57 = .ok (.putfield 38, 3) := by decide +kernel
theorem dX2_takeInSequence_60 : decode cX2_takeInSequence 60 = .ok (.aload_n 0, 1) := by decide +kernel
theorem dX2_takeInSequence_61 : decode cX2_takeInSequence 61 = .ok (.aload_n 0, 1) := by decide +kernel
theorem dX2_takeInSequence_62 : decode cX2_takeInSequence 62 = .ok (.getfield 41, 3) := by decide +kernel
theorem dX2_takeInSequence_65 : decode cX2_takeInSequence 65 = .ok (.iload 4, 2) := by decide +kernel
theorem dX2_takeInSequence_67 : decode cX2_takeInSequence 67 = .ok (.invokestatic 101, 3) := by decide +kernel
theorem dX2_takeInSequence_70 : decode cX2_takeInSequence 70 = .ok (.putfield 41, 3) := by decide +kernel
theorem dX2_takeInSequence_73 : decode cX2_takeInSequence 73 = .ok (.iinc 2 1, 3) := by decide +kernel
theorem dX2_takeInSequence_76 : decode cX2_takeInSequence 76 = .ok (.goto (-70), 3) := by decide +kernel
theorem dX2_takeInSequence_79 : decode cX2_takeInSequence 79 = .ok (.return_, 1) := by decide +kernel
theorem dX2_forget_0 : decode cX2_forget 0 = .ok (.iconst 0, 1) := by decide +kernel
theorem dX2_forget_1 : decode cX2_forget 1 = .ok (.istore_n 1, 1) := by decide +kernel
theorem dX2_forget_2 : decode cX2_forget 2 = .ok (.iload_n 1, 1) := by decide +kernel
theorem dX2_forget_3 : decode cX2_forget 3 = .ok (.aload_n 0, 1) := by decide +kernel
theorem dX2_forget_4 : decode cX2_forget 4 = .ok (.getfield 25, 3) := by decide +kernel
theorem dX2_forget_7 : decode cX2_forget 7 = .ok (.if_icmp .ge 21, 3) := by decide +kernel
theorem dX2_forget_10 : decode cX2_forget 10 = .ok (.aload_n 0, 1) := by decide +kernel
theorem dX2_forget_11 : decode cX2_forget 11 = .ok (.getfield 19, 3) := by decide +kernel
theorem dX2_forget_14 : decode cX2_forget 14 = .ok (.aload_n 0, 1) := by decide +kernel
theorem dX2_forget_15 : decode cX2_forget 15 = .ok (.getfield 22, 3) := by decide +kernel
theorem dX2_forget_18 : decode cX2_forget 18 = .ok (.iload_n 1, 1) := by decide +kernel
theorem dX2_forget_19 : decode cX2_forget 19 = .ok (.iaload, 1) := by decide +kernel
theorem dX2_forget_20 : decode cX2_forget 20 = .ok (.iconst 0, 1) := by decide +kernel
theorem dX2_forget_21 : decode cX2_forget 21 = .ok (.iastore, 1) := by decide +kernel
theorem dX2_forget_22 : decode cX2_forget 22 = .ok (.iinc 1 1, 3) := by decide +kernel
theorem dX2_forget_25 : decode cX2_forget 25 = .ok (.goto (-23), 3) := by decide +kernel
theorem dX2_forget_28 : decode cX2_forget 28 = .ok (.aload_n 0, 1) := by decide +kernel
theorem dX2_forget_29 : decode cX2_forget 29 = .ok (.iconst 0, 1) := by decide +kernel
theorem dX2_forget_30 : decode cX2_forget 30 = .ok (.putfield 25, 3) := by decide +kernel
theorem dX2_forget_33 : decode cX2_forget 33 = .ok (.iconst 0, 1) := by decide +kernel
theorem dX2_forget_34 : decode cX2_forget 34 = .ok (.istore_n 1, 1) := by decide +kernel
theorem dX2_forget_35 : decode cX2_forget 35 = .ok (.iload_n 1, 1) := by decide +kernel
theorem dX2_forget_36 : decode cX2_forget 36 = .ok (.bipush 8, 2) := by decide +kernel
theorem dX2_forget_38 : decode cX2_forget 38 = .ok (.if_icmp .ge 16, 3) := by decide +kernel
theorem dX2_forget_41 : decode cX2_forget 41 = .ok (.aload_n 0, 1) := by decide +kernel
theorem dX2_forget_42 : decode cX2_forget 42 = .ok (.getfield 32, 3) := by decide +kernel
theorem dX2_forget_45 : decode cX2_forget 45 = .ok (.iload_n 1, 1) := by decide +kernel
theorem dX2_forget_46 : decode cX2_forget 46 = .ok (.iconst 0, 1) := by decide +kernel
theorem dX2_forget_47 : decode cX2_forget 47 = .ok (.iastore, 1) := by decide +kernel
theorem dX2_forget_48 : decode cX2_forget 48 = .ok (.iinc 1 1, 3) := by decide +kernel
theorem dX2_forget_51 : decode cX2_forget 51 = .ok (.goto (-16), 3) := by decide +kernel
theorem dX2_forget_54 : decode cX2_forget 54 = .ok (.aload_n 0, 1) := by decide +kernel
theorem dX2_forget_55 : decode cX2_forget 55 = .ok (.iconst 0, 1) := by decide +kernel
theorem dX2_forget_56 : decode cX2_forget 56 = .ok (.putfield 35, 3) := by decide +kernel
theorem dX2_forget_59 : decode cX2_forget 59 = .ok (.aload_n 0, 1) := by decide +kernel
theorem dX2_forget_60 : decode cX2_forget 60 = .ok (.iconst 0, 1) := by decide +kernel
theorem dX2_forget_61 : decode cX2_forget 61 = .ok (.putfield 38, 3) := by decide +kernel
theorem dX2_forget_64 : decode cX2_forget 64 = .ok (.aload_n 0, 1) := by decide +kernel
theorem dX2_forget_65 : decode cX2_forget 65 = .ok (.iconst (-1), 1) := by decide +kernel
theorem dX2_forget_66 : decode cX2_forget 66 = .ok (.putfield 41, 3) := by decide +kernel
theorem dX2_forget_69 : decode cX2_forget 69 = .ok (.return_, 1) := by decide +kernel
theorem dX2_make_0 : decode cX2_make 0 = .ok (.aload_n 0, 1) := by decide +kernel
theorem dX2_make_1 : decode cX2_make 1 = .ok (.getfield 53, 3) := by decide +kernel
theorem dX2_make_4 : decode cX2_make 4 = .ok (.getfield 106, 3) := by decide +kernel
theorem dX2_make_7 : decode cX2_make 7 = .ok (.aload_n 0, 1) := by decide +kernel
theorem dX2_make_8 : decode cX2_make 8 = .ok (.getfield 53, 3) := by decide +kernel
theorem dX2_make_11 : decode cX2_make 11 = .ok (.iload_n 1, 1) := by decide +kernel
theorem dX2_make_12 : decode cX2_make 12 = .ok (.iconst 0, 1) := by decide +kernel
theorem dX2_make_13 : decode cX2_make 13 = .ok (.invokevirtual 73, 3) := by decide +kernel
theorem dX2_make_16 : decode cX2_make 16 = .ok (.iaload, 1) := by decide +kernel
theorem dX2_make_17 : decode cX2_make 17 = .ok (.iconst 1, 1) := by decide +kernel
theorem dX2_make_18 : decode cX2_make 18 = .ok (.isub, 1) := by decide +kernel
theorem dX2_make_19 : decode cX2_make 19 = .ok (.istore_n 2, 1) := by decide +kernel
theorem dX2_make_20 : decode cX2_make 20 = .ok (.iconst 0, 1) := by decide +kernel
theorem dX2_make_21 : decode cX2_make 21 = .ok (.istore_n 3, 1) := by decide +kernel
theorem dX2_make_22 : decode cX2_make 22 = .ok (.iconst 0, 1) := by decide +kernel
theorem dX2_make_23 : decode cX2_make 23 = .ok (.istore 4, 2) := by decide +kernel
theorem dX2_make_25 : decode cX2_make 25 = .ok (.iload 4, 2) := by decide +kernel
theorem dX2_make_27 : decode cX2_make 27 = .ok (.sipush 200, 3) := by decide +kernel
theorem dX2_make_30 : decode cX2_make 30 = .ok (.if_icmp .gt 125, 3) := by decide +kernel
theorem dX2_make_33 : decode cX2_make 33 = .ok (.iload_n 1, 1) := by decide +kernel
theorem dX2_make_34 : decode cX2_make 34 = .ok (.bipush 12, 2) := by decide +kernel
theorem dX2_make_36 : decode cX2_make 36 = .ok (.imul, 1) := by decide +kernel
theorem dX2_make_37 : decode cX2_make 37 = .ok (.iload_n 3, 1) := by decide +kernel
theorem dX2_make_38 : decode cX2_make 38 = .ok (.iadd, 1) := by decide +kernel
theorem dX2_make_39 : decode cX2_make 39 = .ok (.istore 5, 2) := by decide +kernel
theorem dX2_make_41 : decode cX2_make 41 = .ok (.iload 4, 2) := by decide +kernel
theorem dX2_make_43 : decode cX2_make 43 = .ok (.iload_n 3, 1) := by decide +kernel
theorem dX2_make_44 : decode cX2_make 44 = .ok (.isub, 1) := by decide +kernel
theorem dX2_make_45 : decode cX2_make 45 = .ok (.istore 6, 2) := by decide +kernel
theorem dX2_make_47 : decode cX2_make 47 = .ok (.iload_n 3, 1) := by decide +kernel
theorem dX2_make_48 : decode cX2_make 48 = .ok (.iconst 1, 1) := by decide +kernel
theorem dX2_make_49 : decode cX2_make 49 = .ok (.iadd, 1) := by decide +kernel
theorem dX2_make_50 : decode cX2_make 50 = .ok (.aload_n 0, 1) := by decide +kernel
theorem dX2_make_51 : decode cX2_make 51 = .ok (.getfield 53, 3) := by decide +kernel
theorem dX2_make_54 : decode cX2_make 54 = .ok (.getfield 77, 3) := by decide +kernel
theorem dX2_make_57 : decode cX2_make 57 = .ok (.if_icmp .ne 7, 3) := by decide +kernel
theorem dX2_make_60 : decode cX2_make 60 = .ok (.iconst 0, 1) := by decide +kernel
theorem dX2_make_61 : decode cX2_make 61 = .ok (.goto 6, 3) := by decide +kernel
theorem dX2_make_64 : decode cX2_make 64 = .ok (.iload_n 3, 1) := by decide +kernel
theorem dX2_make_65 : decode cX2_make 65 = .ok (.iconst 1, 1) := by decide +kernel
theorem dX2_make_66 : decode cX2_make 66 = .ok (.iadd, 1) := by decide +kernel
theorem dX2_make_67 : decode cX2_make 67 = .ok (.istore_n 3, 1) := by decide +kernel
theorem dX2_make_68 : decode cX2_make 68 = .ok (.aload_n 0, 1) := by decide +kernel
theorem dX2_make_69 : decode cX2_make 69 = .ok (.getfield 9, 3) := by decide +kernel
theorem dX2_make_72 : decode cX2_make 72 = .ok (.iload 5, 2) := by decide +kernel
theorem dX2_make_74 : decode cX2_make 74 = .ok (.baload, 1) := by decide +kernel
theorem dX2_make_75 : decode cX2_make 75 = .ok (.ifCond .ne 6, 3) := by decide +kernel
theorem dX2_make_78 : decode cX2_make 78 = .ok (.goto 71, 3) := by decide +kernel
theorem dX2_make_81 : decode cX2_make 81 = .ok (.aload_n 0, 1) := by decide +kernel
theorem dX2_make_82 : decode cX2_make 82 = .ok (.getfield 15, 3) := by decide +kernel
theorem dX2_make_85 : decode cX2_make 85 = .ok (.iload 5, 2) := by decide +kernel
theorem dX2_make_87 : decode cX2_make 87 = .ok (.bipush 8, 2) := by decide +kernel
theorem dX2_make_89 : decode cX2_make 89 = .ok (.imul, 1) := by decide +kernel
theorem dX2_make_90 : decode cX2_make 90 = .ok (.iload_n 2, 1) := by decide +kernel
theorem dX2_make_91 : decode cX2_make 91 = .ok (.iadd, 1) := by decide +kernel
theorem dX2_make_92 : decode cX2_make 92 = .ok (.iaload, 1) := by decide +kernel
theorem dX2_make_93 : decode cX2_make 93 = .ok (.iload 6, 2) := by decide +kernel
theorem dX2_make_95 : decode cX2_make 95 = .ok (.iadd, 1) := by decide +kernel
theorem dX2_make_96 : decode cX2_make 96 = .ok (.istore 7, 2) := by decide +kernel
theorem dX2_make_98 : decode cX2_make 98 = .ok (.iload 7, 2) := by decide +kernel
theorem dX2_make_100 : decode cX2_make 100 = .ok (.sipush 399, 3) := by decide +kernel
theorem dX2_make_103 : decode cX2_make 103 = .ok (.if_icmp .gt 46, 3) := by decide +kernel
theorem dX2_make_106 : decode cX2_make 106 = .ok (.aload_n 0, 1) := by decide +kernel
theorem dX2_make_107 : decode cX2_make 107 = .ok (.iload_n 1, 1) := by decide +kernel
theorem dX2_make_108 : decode cX2_make 108 = .ok (.iload 5, 2) := by decide +kernel
theorem dX2_make_110 : decode cX2_make 110 = .ok (.iload 6, 2) := by decide +kernel
theorem dX2_make_112 : decode cX2_make 112 = .ok (.invokevirtual 94, 3) := by decide +kernel
theorem dX2_make_115 : decode cX2_make 115 = .ok (.ifCond .ne 6, 3) := by decide +kernel
theorem dX2_make_118 : decode cX2_make 118 = .ok (.goto 31, 3) := by decide +kernel
theorem dX2_make_121 : decode cX2_make 121 = .ok (.iload 7, 2) := by decide +kernel
theorem dX2_make_123 : decode cX2_make 123 = .ok (.aload_n 0, 1) := by decide +kernel
theorem dX2_make_124 : decode cX2_make 124 = .ok (.getfield 53, 3) := by decide +kernel
theorem dX2_make_127 : decode cX2_make 127 = .ok (.iload_n 1, 1) := by decide +kernel
theorem dX2_make_128 : decode cX2_make 128 = .ok (.iconst 1, 1) := by decide +kernel
theorem dX2_make_129 : decode cX2_make 129 = .ok (.invokevirtual 73, 3) := by decide +kernel
theorem dX2_make_132 : decode cX2_make 132 = .ok (.if_icmp .le 5, 3) := by decide +kernel
theorem dX2_make_135 : decode cX2_make 135 = .ok (.iconst (-1), 1) := by decide +kernel
theorem dX2_make_136 : decode cX2_make 136 = .ok (.ireturn, 1) := by decide +kernel
theorem dX2_make_137 : decode cX2_make 137 = .ok (.aload_n 0, 1) := by decide +kernel
theorem dX2_make_138 : decode cX2_make 138 = .ok (.iload_n 1, 1) := by decide +kernel
theorem dX2_make_139 : decode cX2_make 139 = .ok (.iload 5, 2) := by decide +kernel
theorem dX2_make_141 : decode cX2_make 141 = .ok (.iload 6, 2) := by decide +kernel
theorem dX2_make_143 : decode cX2_make 143 = .ok (.invokevirtual 109, 3) := by decide +kernel
theorem dX2_make_146 : decode cX2_make 146 = .ok (.iload 7, 2) := by decide +kernel
theorem dX2_make_148 : decode cX2_make 148 = .ok (.ireturn, 1) := by decide +kernel
theorem dX2_make_149 : decode cX2_make 149 = .ok (.iinc 4 1, 3) := by decide +kernel
theorem dX2_make_152 : decode cX2_make 152 = .ok (.goto (-127), 3) := by decide +kernel
theorem dX2_make_155 : decode cX2_make 155 = .ok (.iconst (-1), 1) := by decide +kernel
theorem dX2_make_156 : decode cX2_make 156 = .ok (.ireturn, 1) := by decide +kernel
theorem dX2_hasHours_0 : decode cX2_hasHours 0 = .ok (.aload_n 0, 1) := by decide +kernel
theorem dX2_hasHours_1 : decode cX2_hasHours 1 = .ok (.getfield 53, 3) := by decide +kernel
theorem dX2_hasHours_4 : decode cX2_hasHours 4 = .ok (.iload_n 1, 1) := by decide +kernel
theorem dX2_hasHours_5 : decode cX2_hasHours 5 = .ok (.iconst 0, 1) := by decide +kernel
theorem dX2_hasHours_6 : decode cX2_hasHours 6 = .ok (.invokevirtual 73, 3) := by decide +kernel
theorem dX2_hasHours_9 : decode cX2_hasHours 9 = .ok (.istore 4, 2) := by decide +kernel
theorem dX2_hasHours_11 : decode cX2_hasHours 11 = .ok (.iconst 0, 1) := by decide +kernel
theorem dX2_hasHours_12 : decode cX2_hasHours 12 = .ok (.istore 5, 2) := by decide +kernel
theorem dX2_hasHours_14 : decode cX2_hasHours 14 = .ok (.iload 5, 2) := by decide +kernel
theorem dX2_hasHours_16 : decode cX2_hasHours 16 = .ok (.aload_n 0, 1) := by decide +kernel
theorem dX2_hasHours_17 : decode cX2_hasHours 17 = .ok (.getfield 53, 3) := by decide +kernel
theorem dX2_hasHours_20 : decode cX2_hasHours 20 = .ok (.getfield 106, 3) := by decide +kernel
theorem dX2_hasHours_23 : decode cX2_hasHours 23 = .ok (.iload 4, 2) := by decide +kernel
theorem dX2_hasHours_25 : decode cX2_hasHours 25 = .ok (.iaload, 1) := by decide +kernel
theorem dX2_hasHours_26 : decode cX2_hasHours 26 = .ok (.if_icmp .ge 87, 3) := by decide +kernel
theorem dX2_hasHours_29 : decode cX2_hasHours 29 = .ok (.aload_n 0, 1) := by decide +kernel
theorem dX2_hasHours_30 : decode cX2_hasHours 30 = .ok (.iload 4, 2) := by decide +kernel
theorem dX2_hasHours_32 : decode cX2_hasHours 32 = .ok (.iload 5, 2) := by decide +kernel
theorem dX2_hasHours_34 : decode cX2_hasHours 34 = .ok (.iload_n 2, 1) := by decide +kernel
theorem dX2_hasHours_35 : decode cX2_hasHours 35 = .ok (.iload_n 3, 1) := by decide +kernel
theorem dX2_hasHours_36 : decode cX2_hasHours 36 = .ok (.invokevirtual 113, 3) := by decide +kernel
theorem dX2_hasHours_39 : decode cX2_hasHours 39 = .ok (.istore 6, 2) := by decide +kernel
theorem dX2_hasHours_41 : decode cX2_hasHours 41 = .ok (.aload_n 0, 1) := by decide +kernel
theorem dX2_hasHours_42 : decode cX2_hasHours 42 = .ok (.getfield 19, 3) := by decide +kernel
theorem dX2_hasHours_45 : decode cX2_hasHours 45 = .ok (.iload 6, 2) := by decide +kernel
theorem dX2_hasHours_47 : decode cX2_hasHours 47 = .ok (.iaload, 1) := by decide +kernel
theorem dX2_hasHours_48 : decode cX2_hasHours 48 = .ok (.istore 7, 2) := by decide +kernel
theorem dX2_hasHours_50 : decode cX2_hasHours 50 = .ok (.iconst 0, 1) := by decide +kernel
theorem dX2_hasHours_51 : decode cX2_hasHours 51 = .ok (.istore 8, 2) := by decide +kernel
theorem dX2_hasHours_53 : decode cX2_hasHours 53 = .ok (.iload 8, 2) := by decide +kernel
theorem dX2_hasHours_55 : decode cX2_hasHours 55 = .ok (.iload 5, 2) := by decide +kernel
theorem dX2_hasHours_57 : decode cX2_hasHours 57 = .ok (.if_icmp .gt 41, 3) := by decide +kernel
theorem dX2_hasHours_60 : decode cX2_hasHours 60 = .ok (.aload_n 0, 1) := by decide +kernel
theorem dX2_hasHours_61 : decode cX2_hasHours 61 = .ok (.iload 4, 2) := by decide +kernel
theorem dX2_hasHours_63 : decode cX2_hasHours 63 = .ok (.iload 8, 2) := by decide +kernel
theorem dX2_hasHours_65 : decode cX2_hasHours 65 = .ok (.iload_n 2, 1) := by decide +kernel
theorem dX2_hasHours_66 : decode cX2_hasHours 66 = .ok (.iload_n 3, 1) := by decide +kernel
theorem dX2_hasHours_67 : decode cX2_hasHours 67 = .ok (.invokevirtual 113, 3) := by decide +kernel
theorem dX2_hasHours_70 : decode cX2_hasHours 70 = .ok (.iload 6, 2) := by decide +kernel
theorem dX2_hasHours_72 : decode cX2_hasHours 72 = .ok (.if_icmp .ne 20, 3) := by decide +kernel
theorem dX2_hasHours_75 : decode cX2_hasHours 75 = .ok (.iload 7, 2) := by decide +kernel
theorem dX2_hasHours_77 : decode cX2_hasHours 77 = .ok (.aload_n 0, 1) := by decide +kernel
theorem dX2_hasHours_78 : decode cX2_hasHours 78 = .ok (.getfield 53, 3) := by decide +kernel
theorem dX2_hasHours_81 : decode cX2_hasHours 81 = .ok (.iload 4, 2) := by decide +kernel
theorem dX2_hasHours_83 : decode cX2_hasHours 83 = .ok (.iload 8, 2) := by decide +kernel
theorem dX2_hasHours_85 : decode cX2_hasHours 85 = .ok (.iconst 1, 1) := by decide +kernel
theorem dX2_hasHours_86 : decode cX2_hasHours 86 = .ok (.invokevirtual 117, 3) := by decide +kernel
theorem dX2_hasHours_89 : decode cX2_hasHours 89 = .ok (.iadd, 1) := by decide +kernel
theorem dX2_hasHours_90 : decode cX2_hasHours 90 = .ok (.istore 7, 2) := by decide +kernel
theorem dX2_hasHours_92 : decode cX2_hasHours 92 = .ok (.iinc 8 1, 3) := by decide +kernel
theorem dX2_hasHours_95 : decode cX2_hasHours 95 = .ok (.goto (-42), 3) := by decide +kernel
theorem dX2_hasHours_98 : decode cX2_hasHours 98 = .ok (.iload 7, 2) := by decide +kernel
theorem dX2_hasHours_100 : decode cX2_hasHours 100 = .ok (.bipush 8, 2) := by decide +kernel
theorem dX2_hasHours_102 : decode cX2_hasHours 102 = .ok (.if_icmp .le 5, 3) := by decide +kernel
theorem dX2_hasHours_105 : decode cX2_hasHours 105 = .ok (.iconst 0, 1) := by decide +kernel
theorem dX2_hasHours_106 : decode cX2_hasHours 106 = .ok (.ireturn, 1) := by decide +kernel
theorem dX2_hasHours_107 : decode cX2_hasHours 107 = .ok (.iinc 5 1, 3) := by decide +kernel
theorem dX2_hasHours_110 : decode cX2_hasHours 110 = .ok (.goto (-96), 3) := by decide +kernel
theorem dX2_hasHours_113 : decode cX2_hasHours 113 = .ok (.iconst 1, 1) := by decide +kernel
theorem dX2_hasHours_114 : decode cX2_hasHours 114 = .ok (.ireturn, 1) := by decide +kernel
theorem dX2_takeHours_0 : decode cX2_takeHours 0 = .ok (.aload_n 0, 1) := by decide +kernel
theorem dX2_takeHours_1 : decode cX2_takeHours 1 = .ok (.getfield 53, 3) := by decide +kernel
theorem dX2_takeHours_4 : decode cX2_takeHours 4 = .ok (.iload_n 1, 1) := by decide +kernel
theorem dX2_takeHours_5 : decode cX2_takeHours 5 = .ok (.iconst 0, 1) := by decide +kernel
theorem dX2_takeHours_6 : decode cX2_takeHours 6 = .ok (.invokevirtual 73, 3) := by decide +kernel
theorem dX2_takeHours_9 : decode cX2_takeHours 9 = .ok (.istore 4, 2) := by decide +kernel
theorem dX2_takeHours_11 : decode cX2_takeHours 11 = .ok (.iconst 0, 1) := by decide +kernel
theorem dX2_takeHours_12 : decode cX2_takeHours 12 = .ok (.istore 5, 2) := by decide +kernel
theorem dX2_takeHours_14 : decode cX2_takeHours 14 = .ok (.iload 5, 2) := by decide +kernel
theorem dX2_takeHours_16 : decode cX2_takeHours 16 = .ok (.aload_n 0, 1) := by decide +kernel
theorem dX2_takeHours_17 : decode cX2_takeHours 17 = .ok (.getfield 53, 3) := by decide +kernel
theorem dX2_takeHours_20 : decode cX2_takeHours 20 = .ok (.getfield 106, 3) := by decide +kernel
theorem dX2_takeHours_23 : decode cX2_takeHours 23 = .ok (.iload 4, 2) := by decide +kernel
theorem dX2_takeHours_25 : decode cX2_takeHours 25 = .ok (.iaload, 1) := by decide +kernel
theorem dX2_takeHours_26 : decode cX2_takeHours 26 = .ok (.if_icmp .ge 90, 3) := by decide +kernel
theorem dX2_takeHours_29 : decode cX2_takeHours 29 = .ok (.aload_n 0, 1) := by decide +kernel
theorem dX2_takeHours_30 : decode cX2_takeHours 30 = .ok (.iload 4, 2) := by decide +kernel
theorem dX2_takeHours_32 : decode cX2_takeHours 32 = .ok (.iload 5, 2) := by decide +kernel
theorem dX2_takeHours_34 : decode cX2_takeHours 34 = .ok (.iload_n 2, 1) := by decide +kernel
theorem dX2_takeHours_35 : decode cX2_takeHours 35 = .ok (.iload_n 3, 1) := by decide +kernel
theorem dX2_takeHours_36 : decode cX2_takeHours 36 = .ok (.invokevirtual 113, 3) := by decide +kernel
theorem dX2_takeHours_39 : decode cX2_takeHours 39 = .ok (.istore 6, 2) := by decide +kernel
theorem dX2_takeHours_41 : decode cX2_takeHours 41 = .ok (.aload_n 0, 1) := by decide +kernel
theorem dX2_takeHours_42 : decode cX2_takeHours 42 = .ok (.getfield 53, 3) := by decide +kernel
theorem dX2_takeHours_45 : decode cX2_takeHours 45 = .ok (.iload 4, 2) := by decide +kernel
theorem dX2_takeHours_47 : decode cX2_takeHours 47 = .ok (.iload 5, 2) := by decide +kernel
theorem dX2_takeHours_49 : decode cX2_takeHours 49 = .ok (.iconst 1, 1) := by decide +kernel
theorem dX2_takeHours_50 : decode cX2_takeHours 50 = .ok (.invokevirtual 117, 3) := by decide +kernel
theorem dX2_takeHours_53 : decode cX2_takeHours 53 = .ok (.istore 7, 2) := by decide +kernel
theorem dX2_takeHours_55 : decode cX2_takeHours 55 = .ok (.aload_n 0, 1) := by decide +kernel
theorem dX2_takeHours_56 : decode cX2_takeHours 56 = .ok (.getfield 19, 3) := by decide +kernel
theorem dX2_takeHours_59 : decode cX2_takeHours 59 = .ok (.iload 6, 2) := by decide +kernel
theorem dX2_takeHours_61 : decode cX2_takeHours 61 = .ok (.dup2, 1) := by decide +kernel
theorem dX2_takeHours_62 : decode cX2_takeHours 62 = .ok (.iaload, 1) := by decide +kernel
theorem dX2_takeHours_63 : decode cX2_takeHours 63 = .ok (.iload 7, 2) := by decide +kernel
theorem dX2_takeHours_65 : decode cX2_takeHours 65 = .ok (.iadd, 1) := by decide +kernel
theorem dX2_takeHours_66 : decode cX2_takeHours 66 = .ok (.iastore, 1) := by decide +kernel
theorem dX2_takeHours_67 : decode cX2_takeHours 67 = .ok (.aload_n 0, 1) := by decide +kernel
theorem dX2_takeHours_68 : decode cX2_takeHours 68 = .ok (.getfield 32, 3) := by decide +kernel
theorem dX2_takeHours_71 : decode cX2_takeHours 71 = .ok (.aload_n 0, 1) := by decide +kernel
theorem dX2_takeHours_72 : decode cX2_takeHours 72 = .ok (.getfield 53, 3) := by decide +kernel
theorem dX2_takeHours_75 : decode cX2_takeHours 75 = .ok (.iload 4, 2) := by decide +kernel
theorem dX2_takeHours_77 : decode cX2_takeHours 77 = .ok (.iload 5, 2) := by decide +kernel
theorem dX2_takeHours_79 : decode cX2_takeHours 79 = .ok (.iconst 0, 1) := by decide +kernel
theorem dX2_takeHours_80 : decode cX2_takeHours 80 = .ok (.invokevirtual 117, 3) := by decide +kernel
theorem dX2_takeHours_83 : decode cX2_takeHours 83 = .ok (.dup2, 1) := by decide +kernel
theorem dX2_takeHours_84 : decode cX2_takeHours 84 = .ok (.iaload, 1) := by decide +kernel
theorem dX2_takeHours_85 : decode cX2_takeHours 85 = .ok (.iload 7, 2) := by decide +kernel
theorem dX2_takeHours_87 : decode cX2_takeHours 87 = .ok (.iadd, 1) := by decide +kernel
theorem dX2_takeHours_88 : decode cX2_takeHours 88 = .ok (.iastore, 1) := by decide +kernel
theorem dX2_takeHours_89 : decode cX2_takeHours 89 = .ok (.aload_n 0, 1) := by decide +kernel
theorem dX2_takeHours_90 : decode cX2_takeHours 90 = .ok (.getfield 22, 3) := by decide +kernel
theorem dX2_takeHours_93 : decode cX2_takeHours 93 = .ok (.aload_n 0, 1) := by decide +kernel
theorem dX2_takeHours_94 : decode cX2_takeHours 94 = .ok (.getfield 25, 3) := by decide +kernel
theorem dX2_takeHours_97 : decode cX2_takeHours 97 = .ok (.iload 6, 2) := by decide +kernel
theorem dX2_takeHours_99 : decode cX2_takeHours 99 = .ok (.iastore, 1) := by decide +kernel
theorem dX2_takeHours_100 : decode cX2_takeHours 100 = .ok (.aload_n 0, 1) := by decide +kernel
theorem dX2_takeHours_101 : decode cX2_takeHours 101 = .ok (.dup, 1) := by decide +kernel
theorem dX2_takeHours_102 : decode cX2_takeHours 102 = .ok (.getfield 25, 3) := by decide +kernel
theorem dX2_takeHours_105 : decode cX2_takeHours 105 = .ok (.iconst 1, 1) := by decide +kernel
theorem dX2_takeHours_106 : decode cX2_takeHours 106 = .ok (.iadd, 1) := by decide +kernel
theorem dX2_takeHours_107 : decode cX2_takeHours 107 = .ok (.putfield 25, 3) := by decide +kernel
theorem dX2_takeHours_110 : decode cX2_takeHours 110 = .ok (.iinc 5 1, 3) := by decide +kernel
theorem dX2_takeHours_113 : decode cX2_takeHours 113 = .ok (.goto (-99), 3) := by decide +kernel
theorem dX2_takeHours_116 : decode cX2_takeHours 116 = .ok (.return_, 1) := by decide +kernel
theorem dX2_placeOf_0 : decode cX2_placeOf 0 = .ok (.aload_n 0, 1) := by decide +kernel
theorem dX2_placeOf_1 : decode cX2_placeOf 1 = .ok (.getfield 53, 3) := by decide +kernel
theorem dX2_placeOf_4 : decode cX2_placeOf 4 = .ok (.iload_n 1, 1) := by decide +kernel
theorem dX2_placeOf_5 : decode cX2_placeOf 5 = .ok (.iload_n 2, 1) := by decide +kernel
theorem dX2_placeOf_6 : decode cX2_placeOf 6 = .ok (.iconst 0, 1) := by decide +kernel
theorem dX2_placeOf_7 : decode cX2_placeOf 7 = .ok (.invokevirtual 117, 3) := by decide +kernel
theorem dX2_placeOf_10 : decode cX2_placeOf 10 = .ok (.sipush 400, 3) := by decide +kernel
theorem dX2_placeOf_13 : decode cX2_placeOf 13 = .ok (.imul, 1) := by decide +kernel
theorem dX2_placeOf_14 : decode cX2_placeOf 14 = .ok (.aload_n 0, 1) := by decide +kernel
theorem dX2_placeOf_15 : decode cX2_placeOf 15 = .ok (.getfield 15, 3) := by decide +kernel
theorem dX2_placeOf_18 : decode cX2_placeOf 18 = .ok (.iload_n 3, 1) := by decide +kernel
theorem dX2_placeOf_19 : decode cX2_placeOf 19 = .ok (.bipush 8, 2) := by decide +kernel
theorem dX2_placeOf_21 : decode cX2_placeOf 21 = .ok (.imul, 1) := by decide +kernel
theorem dX2_placeOf_22 : decode cX2_placeOf 22 = .ok (.iload_n 2, 1) := by decide +kernel
theorem dX2_placeOf_23 : decode cX2_placeOf 23 = .ok (.iadd, 1) := by decide +kernel
theorem dX2_placeOf_24 : decode cX2_placeOf 24 = .ok (.iaload, 1) := by decide +kernel
theorem dX2_placeOf_25 : decode cX2_placeOf 25 = .ok (.iadd, 1) := by decide +kernel
theorem dX2_placeOf_26 : decode cX2_placeOf 26 = .ok (.iload 4, 2) := by decide +kernel
theorem dX2_placeOf_28 : decode cX2_placeOf 28 = .ok (.iadd, 1) := by decide +kernel
theorem dX2_placeOf_29 : decode cX2_placeOf 29 = .ok (.ireturn, 1) := by decide +kernel
theorem dX2_findBest_0 : decode cX2_findBest 0 = .ok (.iconst 0, 1) := by decide +kernel
theorem dX2_findBest_1 : decode cX2_findBest 1 = .ok (.istore_n 1, 1) := by decide +kernel
theorem dX2_findBest_2 : decode cX2_findBest 2 = .ok (.iload_n 1, 1) := by decide +kernel
theorem dX2_findBest_3 : decode cX2_findBest 3 = .ok (.aload_n 0, 1) := by decide +kernel
theorem dX2_findBest_4 : decode cX2_findBest 4 = .ok (.getfield 53, 3) := by decide +kernel
theorem dX2_findBest_7 : decode cX2_findBest 7 = .ok (.getfield 65, 3) := by decide +kernel
theorem dX2_findBest_10 : decode cX2_findBest 10 = .ok (.if_icmp .ge 16, 3) := by decide +kernel
theorem dX2_findBest_13 : decode cX2_findBest 13 = .ok (.aload_n 0, 1) := by decide +kernel
theorem dX2_findBest_14 : decode cX2_findBest 14 = .ok (.getfield 29, 3) := by decide +kernel
theorem dX2_findBest_17 : decode cX2_findBest 17 = .ok (.iload_n 1, 1) := by decide +kernel
theorem dX2_findBest_18 : decode cX2_findBest 18 = .ok (.iload_n 1, 1) := by decide +kernel
theorem dX2_findBest_19 : decode cX2_findBest 19 = .ok (.iastore, 1) := by decide +kernel
theorem dX2_findBest_20 : decode cX2_findBest 20 = .ok (.iinc 1 1, 3) := by decide +kernel
theorem dX2_findBest_23 : decode cX2_findBest 23 = .ok (.goto (-21), 3) := by decide +kernel
theorem dX2_findBest_26 : decode cX2_findBest 26 = .ok (.aload_n 0, 1) := by decide +kernel
theorem dX2_findBest_27 : decode cX2_findBest 27 = .ok (.iconst (-1), 1) := by decide +kernel
theorem dX2_findBest_28 : decode cX2_findBest 28 = .ok (.putfield 44, 3) := by decide +kernel
theorem dX2_findBest_31 : decode cX2_findBest 31 = .ok (.aload_n 0, 1) := by decide +kernel
theorem dX2_findBest_32 : decode cX2_findBest 32 = .ok (.invokevirtual 121, 3) := by decide +kernel
theorem dX2_findBest_35 : decode cX2_findBest 35 = .ok (.istore_n 1, 1) := by decide +kernel
theorem dX2_findBest_36 : decode cX2_findBest 36 = .ok (.iconst 0, 1) := by decide +kernel
theorem dX2_findBest_37 : decode cX2_findBest 37 = .ok (.istore_n 2, 1) := by decide +kernel
theorem dX2_findBest_38 : decode cX2_findBest 38 = .ok (.iload_n 2, 1) := by decide +kernel
theorem dX2_findBest_39 : decode cX2_findBest 39 = .ok (.bipush 120, 2) := by decide +kernel
theorem dX2_findBest_41 : decode cX2_findBest 41 = .ok (.if_icmp .ge 73, 3) := by decide +kernel
theorem dX2_findBest_44 : decode cX2_findBest 44 = .ok (.aload_n 0, 1) := by decide +kernel
theorem dX2_findBest_45 : decode cX2_findBest 45 = .ok (.aload_n 0, 1) := by decide +kernel
theorem dX2_findBest_46 : decode cX2_findBest 46 = .ok (.getfield 53, 3) := by decide +kernel
theorem dX2_findBest_49 : decode cX2_findBest 49 = .ok (.getfield 65, 3) := by decide +kernel
theorem dX2_findBest_52 : decode cX2_findBest 52 = .ok (.invokevirtual 125, 3) := by decide +kernel
theorem dX2_findBest_55 : decode cX2_findBest 55 = .ok (.aload_n 0, 1) := by decide +kernel
theorem dX2_findBest_56 : decode cX2_findBest 56 = .ok (.getfield 35, 3) := by decide +kernel
theorem dX2_findBest_59 : decode cX2_findBest 59 = .ok (.aload_n 0, 1) := by decide +kernel
theorem dX2_findBest_60 : decode cX2_findBest 60 = .ok (.getfield 44, 3) := by decide +kernel
theorem dX2_findBest_63 : decode cX2_findBest 63 = .ok (.if_icmp .le 27, 3) := by decide +kernel
theorem dX2_findBest_66 : decode cX2_findBest 66 = .ok (.aload_n 0, 1) := by decide +kernel
theorem dX2_findBest_67 : decode cX2_findBest 67 = .ok (.aload_n 0, 1) := by decide +kernel
theorem dX2_findBest_68 : decode cX2_findBest 68 = .ok (.getfield 35, 3) := by decide +kernel
theorem dX2_findBest_71 : decode cX2_findBest 71 = .ok (.putfield 44, 3) := by decide +kernel
theorem dX2_findBest_74 : decode cX2_findBest 74 = .ok (.aload_n 0, 1) := by decide +kernel
theorem dX2_findBest_75 : decode cX2_findBest 75 = .ok (.aload_n 0, 1) := by decide +kernel
theorem dX2_findBest_76 : decode cX2_findBest 76 = .ok (.getfield 38, 3) := by decide +kernel
theorem dX2_findBest_79 : decode cX2_findBest 79 = .ok (.putfield 47, 3) := by decide +kernel
theorem dX2_findBest_82 : decode cX2_findBest 82 = .ok (.aload_n 0, 1) := by decide +kernel
theorem dX2_findBest_83 : decode cX2_findBest 83 = .ok (.aload_n 0, 1) := by decide +kernel
theorem dX2_findBest_84 : decode cX2_findBest 84 = .ok (.invokevirtual 129, 3) := by decide +kernel
theorem dX2_findBest_87 : decode cX2_findBest 87 = .ok (.putfield 50, 3) := by decide +kernel
theorem dX2_findBest_90 : decode cX2_findBest 90 = .ok (.aload_n 0, 1) := by decide +kernel
theorem dX2_findBest_91 : decode cX2_findBest 91 = .ok (.getfield 44, 3) := by decide +kernel
theorem dX2_findBest_94 : decode cX2_findBest 94 = .ok (.iload_n 1, 1) := by decide +kernel
theorem dX2_findBest_95 : decode cX2_findBest 95 = .ok (.if_icmp .eq 19, 3) := by decide +kernel
theorem dX2_findBest_98 : decode cX2_findBest 98 = .ok (.aload_n 0, 1) := by decide +kernel
theorem dX2_findBest_99 : decode cX2_findBest 99 = .ok (.invokevirtual 132, 3) := by decide +kernel
theorem dX2_findBest_102 : decode cX2_findBest 102 = .ok (.ifCond .ne 6, 3) := by decide +kernel
theorem dX2_findBest_105 : decode cX2_findBest 105 = .ok (.goto 9, 3) := by decide +kernel
theorem dX2_findBest_108 : decode cX2_findBest 108 = .ok (.iinc 2 1, 3) := by decide +kernel
theorem dX2_findBest_111 : decode cX2_findBest 111 = .ok (.goto (-73), 3) := by decide +kernel
theorem dX2_findBest_114 : decode cX2_findBest 114 = .ok (.return_, 1) := by decide +kernel
theorem dX2_allWorths_0 : decode cX2_allWorths 0 = .ok (.iconst 0, 1) := by decide +kernel
theorem dX2_allWorths_1 : decode cX2_allWorths 1 = .ok (.istore_n 1, 1) := by decide +kernel
theorem dX2_allWorths_2 : decode cX2_allWorths 2 = .ok (.iconst 0, 1) := by decide +kernel
theorem dX2_allWorths_3 : decode cX2_allWorths 3 = .ok (.istore_n 2, 1) := by decide +kernel
theorem dX2_allWorths_4 : decode cX2_allWorths 4 = .ok (.iload_n 2, 1) := by decide +kernel
theorem dX2_allWorths_5 : decode cX2_allWorths 5 = .ok (.aload_n 0, 1) := by decide +kernel
theorem dX2_allWorths_6 : decode cX2_allWorths 6 = .ok (.getfield 53, 3) := by decide +kernel
theorem dX2_allWorths_9 : decode cX2_allWorths 9 = .ok (.getfield 65, 3) := by decide +kernel
theorem dX2_allWorths_12 : decode cX2_allWorths 12 = .ok (.if_icmp .ge 21, 3) := by decide +kernel
theorem dX2_allWorths_15 : decode cX2_allWorths 15 = .ok (.iload_n 1, 1) := by decide +kernel
theorem dX2_allWorths_16 : decode cX2_allWorths 16 = .ok (.aload_n 0, 1) := by decide +kernel
theorem dX2_allWorths_17 : decode cX2_allWorths 17 = .ok (.getfield 53, 3) := by decide +kernel
theorem dX2_allWorths_20 : decode cX2_allWorths 20 = .ok (.iload_n 2, 1) := by decide +kernel
theorem dX2_allWorths_21 : decode cX2_allWorths 21 = .ok (.iconst 2, 1) := by decide +kernel
theorem dX2_allWorths_22 : decode cX2_allWorths 22 = .ok (.invokevirtual 73, 3) := by decide +kernel
theorem dX2_allWorths_25 : decode cX2_allWorths 25 = .ok (.iadd, 1) := by decide +kernel
theorem dX2_allWorths_26 : decode cX2_allWorths 26 = .ok (.istore_n 1, 1) := by decide +kernel
theorem dX2_allWorths_27 : decode cX2_allWorths 27 = .ok (.iinc 2 1, 3) := by decide +kernel
theorem dX2_allWorths_30 : decode cX2_allWorths 30 = .ok (.goto (-26), 3) := by decide +kernel
theorem dX2_allWorths_33 : decode cX2_allWorths 33 = .ok (.iload_n 1, 1) := by decide +kernel
theorem dX2_allWorths_34 : decode cX2_allWorths 34 = .ok (.ireturn, 1) := by decide +kernel
theorem dX2_sequenceDigits_0 : decode cX2_sequenceDigits 0 = .ok (.iconst 0, 1) := by decide +kernel
theorem dX2_sequenceDigits_1 : decode cX2_sequenceDigits 1 = .ok (.istore_n 1, 1) := by decide +kernel
theorem dX2_sequenceDigits_2 : decode cX2_sequenceDigits 2 = .ok (.iconst 0, 1) := by decide +kernel
theorem dX2_sequenceDigits_3 : decode cX2_sequenceDigits 3 = .ok (.istore_n 2, 1) := by decide +kernel
theorem dX2_sequenceDigits_4 : decode cX2_sequenceDigits 4 = .ok (.iload_n 2, 1) := by decide +kernel
theorem dX2_sequenceDigits_5 : decode cX2_sequenceDigits 5 = .ok (.aload_n 0, 1) := by decide +kernel
theorem dX2_sequenceDigits_6 : decode cX2_sequenceDigits 6 = .ok (.getfield 53, 3) := by decide +kernel
theorem dX2_sequenceDigits_9 : decode cX2_sequenceDigits 9 = .ok (.getfield 65, 3) := by decide +kernel
theorem dX2_sequenceDigits_12 : decode cX2_sequenceDigits 12 = .ok (.if_icmp .ge 21, 3) := by decide +kernel
theorem dX2_sequenceDigits_15 : decode cX2_sequenceDigits 15 = .ok (.iload_n 1, 1) := by decide +kernel
theorem dX2_sequenceDigits_16 : decode cX2_sequenceDigits 16 = .ok (.bipush 10, 2) := by decide +kernel
theorem dX2_sequenceDigits_18 : decode cX2_sequenceDigits 18 = .ok (.imul, 1) := by decide +kernel
theorem dX2_sequenceDigits_19 : decode cX2_sequenceDigits 19 = .ok (.aload_n 0, 1) := by decide +kernel
theorem dX2_sequenceDigits_20 : decode cX2_sequenceDigits 20 = .ok (.getfield 29, 3) := by decide +kernel
theorem dX2_sequenceDigits_23 : decode cX2_sequenceDigits 23 = .ok (.iload_n 2, 1) := by decide +kernel
theorem dX2_sequenceDigits_24 : decode cX2_sequenceDigits 24 = .ok (.iaload, 1) := by decide +kernel
theorem dX2_sequenceDigits_25 : decode cX2_sequenceDigits 25 = .ok (.iadd, 1) := by decide +kernel
theorem dX2_sequenceDigits_26 : decode cX2_sequenceDigits 26 = .ok (.istore_n 1, 1) := by decide +kernel
theorem dX2_sequenceDigits_27 : decode cX2_sequenceDigits 27 = .ok (.iinc 2 1, 3) := by decide +kernel
theorem dX2_sequenceDigits_30 : decode cX2_sequenceDigits 30 = .ok (.goto (-26), 3) := by decide +kernel
theorem dX2_sequenceDigits_33 : decode cX2_sequenceDigits 33 = .ok (.iload_n 1, 1) := by decide +kernel
theorem dX2_sequenceDigits_34 : decode cX2_sequenceDigits 34 = .ok (.ireturn, 1) := by decide +kernel
theorem dX2_goToNextSequence_0 : decode cX2_goToNextSequence 0 = .ok (.aload_n 0, 1) := by decide +kernel
theorem dX2_goToNextSequence_1 : decode cX2_goToNextSequence 1 = .ok (.getfield 53, 3) := by decide +kernel
theorem dX2_goToNextSequence_4 : decode cX2_goToNextSequence 4 = .ok (.getfield 65, 3) := by decide +kernel
theorem dX2_goToNextSequence_7 : decode cX2_goToNextSequence 7 = .ok (.iconst 2, 1) := by decide +kernel
theorem dX2_goToNextSequence_8 : decode cX2_goToNextSequence 8 = .ok (.isub, 1) := by decide +kernel
theorem dX2_goToNextSequence_9 : decode cX2_goToNextSequence 9 = .ok (.istore_n 1, 1) := by decide +kernel
theorem dX2_goToNextSequence_10 : decode cX2_goToNextSequence 10 = .ok (.iload_n 1, 1) := by decide +kernel
theorem dX2_goToNextSequence_11 : decode cX2_goToNextSequence 11 = .ok (.ifCond .lt 26, 3) := by decide +kernel
theorem dX2_goToNextSequence_14 : decode cX2_goToNextSequence 14 = .ok (.aload_n 0, 1) := by decide +kernel
theorem dX2_goToNextSequence_15 : decode cX2_goToNextSequence 15 = .ok (.getfield 29, 3) := by decide +kernel
theorem dX2_goToNextSequence_18 : decode cX2_goToNextSequence 18 = .ok (.iload_n 1, 1) := by decide +kernel
theorem dX2_goToNextSequence_19 : decode cX2_goToNextSequence 19 = .ok (.iaload, 1) := by decide +kernel
theorem dX2_goToNextSequence_20 : decode cX2_goToNextSequence 20 = .ok (.aload_n 0, 1) := by decide +kernel
theorem dX2_goToNextSequence_21 : decode cX2_goToNextSequence 21 = .ok (.getfield 29, 3) := by decide +kernel
theorem dX2_goToNextSequence_24 : decode cX2_goToNextSequence 24 = .ok (.iload_n 1, 1) := by decide +kernel
theorem dX2_goToNextSequence_25 : decode cX2_goToNextSequence 25 = .ok (.iconst 1, 1) := by decide +kernel
theorem dX2_goToNextSequence_26 : decode cX2_goToNextSequence 26 = .ok (.iadd, 1) := by decide +kernel
theorem dX2_goToNextSequence_27 : decode cX2_goToNextSequence 27 = .ok (.iaload, 1) := by decide +kernel
theorem dX2_goToNextSequence_28 : decode cX2_goToNextSequence 28 = .ok (.if_icmp .le 9, 3) := by decide +kernel
theorem dX2_goToNextSequence_31 : decode cX2_goToNextSequence 31 = .ok (.iinc 1 (-1), 3) := by decide +kernel
theorem dX2_goToNextSequence_34 : decode cX2_goToNextSequence 34 = .ok (.goto (-24), 3) := by decide +kernel
theorem dX2_goToNextSequence_37 : decode cX2_goToNextSequence 37 = .ok (.iload_n 1, 1) := by decide +kernel
theorem dX2_goToNextSequence_38 : decode cX2_goToNextSequence 38 = .ok (.ifCond .ge 5, 3) := by decide +kernel
theorem dX2_goToNextSequence_41 : decode cX2_goToNextSequence 41 = .ok (.iconst 0, 1) := by decide +kernel
theorem dX2_goToNextSequence_42 : decode cX2_goToNextSequence 42 = .ok (.ireturn, 1) := by decide +kernel
theorem dX2_goToNextSequence_43 : decode cX2_goToNextSequence 43 = .ok (.aload_n 0, 1) := by decide +kernel
theorem dX2_goToNextSequence_44 : decode cX2_goToNextSequence 44 = .ok (.getfield 53, 3) := by decide +kernel
theorem dX2_goToNextSequence_47 : decode cX2_goToNextSequence 47 = .ok (.getfield 65, 3) := by decide +kernel
theorem dX2_goToNextSequence_50 : decode cX2_goToNextSequence 50 = .ok (.iconst 1, 1) := by decide +kernel
theorem dX2_goToNextSequence_51 : decode cX2_goToNextSequence 51 = .ok (.isub, 1) := by decide +kernel
theorem dX2_goToNextSequence_52 : decode cX2_goToNextSequence 52 = .ok (.istore_n 2, 1) := by decide +kernel
theorem dX2_goToNextSequence_53 : decode cX2_goToNextSequence 53 = .ok (.iload_n 2, 1) := by decide +kernel
theorem dX2_goToNextSequence_54 : decode cX2_goToNextSequence 54 = .ok (.iload_n 1, 1) := by decide +kernel
theorem dX2_goToNextSequence_55 : decode cX2_goToNextSequence 55 = .ok (.if_icmp .le 24, 3) := by decide +kernel
theorem dX2_goToNextSequence_58 : decode cX2_goToNextSequence 58 = .ok (.aload_n 0, 1) := by decide +kernel
theorem dX2_goToNextSequence_59 : decode cX2_goToNextSequence 59 = .ok (.getfield 29, 3) := by decide +kernel
theorem dX2_goToNextSequence_62 : decode cX2_goToNextSequence 62 = .ok (.iload_n 2, 1) := by decide +kernel
theorem dX2_goToNextSequence_63 : decode cX2_goToNextSequence 63 = .ok (.iaload, 1) := by decide +kernel
theorem dX2_goToNextSequence_64 : decode cX2_goToNextSequence 64 = .ok (.aload_n 0, 1) := by decide +kernel
theorem dX2_goToNextSequence_65 : decode cX2_goToNextSequence 65 = .ok (.getfield 29, 3) := by decide +kernel
theorem dX2_goToNextSequence_68 : decode cX2_goToNextSequence 68 = .ok (.iload_n 1, 1) := by decide +kernel
theorem dX2_goToNextSequence_69 : decode cX2_goToNextSequence 69 = .ok (.iaload, 1) := by decide +kernel
theorem dX2_goToNextSequence_70 : decode cX2_goToNextSequence 70 = .ok (.if_icmp .ge 9, 3) := by decide +kernel
theorem dX2_goToNextSequence_73 : decode cX2_goToNextSequence 73 = .ok (.iinc 2 (-1), 3) := by decide +kernel
theorem dX2_goToNextSequence_76 : decode cX2_goToNextSequence 76 = .ok (.goto (-23), 3) := by decide +kernel
theorem dX2_goToNextSequence_79 : decode cX2_goToNextSequence 79 = .ok (.aload_n 0, 1) := by decide +kernel
theorem dX2_goToNextSequence_80 : decode cX2_goToNextSequence 80 = .ok (.iload_n 1, 1) := by decide +kernel
theorem dX2_goToNextSequence_81 : decode cX2_goToNextSequence 81 = .ok (.iload_n 2, 1) := by decide +kernel
theorem dX2_goToNextSequence_82 : decode cX2_goToNextSequence 82 = .ok (.invokevirtual 136, 3) := by decide +kernel
theorem dX2_goToNextSequence_85 : decode cX2_goToNextSequence 85 = .ok (.iload_n 1, 1) := by decide +kernel
theorem dX2_goToNextSequence_86 : decode cX2_goToNextSequence 86 = .ok (.iconst 1, 1) := by decide +kernel
theorem dX2_goToNextSequence_87 : decode cX2_goToNextSequence 87 = .ok (.iadd, 1) := by decide +kernel
theorem dX2_goToNextSequence_88 : decode cX2_goToNextSequence 88 = .ok (.istore_n 3, 1) := by decide +kernel
theorem dX2_goToNextSequence_89 : decode cX2_goToNextSequence 89 = .ok (.aload_n 0, 1) := by decide +kernel
theorem dX2_goToNextSequence_90 : decode cX2_goToNextSequence 90 = .ok (.getfield 53, 3) := by decide +kernel
theorem dX2_goToNextSequence_93 : decode cX2_goToNextSequence 93 = .ok (.getfield 65, 3) := by decide +kernel
theorem dX2_goToNextSequence_96 : decode cX2_goToNextSequence 96 = .ok (.iconst 1, 1) := by decide +kernel
theorem dX2_goToNextSequence_97 : decode cX2_goToNextSequence 97 = .ok (.isub, 1) := by decide +kernel
theorem dX2_goToNextSequence_98 : decode cX2_goToNextSequence 98 = .ok (.istore 4, 2) := by decide +kernel
theorem dX2_goToNextSequence_100 : decode cX2_goToNextSequence 100 = .ok (.iload_n 3, 1) := by decide +kernel
theorem dX2_goToNextSequence_101 : decode cX2_goToNextSequence 101 = .ok (.iload 4, 2) := by decide +kernel
theorem dX2_goToNextSequence_103 : decode cX2_goToNextSequence 103 = .ok (.if_icmp .ge 19, 3) := by decide +kernel
theorem dX2_goToNextSequence_106 : decode cX2_goToNextSequence 106 = .ok (.aload_n 0, 1) := by decide +kernel
theorem dX2_goToNextSequence_107 : decode cX2_goToNextSequence 107 = .ok (.iload_n 3, 1) := by decide +kernel
theorem dX2_goToNextSequence_108 : decode cX2_goToNextSequence 108 = .ok (.iload 4, 2) := by decide +kernel
theorem dX2_goToNextSequence_110 : decode cX2_goToNextSequence 110 = .ok (.invokevirtual 136, 3) := by decide +kernel
theorem dX2_goToNextSequence_113 : decode cX2_goToNextSequence 113 = .ok (.iinc 3 1, 3) := by decide +kernel
theorem dX2_goToNextSequence_116 : decode cX2_goToNextSequence 116 = .ok (.iinc 4 (-1), 3) := by decide +kernel
theorem dX2_goToNextSequence_119 : decode cX2_goToNextSequence 119 = .ok (.goto (-19), 3) := by decide +kernel
theorem dX2_goToNextSequence_122 : decode cX2_goToNextSequence 122 = .ok (.iconst 1, 1) := by decide +kernel
theorem dX2_goToNextSequence_123 : decode cX2_goToNextSequence 123 = .ok (.ireturn, 1) := by decide +kernel
theorem dX2_swap_0 : decode cX2_swap 0 = .ok (.aload_n 0, 1) := by decide +kernel
theorem dX2_swap_1 : decode cX2_swap 1 = .ok (.getfield 29, 3) := by decide +kernel
theorem dX2_swap_4 : decode cX2_swap 4 = .ok (.iload_n 1, 1) := by decide +kernel
theorem dX2_swap_5 : decode cX2_swap 5 = .ok (.iaload, 1) := by decide +kernel
theorem dX2_swap_6 : decode cX2_swap 6 = .ok (.istore_n 3, 1) := by decide +kernel
theorem dX2_swap_7 : decode cX2_swap 7 = .ok (.aload_n 0, 1) := by decide +kernel
theorem dX2_swap_8 : decode cX2_swap 8 = .ok (.getfield 29, 3) := by decide +kernel
theorem dX2_swap_11 : decode cX2_swap 11 = .ok (.iload_n 1, 1) := by decide +kernel
theorem dX2_swap_12 : decode cX2_swap 12 = .ok (.aload_n 0, 1) := by decide +kernel
theorem dX2_swap_13 : decode cX2_swap 13 = .ok (.getfield 29, 3) := by decide +kernel
theorem dX2_swap_16 : decode cX2_swap 16 = .ok (.iload_n 2, 1) := by decide +kernel
theorem dX2_swap_17 : decode cX2_swap 17 = .ok (.iaload, 1) := by decide +kernel
theorem dX2_swap_18 : decode cX2_swap 18 = .ok (.iastore, 1) := by decide +kernel
theorem dX2_swap_19 : decode cX2_swap 19 = .ok (.aload_n 0, 1) := by decide +kernel
theorem dX2_swap_20 : decode cX2_swap 20 = .ok (.getfield 29, 3) := by decide +kernel
theorem dX2_swap_23 : decode cX2_swap 23 = .ok (.iload_n 2, 1) := by decide +kernel
theorem dX2_swap_24 : decode cX2_swap 24 = .ok (.iload_n 3, 1) := by decide +kernel
theorem dX2_swap_25 : decode cX2_swap 25 = .ok (.iastore, 1) := by decide +kernel
theorem dX2_swap_26 : decode cX2_swap 26 = .ok (.return_, 1) := by decide +kernel
theorem dX3_init_0 : decode cX3_init 0 = .ok (.aload_n 0, 1) := by decide +kernel
theorem dX3_init_1 : decode cX3_init 1 = .ok (.invokespecial 3, 3) := by decide +kernel
theorem dX3_init_4 : decode cX3_init 4 = .ok (.aload_n 0, 1) := by decide +kernel
theorem dX3_init_5 : decode cX3_init 5 = .ok (.bipush 120, 2) := by decide +kernel
theorem dX3_init_7 : decode cX3_init 7 = .ok (.newarray .int, 2) := by decide +kernel
theorem dX3_init_9 : decode cX3_init 9 = .ok (.putfield 9, 3) := by decide +kernel
theorem dX3_init_12 : decode cX3_init 12 = .ok (.aload_n 0, 1) := by decide +kernel
theorem dX3_init_13 : decode cX3_init 13 = .ok (.iconst 0, 1) := by decide +kernel
theorem dX3_init_14 : decode cX3_init 14 = .ok (.putfield 15, 3) := by decide +kernel
theorem dX3_init_17 : decode cX3_init 17 = .ok (.return_, 1) := by decide +kernel
theorem dX3_append_0 : decode cX3_append 0 = .ok (.iload_n 2, 1) := by decide +kernel
theorem dX3_append_1 : decode cX3_append 1 = .ok (.iconst 1, 1) := by decide +kernel
theorem dX3_append_2 : decode cX3_append 2 = .ok (.isub, 1) := by decide +kernel
theorem dX3_append_3 : decode cX3_append 3 = .ok (.istore_n 3, 1) := by decide +kernel
theorem dX3_append_4 : decode cX3_append 4 = .ok (.iload_n 3, 1) := by decide +kernel
theorem dX3_append_5 : decode cX3_append 5 = .ok (.ifCond .lt 47, 3) := by decide +kernel
theorem dX3_append_8 : decode cX3_append 8 = .ok (.aload_n 0, 1) := by decide +kernel
theorem dX3_append_9 : decode cX3_append 9 = .ok (.getfield 15, 3) := by decide +kernel
theorem dX3_append_12 : decode cX3_append 12 = .ok (.bipush 120, 2) := by decide +kernel
theorem dX3_append_14 : decode cX3_append 14 = .ok (.if_icmp .ge 38, 3) := by decide +kernel
theorem dX3_append_17 : decode cX3_append 17 = .ok (.aload_n 0, 1) := by decide +kernel
theorem dX3_append_18 : decode cX3_append 18 = .ok (.getfield 9, 3) := by decide +kernel
theorem dX3_append_21 : decode cX3_append 21 = .ok (.aload_n 0, 1) := by decide +kernel
theorem dX3_append_22 : decode cX3_append 22 = .ok (.getfield 15, 3) := by decide +kernel
theorem dX3_append_25 : decode cX3_append 25 = .ok (.iload_n 1, 1) := by decide +kernel
theorem dX3_append_26 : decode cX3_append 26 = .ok (.bipush 8, 2) := by decide +kernel
theorem dX3_append_28 : decode cX3_append 28 = .ok (.iload_n 3, 1) := by decide +kernel
theorem dX3_append_29 : decode cX3_append 29 = .ok (.imul, 1) := by decide +kernel
theorem dX3_append_30 : decode cX3_append 30 = .ok (.iushr, 1) := by decide +kernel
theorem dX3_append_31 : decode cX3_append 31 = .ok (.sipush 255, 3) := by decide +kernel
theorem dX3_append_34 : decode cX3_append 34 = .ok (.iand, 1) := by decide +kernel
theorem dX3_append_35 : decode cX3_append 35 = .ok (.iastore, 1) := by decide +kernel
theorem dX3_append_36 : decode cX3_append 36 = .ok (.aload_n 0, 1) := by decide +kernel
theorem dX3_append_37 : decode cX3_append 37 = .ok (.dup, 1) := by decide +kernel
theorem dX3_append_38 : decode cX3_append 38 = .ok (.getfield 15, 3) := by decide +kernel
theorem dX3_append_41 : decode cX3_append 41 = .ok (.iconst 1, 1) := by decide +kernel
theorem dX3_append_42 : decode cX3_append 42 = .ok (.iadd, 1) := by decide +kernel
theorem dX3_append_43 : decode cX3_append 43 = .ok (.putfield 15, 3) := by decide +kernel
theorem dX3_append_46 : decode cX3_append 46 = .ok (.iinc 3 (-1), 3) := by decide +kernel
theorem dX3_append_49 : decode cX3_append 49 = .ok (.goto (-45), 3) := by decide +kernel
theorem dX3_append_52 : decode cX3_append 52 = .ok (.return_, 1) := by decide +kernel
theorem dX4_init_0 : decode cX4_init 0 = .ok (.aload_n 0, 1) := by decide +kernel
theorem dX4_init_1 : decode cX4_init 1 = .ok (.invokespecial 3, 3) := by decide +kernel
theorem dX4_init_4 : decode cX4_init 4 = .ok (.aload_n 0, 1) := by decide +kernel
theorem dX4_init_5 : decode cX4_init 5 = .ok (.iconst 0, 1) := by decide +kernel
theorem dX4_init_6 : decode cX4_init 6 = .ok (.putfield 11, 3) := by decide +kernel
theorem dX4_init_9 : decode cX4_init 9 = .ok (.aload_n 0, 1) := by decide +kernel
theorem dX4_init_10 : decode cX4_init 10 = .ok (.iconst 0, 1) := by decide +kernel
theorem dX4_init_11 : decode cX4_init 11 = .ok (.putfield 15, 3) := by decide +kernel
theorem dX4_init_14 : decode cX4_init 14 = .ok (.aload_n 0, 1) := by decide +kernel
theorem dX4_init_15 : decode cX4_init 15 = .ok (.iconst 0, 1) := by decide +kernel
theorem dX4_init_16 : decode cX4_init 16 = .ok (.putfield 18, 3) := by decide +kernel
theorem dX4_init_19 : decode cX4_init 19 = .ok (.aload_n 0, 1) := by decide +kernel
theorem dX4_init_20 : decode cX4_init 20 = .ok (.iconst 0, 1) := by decide +kernel
theorem dX4_init_21 : decode cX4_init 21 = .ok (.putfield 21, 3) := by decide +kernel
theorem dX4_init_24 : decode cX4_init 24 = .ok (.aload_n 0, 1) := by decide +kernel
theorem dX4_init_25 : decode cX4_init 25 = .ok (.aload_n 1, 1) := by decide +kernel
theorem dX4_init_26 : decode cX4_init 26 = .ok (.putfield 24, 3) := by decide +kernel
theorem dX4_init_29 : decode cX4_init 29 = .ok (.aload_n 0, 1) := by decide +kernel
theorem dX4_init_30 : decode cX4_init 30 = .ok (.aload_n 2, 1) := by decide +kernel
theorem dX4_init_31 : decode cX4_init 31 = .ok (.putfield 28, 3) := by decide +kernel
theorem dX4_init_34 : decode cX4_init 34 = .ok (.return_, 1) := by decide +kernel
theorem dX4_readText_0 : decode cX4_readText 0 = .ok (.aload_n 0, 1) := by decide +kernel
theorem dX4_readText_1 : decode cX4_readText 1 = .ok (.iconst 0, 1) := by decide +kernel
theorem dX4_readText_2 : decode cX4_readText 2 = .ok (.putfield 18, 3) := by decide +kernel
theorem dX4_readText_5 : decode cX4_readText 5 = .ok (.iconst 0, 1) := by decide +kernel
theorem dX4_readText_6 : decode cX4_readText 6 = .ok (.istore_n 1, 1) := by decide +kernel
theorem dX4_readText_7 : decode cX4_readText 7 = .ok (.iconst 0, 1) := by decide +kernel
theorem dX4_readText_8 : decode cX4_readText 8 = .ok (.istore_n 2, 1) := by decide +kernel
theorem dX4_readText_9 : decode cX4_readText 9 = .ok (.iload_n 2, 1) := by decide +kernel
theorem dX4_readText_10 : decode cX4_readText 10 = .ok (.bipush 120, 2) := by decide +kernel
theorem dX4_readText_12 : decode cX4_readText 12 = .ok (.if_icmp .gt 54, 3) := by decide +kernel
theorem dX4_readText_15 : decode cX4_readText 15 = .ok (.aload_n 0, 1) := by decide +kernel
theorem dX4_readText_16 : decode cX4_readText 16 = .ok (.invokevirtual 32, 3) := by decide +kernel
theorem dX4_readText_19 : decode cX4_readText 19 = .ok (.aload_n 0, 1) := by decide +kernel
theorem dX4_readText_20 : decode cX4_readText 20 = .ok (.invokevirtual 35, 3) := by decide +kernel
theorem dX4_readText_23 : decode cX4_readText 23 = .ok (.ifCond .ne 10, 3) := by decide +kernel
theorem dX4_readText_26 : decode cX4_readText 26 = .ok (.iconst (-1), 1) := by decide +kernel
theorem dX4_readText_27 : decode cX4_readText 27 = .ok (.aload_n 0, 1) := by decide +kernel
theorem dX4_readText_28 : decode cX4_readText 28 = .ok (.getfield 15, 3) := by decide +kernel
theorem dX4_readText_31 : decode cX4_readText 31 = .ok (.isub, 1) := by decide +kernel
theorem dX4_readText_32 : decode cX4_readText 32 = .ok (.ireturn, 1) := by decide +kernel
theorem dX4_readText_33 : decode cX4_readText 33 = .ok (.iinc 1 1, 3) := by decide +kernel
theorem dX4_readText_36 : decode cX4_readText 36 = .ok (.aload_n 0, 1) := by decide +kernel
theorem dX4_readText_37 : decode cX4_readText 37 = .ok (.getfield 11, 3) := by decide +kernel
theorem dX4_readText_40 : decode cX4_readText 40 = .ok (.ifCond .ne 5, 3) := by decide +kernel
theorem dX4_readText_43 : decode cX4_readText 43 = .ok (.iload_n 1, 1) := by decide +kernel
theorem dX4_readText_44 : decode cX4_readText 44 = .ok (.ireturn, 1) := by decide +kernel
theorem dX4_readText_45 : decode cX4_readText 45 = .ok (.aload_n 0, 1) := by decide +kernel
theorem dX4_readText_46 : decode cX4_readText 46 = .ok (.getfield 11, 3) := by decide +kernel
theorem dX4_readText_49 : decode cX4_readText 49 = .ok (.iconst 3, 1) := by decide +kernel
theorem dX4_readText_50 : decode cX4_readText 50 = .ok (.if_icmp .eq 10, 3) := by decide +kernel
theorem dX4_readText_53 : decode cX4_readText 53 = .ok (.iconst (-1), 1) := by decide +kernel
theorem dX4_readText_54 : decode cX4_readText 54 = .ok (.aload_n 0, 1) := by decide +kernel
theorem dX4_readText_55 : decode cX4_readText 55 = .ok (.getfield 15, 3) := by decide +kernel
theorem dX4_readText_58 : decode cX4_readText 58 = .ok (.isub, 1) := by decide +kernel
theorem dX4_readText_59 : decode cX4_readText 59 = .ok (.ireturn, 1) := by decide +kernel
theorem dX4_readText_60 : decode cX4_readText 60 = .ok (.iinc 2 1, 3) := by decide +kernel
theorem dX4_readText_63 : decode cX4_readText 63 = .ok (.goto (-54), 3) := by decide +kernel
theorem dX4_readText_66 : decode cX4_readText 66 = .ok (.iconst (-1), 1) := by decide +kernel
theorem dX4_readText_67 : decode cX4_readText 67 = .ok (.aload_n 0, 1) := by decide +kernel
theorem dX4_readText_68 : decode cX4_readText 68 = .ok (.getfield 15, 3) := by decide +kernel
theorem dX4_readText_71 : decode cX4_readText 71 = .ok (.isub, 1) := by decide +kernel
theorem dX4_readText_72 : decode cX4_readText 72 = .ok (.ireturn, 1) := by decide +kernel
theorem dX4_readItem_0 : decode cX4_readItem 0 = .ok (.aload_n 0, 1) := by decide +kernel
theorem dX4_readItem_1 : decode cX4_readItem 1 = .ok (.getfield 11, 3) := by decide +kernel
theorem dX4_readItem_4 : decode cX4_readItem 4 = .ok (.iconst 1, 1) := by decide +kernel
theorem dX4_readItem_5 : decode cX4_readItem 5 = .ok (.if_icmp .eq 5, 3) := by decide +kernel
theorem dX4_readItem_8 : decode cX4_readItem 8 = .ok (.iconst 0, 1) := by decide +kernel
theorem dX4_readItem_9 : decode cX4_readItem 9 = .ok (.ireturn, 1) := by decide +kernel
theorem dX4_readItem_10 : decode cX4_readItem 10 = .ok (.aload_n 0, 1) := by decide +kernel
theorem dX4_readItem_11 : decode cX4_readItem 11 = .ok (.ldc 39, 2) := by decide +kernel
theorem dX4_readItem_13 : decode cX4_readItem 13 = .ok (.invokevirtual 41, 3) := by decide +kernel
theorem dX4_readItem_16 : decode cX4_readItem 16 = .ok (.ifCond .eq 8, 3) := by decide +kernel
theorem dX4_readItem_19 : decode cX4_readItem 19 = .ok (.aload_n 0, 1) := by decide +kernel
theorem dX4_readItem_20 : decode cX4_readItem 20 = .ok (.invokevirtual 45, 3) := by decide +kernel
theorem dX4_readItem_23 : decode cX4_readItem 23 = .ok (.ireturn, 1) := by decide +kernel
theorem dX4_readItem_24 : decode cX4_readItem 24 = .ok (.aload_n 0, 1) := by decide +kernel
theorem dX4_readItem_25 : decode cX4_readItem 25 = .ok (.ldc 48, 2) := by decide +kernel
theorem dX4_readItem_27 : decode cX4_readItem 27 = .ok (.invokevirtual 41, 3) := by decide +kernel
theorem dX4_readItem_30 : decode cX4_readItem 30 = .ok (.ifCond .eq 8, 3) := by decide +kernel
theorem dX4_readItem_33 : decode cX4_readItem 33 = .ok (.aload_n 0, 1) := by decide +kernel
theorem dX4_readItem_34 : decode cX4_readItem 34 = .ok (.invokevirtual 50, 3) := by decide +kernel
theorem dX4_readItem_37 : decode cX4_readItem 37 = .ok (.ireturn, 1) := by decide +kernel
theorem dX4_readItem_38 : decode cX4_readItem 38 = .ok (.aload_n 0, 1) := by decide +kernel
theorem dX4_readItem_39 : decode cX4_readItem 39 = .ok (.ldc 53, 2) := by decide +kernel
theorem dX4_readItem_41 : decode cX4_readItem 41 = .ok (.invokevirtual 41, 3) := by decide +kernel
theorem dX4_readItem_44 : decode cX4_readItem 44 = .ok (.ifCond .eq 8, 3) := by decide +kernel
theorem dX4_readItem_47 : decode cX4_readItem 47 = .ok (.aload_n 0, 1) := by decide +kernel
theorem dX4_readItem_48 : decode cX4_readItem 48 = .ok (.invokevirtual 55, 3) := by decide +kernel
theorem dX4_readItem_51 : decode cX4_readItem 51 = .ok (.ireturn, 1) := by decide +kernel
theorem dX4_readItem_52 : decode cX4_readItem 52 = .ok (.aload_n 0, 1) := by decide +kernel
theorem dX4_readItem_53 : decode cX4_readItem 53 = .ok (.ldc 58, 2) := by decide +kernel
theorem dX4_readItem_55 : decode cX4_readItem 55 = .ok (.invokevirtual 41, 3) := by decide +kernel
theorem dX4_readItem_58 : decode cX4_readItem 58 = .ok (.ifCond .eq 8, 3) := by decide +kernel
theorem dX4_readItem_61 : decode cX4_readItem 61 = .ok (.aload_n 0, 1) := by decide +kernel
theorem dX4_readItem_62 : decode cX4_readItem 62 = .ok (.invokevirtual 60, 3) := by decide +kernel
theorem dX4_readItem_65 : decode cX4_readItem 65 = .ok (.ireturn, 1) := by decide +kernel
theorem dX4_readItem_66 : decode cX4_readItem 66 = .ok (.aload_n 0, 1) := by decide +kernel
theorem dX4_readItem_67 : decode cX4_readItem 67 = .ok (.aload_n 0, 1) := by decide +kernel
theorem dX4_readItem_68 : decode cX4_readItem 68 = .ok (.invokevirtual 63, 3) := by decide +kernel
theorem dX4_readItem_71 : decode cX4_readItem 71 = .ok (.invokevirtual 67, 3) := by decide +kernel
theorem dX4_readItem_74 : decode cX4_readItem 74 = .ok (.ireturn, 1) := by decide +kernel
theorem dX4_readRound_0 : decode cX4_readRound 0 = .ok (.aload_n 0, 1) := by decide +kernel
theorem dX4_readRound_1 : decode cX4_readRound 1 = .ok (.invokevirtual 32, 3) := by decide +kernel
theorem dX4_readRound_4 : decode cX4_readRound 4 = .ok (.aload_n 0, 1) := by decide +kernel
theorem dX4_readRound_5 : decode cX4_readRound 5 = .ok (.iconst 1, 1) := by decide +kernel
theorem dX4_readRound_6 : decode cX4_readRound 6 = .ok (.bipush 12, 2) := by decide +kernel
theorem dX4_readRound_8 : decode cX4_readRound 8 = .ok (.invokevirtual 71, 3) := by decide +kernel
theorem dX4_readRound_11 : decode cX4_readRound 11 = .ok (.ifCond .ne 5, 3) := by decide +kernel
theorem dX4_readRound_14 : decode cX4_readRound 14 = .ok (.iconst 0, 1) := by decide +kernel
theorem dX4_readRound_15 : decode cX4_readRound 15 = .ok (.ireturn, 1) := by decide +kernel
theorem dX4_readRound_16 : decode cX4_readRound 16 = .ok (.aload_n 0, 1) := by decide +kernel
theorem dX4_readRound_17 : decode cX4_readRound 17 = .ok (.getfield 28, 3) := by decide +kernel
theorem dX4_readRound_20 : decode cX4_readRound 20 = .ok (.aload_n 0, 1) := by decide +kernel
theorem dX4_readRound_21 : decode cX4_readRound 21 = .ok (.getfield 21, 3) := by decide +kernel
theorem dX4_readRound_24 : decode cX4_readRound 24 = .ok (.putfield 75, 3) := by decide +kernel
theorem dX4_readRound_27 : decode cX4_readRound 27 = .ok (.aload_n 0, 1) := by decide +kernel
theorem dX4_readRound_28 : decode cX4_readRound 28 = .ok (.invokevirtual 32, 3) := by decide +kernel
theorem dX4_readRound_31 : decode cX4_readRound 31 = .ok (.iconst 1, 1) := by decide +kernel
theorem dX4_readRound_32 : decode cX4_readRound 32 = .ok (.ireturn, 1) := by decide +kernel
theorem dX4_readNear_0 : decode cX4_readNear 0 = .ok (.aload_n 0, 1) := by decide +kernel
theorem dX4_readNear_1 : decode cX4_readNear 1 = .ok (.invokevirtual 32, 3) := by decide +kernel
theorem dX4_readNear_4 : decode cX4_readNear 4 = .ok (.aload_n 0, 1) := by decide +kernel
theorem dX4_readNear_5 : decode cX4_readNear 5 = .ok (.iconst 0, 1) := by decide +kernel
theorem dX4_readNear_6 : decode cX4_readNear 6 = .ok (.bipush 11, 2) := by decide +kernel
theorem dX4_readNear_8 : decode cX4_readNear 8 = .ok (.invokevirtual 71, 3) := by decide +kernel
theorem dX4_readNear_11 : decode cX4_readNear 11 = .ok (.ifCond .ne 5, 3) := by decide +kernel
theorem dX4_readNear_14 : decode cX4_readNear 14 = .ok (.iconst 0, 1) := by decide +kernel
theorem dX4_readNear_15 : decode cX4_readNear 15 = .ok (.ireturn, 1) := by decide +kernel
theorem dX4_readNear_16 : decode cX4_readNear 16 = .ok (.aload_n 0, 1) := by decide +kernel
theorem dX4_readNear_17 : decode cX4_readNear 17 = .ok (.getfield 28, 3) := by decide +kernel
theorem dX4_readNear_20 : decode cX4_readNear 20 = .ok (.aload_n 0, 1) := by decide +kernel
theorem dX4_readNear_21 : decode cX4_readNear 21 = .ok (.getfield 21, 3) := by decide +kernel
theorem dX4_readNear_24 : decode cX4_readNear 24 = .ok (.putfield 79, 3) := by decide +kernel
theorem dX4_readNear_27 : decode cX4_readNear 27 = .ok (.aload_n 0, 1) := by decide +kernel
theorem dX4_readNear_28 : decode cX4_readNear 28 = .ok (.invokevirtual 32, 3) := by decide +kernel
theorem dX4_readNear_31 : decode cX4_readNear 31 = .ok (.iconst 1, 1) := by decide +kernel
theorem dX4_readNear_32 : decode cX4_readNear 32 = .ok (.ireturn, 1) := by decide +kernel
theorem dX4_readTool_0 : decode cX4_readTool 0 = .ok (.aload_n 0, 1) := by decide +kernel
theorem dX4_readTool_1 : decode cX4_readTool 1 = .ok (.getfield 28, 3) := by decide +kernel
theorem dX4_readTool_4 : decode cX4_readTool 4 = .ok (.getfield 81, 3) := by decide +kernel
theorem dX4_readTool_7 : decode cX4_readTool 7 = .ok (.bipush 8, 2) := by decide +kernel
theorem dX4_readTool_9 : decode cX4_readTool 9 = .ok (.if_icmp .lt 5, 3) := by decide +kernel
theorem dX4_readTool_12 : decode cX4_readTool 12 = .ok (.iconst 0, 1) := by decide +kernel
theorem dX4_readTool_13 : decode cX4_readTool 13 = .ok (.ireturn, 1) := by decide +kernel
theorem dX4_readTool_14 : decode cX4_readTool 14 = .ok (.aload_n 0, 1) := by decide +kernel
theorem dX4_readTool_15 : decode cX4_readTool 15 = .ok (.invokevirtual 32, 3) := by decide +kernel
theorem dX4_readTool_18 : decode cX4_readTool 18 = .ok (.iconst 0, 1) := by decide +kernel
theorem dX4_readTool_19 : decode cX4_readTool 19 = .ok (.istore_n 1, 1) := by decide +kernel
theorem dX4_readTool_20 : decode cX4_readTool 20 = .ok (.iconst 0, 1) := by decide +kernel
theorem dX4_readTool_21 : decode cX4_readTool 21 = .ok (.istore_n 2, 1) := by decide +kernel
theorem dX4_readTool_22 : decode cX4_readTool 22 = .ok (.iconst 0, 1) := by decide +kernel
theorem dX4_readTool_23 : decode cX4_readTool 23 = .ok (.istore_n 3, 1) := by decide +kernel
theorem dX4_readTool_24 : decode cX4_readTool 24 = .ok (.iload_n 3, 1) := by decide +kernel
theorem dX4_readTool_25 : decode cX4_readTool 25 = .ok (.bipush 12, 2) := by decide +kernel
theorem dX4_readTool_27 : decode cX4_readTool 27 = .ok (.if_icmp .ge 49, 3) := by decide +kernel
theorem dX4_readTool_30 : decode cX4_readTool 30 = .ok (.aload_n 0, 1) := by decide +kernel
theorem dX4_readTool_31 : decode cX4_readTool 31 = .ok (.getfield 11, 3) := by decide +kernel
theorem dX4_readTool_34 : decode cX4_readTool 34 = .ok (.iconst 2, 1) := by decide +kernel
theorem dX4_readTool_35 : decode cX4_readTool 35 = .ok (.if_icmp .ne 41, 3) := by decide +kernel
theorem dX4_readTool_38 : decode cX4_readTool 38 = .ok (.aload_n 0, 1) := by decide +kernel
theorem dX4_readTool_39 : decode cX4_readTool 39 = .ok (.iload_n 2, 1) := by decide +kernel
theorem dX4_readTool_40 : decode cX4_readTool 40 = .ok (.bipush 11, 2) := by decide +kernel
theorem dX4_readTool_42 : decode cX4_readTool 42 = .ok (.invokevirtual 71, 3) := by decide +kernel
theorem dX4_readTool_45 : decode cX4_readTool 45 = .ok (.ifCond .ne 5, 3) := by decide +kernel
theorem dX4_readTool_48 : decode cX4_readTool 48 = .ok (.iconst 0, 1) := by decide +kernel
theorem dX4_readTool_49 : decode cX4_readTool 49 = .ok (.ireturn, 1) := by decide +kernel
theorem dX4_readTool_50 : decode cX4_readTool 50 = .ok (.iload_n 1, 1) := by decide +kernel
theorem dX4_readTool_51 : decode cX4_readTool 51 = .ok (.iconst 1, 1) := by decide +kernel
theorem dX4_readTool_52 : decode cX4_readTool 52 = .ok (.aload_n 0, 1) := by decide +kernel
theorem dX4_readTool_53 : decode cX4_readTool 53 = .ok (.getfield 21, 3) := by decide +kernel
theorem dX4_readTool_56 : decode cX4_readTool 56 = .ok (.ishl, 1) := by decide +kernel
theorem dX4_readTool_57 : decode cX4_readTool 57 = .ok (.ior, 1) := by decide +kernel
theorem dX4_readTool_58 : decode cX4_readTool 58 = .ok (.istore_n 1, 1) := by decide +kernel
theorem dX4_readTool_59 : decode cX4_readTool 59 = .ok (.aload_n 0, 1) := by decide +kernel
theorem dX4_readTool_60 : decode cX4_readTool 60 = .ok (.getfield 21, 3) := by decide +kernel
theorem dX4_readTool_63 : decode cX4_readTool 63 = .ok (.iconst 1, 1) := by decide +kernel
theorem dX4_readTool_64 : decode cX4_readTool 64 = .ok (.iadd, 1) := by decide +kernel
theorem dX4_readTool_65 : decode cX4_readTool 65 = .ok (.istore_n 2, 1) := by decide +kernel
theorem dX4_readTool_66 : decode cX4_readTool 66 = .ok (.aload_n 0, 1) := by decide +kernel
theorem dX4_readTool_67 : decode cX4_readTool 67 = .ok (.invokevirtual 32, 3) := by decide +kernel
theorem dX4_readTool_70 : decode cX4_readTool 70 = .ok (.iinc 3 1, 3) := by decide +kernel
theorem dX4_readTool_73 : decode cX4_readTool 73 = .ok (.goto (-49), 3) := by decide +kernel
theorem dX4_readTool_76 : decode cX4_readTool 76 = .ok (.aload_n 0, 1) := by decide +kernel
theorem dX4_readTool_77 : decode cX4_readTool 77 = .ok (.getfield 28, 3) := by decide +kernel
theorem dX4_readTool_80 : decode cX4_readTool 80 = .ok (.iload_n 1, 1) := by decide +kernel
theorem dX4_readTool_81 : decode cX4_readTool 81 = .ok (.invokevirtual 84, 3) := by decide +kernel
theorem dX4_readTool_84 : decode cX4_readTool 84 = .ok (.pop, 1) := by decide +kernel
theorem dX4_readTool_85 : decode cX4_readTool 85 = .ok (.iconst 1, 1) := by decide +kernel
theorem dX4_readTool_86 : decode cX4_readTool 86 = .ok (.ireturn, 1) := by decide +kernel
theorem dX4_readThing_0 : decode cX4_readThing 0 = .ok (.iload_n 1, 1) := by decide +kernel
theorem dX4_readThing_1 : decode cX4_readThing 1 = .ok (.ifCond .lt 15, 3) := by decide +kernel
theorem dX4_readThing_4 : decode cX4_readThing 4 = .ok (.aload_n 0, 1) := by decide +kernel
theorem dX4_readThing_5 : decode cX4_readThing 5 = .ok (.getfield 28, 3) := by decide +kernel
theorem dX4_readThing_8 : decode cX4_readThing 8 = .ok (.getfield 88, 3) := by decide +kernel
theorem dX4_readThing_11 : decode cX4_readThing 11 = .ok (.bipush 8, 2) := by decide +kernel
theorem dX4_readThing_13 : decode cX4_readThing 13 = .ok (.if_icmp .lt 5, 3) := by decide +kernel
theorem dX4_readThing_16 : decode cX4_readThing 16 = .ok (.iconst 0, 1) := by decide +kernel
theorem dX4_readThing_17 : decode cX4_readThing 17 = .ok (.ireturn, 1) := by decide +kernel
theorem dX4_readThing_18 : decode cX4_readThing 18 = .ok (.aload_n 0, 1) := by decide +kernel
theorem dX4_readThing_19 : decode cX4_readThing 19 = .ok (.getfield 28, 3) := by decide +kernel
theorem dX4_readThing_22 : decode cX4_readThing 22 = .ok (.iload_n 1, 1) := by decide +kernel
theorem dX4_readThing_23 : decode cX4_readThing 23 = .ok (.invokevirtual 91, 3) := by decide +kernel
theorem dX4_readThing_26 : decode cX4_readThing 26 = .ok (.istore_n 2, 1) := by decide +kernel
theorem dX4_readThing_27 : decode cX4_readThing 27 = .ok (.iconst 0, 1) := by decide +kernel
theorem dX4_readThing_28 : decode cX4_readThing 28 = .ok (.istore_n 3, 1) := by decide +kernel
theorem dX4_readThing_29 : decode cX4_readThing 29 = .ok (.iload_n 3, 1) := by decide +kernel
theorem dX4_readThing_30 : decode cX4_readThing 30 = .ok (.bipush 8, 2) := by decide +kernel
theorem dX4_readThing_32 : decode cX4_readThing 32 = .ok (.if_icmp .ge 33, 3) := by decide +kernel
theorem dX4_readThing_35 : decode cX4_readThing 35 = .ok (.aload_n 0, 1) := by decide +kernel
theorem dX4_readThing_36 : decode cX4_readThing 36 = .ok (.invokevirtual 32, 3) := by decide +kernel
theorem dX4_readThing_39 : decode cX4_readThing 39 = .ok (.aload_n 0, 1) := by decide +kernel
theorem dX4_readThing_40 : decode cX4_readThing 40 = .ok (.iload_n 2, 1) := by decide +kernel
theorem dX4_readThing_41 : decode cX4_readThing 41 = .ok (.invokevirtual 94, 3) := by decide +kernel
theorem dX4_readThing_44 : decode cX4_readThing 44 = .ok (.ifCond .ne 5, 3) := by decide +kernel
theorem dX4_readThing_47 : decode cX4_readThing 47 = .ok (.iconst 0, 1) := by decide +kernel
theorem dX4_readThing_48 : decode cX4_readThing 48 = .ok (.ireturn, 1) := by decide +kernel
theorem dX4_readThing_49 : decode cX4_readThing 49 = .ok (.aload_n 0, 1) := by decide +kernel
theorem dX4_readThing_50 : decode cX4_readThing 50 = .ok (.getfield 11, 3) := by decide +kernel
theorem dX4_readThing_53 : decode cX4_readThing 53 = .ok (.iconst 4, 1) := by decide +kernel
theorem dX4_readThing_54 : decode cX4_readThing 54 = .ok (.if_icmp .eq 5, 3) := by decide +kernel
theorem dX4_readThing_57 : decode cX4_readThing 57 = .ok (.iconst 1, 1) := by decide +kernel
theorem dX4_readThing_58 : decode cX4_readThing 58 = .ok (.ireturn, 1) := by decide +kernel
theorem dX4_readThing_59 : decode cX4_readThing 59 = .ok (.iinc 3 1, 3) := by decide +kernel
theorem dX4_readThing_62 : decode cX4_readThing 62 = .ok (.goto (-33), 3) := by decide +kernel
theorem dX4_readThing_65 : decode cX4_readThing 65 = .ok (.iconst 0, 1) := by decide +kernel
theorem dX4_readThing_66 : decode cX4_readThing 66 = .ok (.ireturn, 1) := by decide +kernel
theorem dX4_readStep_0 : decode cX4_readStep 0 = .ok (.aload_n 0, 1) := by decide +kernel
theorem dX4_readStep_1 : decode cX4_readStep 1 = .ok (.iconst 0, 1) := by decide +kernel
theorem dX4_readStep_2 : decode cX4_readStep 2 = .ok (.aload_n 0, 1) := by decide +kernel
theorem dX4_readStep_3 : decode cX4_readStep 3 = .ok (.getfield 28, 3) := by decide +kernel
theorem dX4_readStep_6 : decode cX4_readStep 6 = .ok (.getfield 81, 3) := by decide +kernel
theorem dX4_readStep_9 : decode cX4_readStep 9 = .ok (.iconst 1, 1) := by decide +kernel
theorem dX4_readStep_10 : decode cX4_readStep 10 = .ok (.isub, 1) := by decide +kernel
theorem dX4_readStep_11 : decode cX4_readStep 11 = .ok (.invokevirtual 71, 3) := by decide +kernel
theorem dX4_readStep_14 : decode cX4_readStep 14 = .ok (.ifCond .ne 5, 3) := by decide +kernel
theorem dX4_readStep_17 : decode cX4_readStep 17 = .ok (.iconst 0, 1) := by decide +kernel
theorem dX4_readStep_18 : decode cX4_readStep 18 = .ok (.ireturn, 1) := by decide +kernel
theorem dX4_readStep_19 : decode cX4_readStep 19 = .ok (.aload_n 0, 1) := by decide +kernel
theorem dX4_readStep_20 : decode cX4_readStep 20 = .ok (.getfield 21, 3) := by decide +kernel
theorem dX4_readStep_23 : decode cX4_readStep 23 = .ok (.istore_n 2, 1) := by decide +kernel
theorem dX4_readStep_24 : decode cX4_readStep 24 = .ok (.aload_n 0, 1) := by decide +kernel
theorem dX4_readStep_25 : decode cX4_readStep 25 = .ok (.invokevirtual 32, 3) := by decide +kernel
theorem dX4_readStep_28 : decode cX4_readStep 28 = .ok (.aload_n 0, 1) := by decide +kernel
theorem dX4_readStep_29 : decode cX4_readStep 29 = .ok (.iconst 1, 1) := by decide +kernel
theorem dX4_readStep_30 : decode cX4_readStep 30 = .ok (.bipush 8, 2) := by decide +kernel
theorem dX4_readStep_32 : decode cX4_readStep 32 = .ok (.invokevirtual 71, 3) := by decide +kernel
theorem dX4_readStep_35 : decode cX4_readStep 35 = .ok (.ifCond .ne 5, 3) := by decide +kernel
theorem dX4_readStep_38 : decode cX4_readStep 38 = .ok (.iconst 0, 1) := by decide +kernel
theorem dX4_readStep_39 : decode cX4_readStep 39 = .ok (.ireturn, 1) := by decide +kernel
theorem dX4_readStep_40 : decode cX4_readStep 40 = .ok (.aload_n 0, 1) := by decide +kernel
theorem dX4_readStep_41 : decode cX4_readStep 41 = .ok (.getfield 21, 3) := by decide +kernel
theorem dX4_readStep_44 : decode cX4_readStep 44 = .ok (.istore_n 3, 1) := by decide +kernel
theorem dX4_readStep_45 : decode cX4_readStep 45 = .ok (.aload_n 0, 1) := by decide +kernel
theorem dX4_readStep_46 : decode cX4_readStep 46 = .ok (.invokevirtual 32, 3) := by decide +kernel
theorem dX4_readStep_49 : decode cX4_readStep 49 = .ok (.bipush 99, 2) := by decide +kernel
theorem dX4_readStep_51 : decode cX4_readStep 51 = .ok (.istore 4, 2) := by decide +kernel
theorem dX4_readStep_53 : decode cX4_readStep 53 = .ok (.aload_n 0, 1) := by decide +kernel
theorem dX4_readStep_54 : decode cX4_readStep 54 = .ok (.ldc 97, 2) := by decide +kernel
theorem dX4_readStep_56 : decode cX4_readStep 56 = .ok (.invokevirtual 41, 3) := by decide +kernel
theorem dX4_readStep_59 : decode cX4_readStep 59 = .ok (.ifCond .eq 29, 3) := by decide +kernel
theorem dX4_readStep_62 : decode cX4_readStep 62 = .ok (.aload_n 0, 1) := by decide +kernel
theorem dX4_readStep_63 : decode cX4_readStep 63 = .ok (.invokevirtual 32, 3) := by decide +kernel
theorem dX4_readStep_66 : decode cX4_readStep 66 = .ok (.aload_n 0, 1) := by decide +kernel
theorem dX4_readStep_67 : decode cX4_readStep 67 = .ok (.iconst 0, 1) := by decide +kernel
theorem dX4_readStep_68 : decode cX4_readStep 68 = .ok (.bipush 99, 2) := by decide +kernel
theorem dX4_readStep_70 : decode cX4_readStep 70 = .ok (.invokevirtual 71, 3) := by decide +kernel
theorem dX4_readStep_73 : decode cX4_readStep 73 = .ok (.ifCond .ne 5, 3) := by decide +kernel
theorem dX4_readStep_76 : decode cX4_readStep 76 = .ok (.iconst 0, 1) := by decide +kernel
theorem dX4_readStep_77 : decode cX4_readStep 77 = .ok (.ireturn, 1) := by decide +kernel
theorem dX4_readStep_78 : decode cX4_readStep 78 = .ok (.aload_n 0, 1) := by decide +kernel
theorem dX4_readStep_79 : decode cX4_readStep 79 = .ok (.getfield 21, 3) := by decide +kernel
theorem dX4_readStep_82 : decode cX4_readStep 82 = .ok (.istore 4, 2) := by decide +kernel
theorem dX4_readStep_84 : decode cX4_readStep 84 = .ok (.aload_n 0, 1) := by decide +kernel
theorem dX4_readStep_85 : decode cX4_readStep 85 = .ok (.invokevirtual 32, 3) := by decide +kernel
theorem dX4_readStep_88 : decode cX4_readStep 88 = .ok (.aload_n 0, 1) := by decide +kernel
theorem dX4_readStep_89 : decode cX4_readStep 89 = .ok (.getfield 28, 3) := by decide +kernel
theorem dX4_readStep_92 : decode cX4_readStep 92 = .ok (.iload_n 1, 1) := by decide +kernel
theorem dX4_readStep_93 : decode cX4_readStep 93 = .ok (.iload_n 2, 1) := by decide +kernel
theorem dX4_readStep_94 : decode cX4_readStep 94 = .ok (.iload_n 3, 1) := by decide +kernel
theorem dX4_readStep_95 : decode cX4_readStep 95 = .ok (.iload 4, 2) := by decide +kernel
theorem dX4_readStep_97 : decode cX4_readStep 97 = .ok (.invokevirtual 99, 3) := by decide +kernel
theorem dX4_readStep_100 : decode cX4_readStep 100 = .ok (.pop, 1) := by decide +kernel
theorem dX4_readStep_101 : decode cX4_readStep 101 = .ok (.iconst 1, 1) := by decide +kernel
theorem dX4_readStep_102 : decode cX4_readStep 102 = .ok (.ireturn, 1) := by decide +kernel
theorem dX4_readOrder_0 : decode cX4_readOrder 0 = .ok (.aload_n 0, 1) := by decide +kernel
theorem dX4_readOrder_1 : decode cX4_readOrder 1 = .ok (.getfield 28, 3) := by decide +kernel
theorem dX4_readOrder_4 : decode cX4_readOrder 4 = .ok (.getfield 103, 3) := by decide +kernel
theorem dX4_readOrder_7 : decode cX4_readOrder 7 = .ok (.iconst 5, 1) := by decide +kernel
theorem dX4_readOrder_8 : decode cX4_readOrder 8 = .ok (.if_icmp .lt 5, 3) := by decide +kernel
theorem dX4_readOrder_11 : decode cX4_readOrder 11 = .ok (.iconst 0, 1) := by decide +kernel
theorem dX4_readOrder_12 : decode cX4_readOrder 12 = .ok (.ireturn, 1) := by decide +kernel
theorem dX4_readOrder_13 : decode cX4_readOrder 13 = .ok (.aload_n 0, 1) := by decide +kernel
theorem dX4_readOrder_14 : decode cX4_readOrder 14 = .ok (.invokevirtual 32, 3) := by decide +kernel
theorem dX4_readOrder_17 : decode cX4_readOrder 17 = .ok (.aload_n 0, 1) := by decide +kernel
theorem dX4_readOrder_18 : decode cX4_readOrder 18 = .ok (.iconst 0, 1) := by decide +kernel
theorem dX4_readOrder_19 : decode cX4_readOrder 19 = .ok (.aload_n 0, 1) := by decide +kernel
theorem dX4_readOrder_20 : decode cX4_readOrder 20 = .ok (.getfield 28, 3) := by decide +kernel
theorem dX4_readOrder_23 : decode cX4_readOrder 23 = .ok (.getfield 88, 3) := by decide +kernel
theorem dX4_readOrder_26 : decode cX4_readOrder 26 = .ok (.iconst 1, 1) := by decide +kernel
theorem dX4_readOrder_27 : decode cX4_readOrder 27 = .ok (.isub, 1) := by decide +kernel
theorem dX4_readOrder_28 : decode cX4_readOrder 28 = .ok (.invokevirtual 71, 3) := by decide +kernel
theorem dX4_readOrder_31 : decode cX4_readOrder 31 = .ok (.ifCond .ne 5, 3) := by decide +kernel
theorem dX4_readOrder_34 : decode cX4_readOrder 34 = .ok (.iconst 0, 1) := by decide +kernel
theorem dX4_readOrder_35 : decode cX4_readOrder 35 = .ok (.ireturn, 1) := by decide +kernel
theorem dX4_readOrder_36 : decode cX4_readOrder 36 = .ok (.aload_n 0, 1) := by decide +kernel
theorem dX4_readOrder_37 : decode cX4_readOrder 37 = .ok (.getfield 21, 3) := by decide +kernel
theorem dX4_readOrder_40 : decode cX4_readOrder 40 = .ok (.istore_n 1, 1) := by decide +kernel
theorem dX4_readOrder_41 : decode cX4_readOrder 41 = .ok (.aload_n 0, 1) := by decide +kernel
theorem dX4_readOrder_42 : decode cX4_readOrder 42 = .ok (.invokevirtual 32, 3) := by decide +kernel
theorem dX4_readOrder_45 : decode cX4_readOrder 45 = .ok (.aload_n 0, 1) := by decide +kernel
theorem dX4_readOrder_46 : decode cX4_readOrder 46 = .ok (.ldc 106, 2) := by decide +kernel
theorem dX4_readOrder_48 : decode cX4_readOrder 48 = .ok (.iconst 0, 1) := by decide +kernel
theorem dX4_readOrder_49 : decode cX4_readOrder 49 = .ok (.sipush 399, 3) := by decide +kernel
theorem dX4_readOrder_52 : decode cX4_readOrder 52 = .ok (.invokevirtual 108, 3) := by decide +kernel
theorem dX4_readOrder_55 : decode cX4_readOrder 55 = .ok (.ifCond .ne 5, 3) := by decide +kernel
theorem dX4_readOrder_58 : decode cX4_readOrder 58 = .ok (.iconst 0, 1) := by decide +kernel
theorem dX4_readOrder_59 : decode cX4_readOrder 59 = .ok (.ireturn, 1) := by decide +kernel
theorem dX4_readOrder_60 : decode cX4_readOrder 60 = .ok (.aload_n 0, 1) := by decide +kernel
theorem dX4_readOrder_61 : decode cX4_readOrder 61 = .ok (.getfield 21, 3) := by decide +kernel
theorem dX4_readOrder_64 : decode cX4_readOrder 64 = .ok (.istore_n 2, 1) := by decide +kernel
theorem dX4_readOrder_65 : decode cX4_readOrder 65 = .ok (.aload_n 0, 1) := by decide +kernel
theorem dX4_readOrder_66 : decode cX4_readOrder 66 = .ok (.invokevirtual 32, 3) := by decide +kernel
theorem dX4_readOrder_69 : decode cX4_readOrder 69 = .ok (.aload_n 0, 1) := by decide +kernel
theorem dX4_readOrder_70 : decode cX4_readOrder 70 = .ok (.ldc 112, 2) := by decide +kernel
theorem dX4_readOrder_72 : decode cX4_readOrder 72 = .ok (.iconst 1, 1) := by decide +kernel
theorem dX4_readOrder_73 : decode cX4_readOrder 73 = .ok (.bipush 99, 2) := by decide +kernel
theorem dX4_readOrder_75 : decode cX4_readOrder 75 = .ok (.invokevirtual 108, 3) := by decide +kernel
theorem dX4_readOrder_78 : decode cX4_readOrder 78 = .ok (.ifCond .ne 5, 3) := by decide +kernel
theorem dX4_readOrder_81 : decode cX4_readOrder 81 = .ok (.iconst 0, 1) := by decide +kernel
theorem dX4_readOrder_82 : decode cX4_readOrder 82 = .ok (.ireturn, 1) := by decide +kernel
theorem dX4_readOrder_83 : decode cX4_readOrder 83 = .ok (.aload_n 0, 1) := by decide +kernel
theorem dX4_readOrder_84 : decode cX4_readOrder 84 = .ok (.getfield 28, 3) := by decide +kernel
theorem dX4_readOrder_87 : decode cX4_readOrder 87 = .ok (.iload_n 1, 1) := by decide +kernel
theorem dX4_readOrder_88 : decode cX4_readOrder 88 = .ok (.iload_n 2, 1) := by decide +kernel
theorem dX4_readOrder_89 : decode cX4_readOrder 89 = .ok (.aload_n 0, 1) := by decide +kernel
theorem dX4_readOrder_90 : decode cX4_readOrder 90 = .ok (.getfield 21, 3) := by decide +kernel
theorem dX4_readOrder_93 : decode cX4_readOrder 93 = .ok (.invokevirtual 114, 3) := by decide +kernel
theorem dX4_readOrder_96 : decode cX4_readOrder 96 = .ok (.pop, 1) := by decide +kernel
theorem dX4_readOrder_97 : decode cX4_readOrder 97 = .ok (.aload_n 0, 1) := by decide +kernel
theorem dX4_readOrder_98 : decode cX4_readOrder 98 = .ok (.invokevirtual 32, 3) := by decide +kernel
theorem dX4_readOrder_101 : decode cX4_readOrder 101 = .ok (.iconst 1, 1) := by decide +kernel
theorem dX4_readOrder_102 : decode cX4_readOrder 102 = .ok (.ireturn, 1) := by decide +kernel
theorem dX4_readBehindWord_0 : decode cX4_readBehindWord 0 = .ok (.aload_n 0, 1) := by decide +kernel
theorem dX4_readBehindWord_1 : decode cX4_readBehindWord 1 = .ok (.aload_n 1, 1) := by decide +kernel
theorem dX4_readBehindWord_2 : decode cX4_readBehindWord 2 = .ok (.invokevirtual 41, 3) := by decide +kernel
theorem dX4_readBehindWord_5 : decode cX4_readBehindWord 5 = .ok (.ifCond .ne 5, 3) := by decide +kernel
theorem dX4_readBehindWord_8 : decode cX4_readBehindWord 8 = .ok (.iconst 0, 1) := by decide +kernel
theorem dX4_readBehindWord_9 : decode cX4_readBehindWord 9 = .ok (.ireturn, 1) := by decide +kernel
theorem dX4_readBehindWord_10 : decode cX4_readBehindWord 10 = .ok (.aload_n 0, 1) := by decide +kernel
theorem dX4_readBehindWord_11 : decode cX4_readBehindWord 11 = .ok (.invokevirtual 32, 3) := by decide +kernel
theorem dX4_readBehindWord_14 : decode cX4_readBehindWord 14 = .ok (.aload_n 0, 1) := by decide +kernel
theorem dX4_readBehindWord_15 : decode cX4_readBehindWord 15 = .ok (.iload_n 2, 1) := by decide +kernel
theorem dX4_readBehindWord_16 : decode cX4_readBehindWord 16 = .ok (.iload_n 3, 1) := by decide +kernel
theorem dX4_readBehindWord_17 : decode cX4_readBehindWord 17 = .ok (.invokevirtual 71, 3) := by decide +kernel
theorem dX4_readBehindWord_20 : decode cX4_readBehindWord 20 = .ok (.ireturn, 1) := by decide +kernel
theorem dX4_isNumber_0 : decode cX4_isNumber 0 = .ok (.aload_n 0, 1) := by decide +kernel
theorem dX4_isNumber_1 : decode cX4_isNumber 1 = .ok (.getfield 11, 3) := by decide +kernel
theorem dX4_isNumber_4 : decode cX4_isNumber 4 = .ok (.iconst 2, 1) := by decide +kernel
theorem dX4_isNumber_5 : decode cX4_isNumber 5 = .ok (.if_icmp .ne 19, 3) := by decide +kernel
theorem dX4_isNumber_8 : decode cX4_isNumber 8 = .ok (.aload_n 0, 1) := by decide +kernel
theorem dX4_isNumber_9 : decode cX4_isNumber 9 = .ok (.getfield 21, 3) := by decide +kernel
theorem dX4_isNumber_12 : decode cX4_isNumber 12 = .ok (.iload_n 1, 1) := by decide +kernel
theorem dX4_isNumber_13 : decode cX4_isNumber 13 = .ok (.iload_n 2, 1) := by decide +kernel
theorem dX4_isNumber_14 : decode cX4_isNumber 14 = .ok (.invokestatic 118, 3) := by decide +kernel
theorem dX4_isNumber_17 : decode cX4_isNumber 17 = .ok (.ifCond .eq 7, 3) := by decide +kernel
theorem dX4_isNumber_20 : decode cX4_isNumber 20 = .ok (.iconst 1, 1) := by decide +kernel
theorem dX4_isNumber_21 : decode cX4_isNumber 21 = .ok (.goto 4, 3) := by decide +kernel
theorem dX4_isNumber_24 : decode cX4_isNumber 24 = .ok (.iconst 0, 1) := by decide +kernel
theorem dX4_isNumber_25 : decode cX4_isNumber 25 = .ok (.ireturn, 1) := by decide +kernel
theorem dX4_isWord_0 : decode cX4_isWord 0 = .ok (.aload_n 0, 1) := by decide +kernel
theorem dX4_isWord_1 : decode cX4_isWord 1 = .ok (.getfield 11, 3) := by decide +kernel
theorem dX4_isWord_4 : decode cX4_isWord 4 = .ok (.iconst 1, 1) := by decide +kernel
theorem dX4_isWord_5 : decode cX4_isWord 5 = .ok (.if_icmp .ne 19, 3) := by decide +kernel
theorem dX4_isWord_8 : decode cX4_isWord 8 = .ok (.aload_n 1, 1) := by decide +kernel
theorem dX4_isWord_9 : decode cX4_isWord 9 = .ok (.invokevirtual 122, 3) := by decide +kernel
theorem dX4_isWord_12 : decode cX4_isWord 12 = .ok (.aload_n 0, 1) := by decide +kernel
theorem dX4_isWord_13 : decode cX4_isWord 13 = .ok (.getfield 18, 3) := by decide +kernel
theorem dX4_isWord_16 : decode cX4_isWord 16 = .ok (.aload_n 0, 1) := by decide +kernel
theorem dX4_isWord_17 : decode cX4_isWord 17 = .ok (.getfield 15, 3) := by decide +kernel
theorem dX4_isWord_20 : decode cX4_isWord 20 = .ok (.isub, 1) := by decide +kernel
theorem dX4_isWord_21 : decode cX4_isWord 21 = .ok (.if_icmp .eq 5, 3) := by decide +kernel
theorem dX4_isWord_24 : decode cX4_isWord 24 = .ok (.iconst 0, 1) := by decide +kernel
theorem dX4_isWord_25 : decode cX4_isWord 25 = .ok (.ireturn, 1) := by decide +kernel
theorem dX4_isWord_26 : decode cX4_isWord 26 = .ok (.iconst 0, 1) := by decide +kernel
theorem dX4_isWord_27 : decode cX4_isWord 27 = .ok (.istore_n 2, 1) := by decide +kernel
theorem dX4_isWord_28 : decode cX4_isWord 28 = .ok (.iload_n 2, 1) := by decide +kernel
theorem dX4_isWord_29 : decode cX4_isWord 29 = .ok (.aload_n 1, 1) := by decide +kernel
theorem dX4_isWord_30 : decode cX4_isWord 30 = .ok (.invokevirtual 122, 3) := by decide +kernel
theorem dX4_isWord_33 : decode cX4_isWord 33 = .ok (.if_icmp .ge 33, 3) := by decide +kernel
theorem dX4_isWord_36 : decode cX4_isWord 36 = .ok (.aload_n 0, 1) := by decide +kernel
theorem dX4_isWord_37 : decode cX4_isWord 37 = .ok (.getfield 24, 3) := by decide +kernel
theorem dX4_isWord_40 : decode cX4_isWord 40 = .ok (.getfield 127, 3) := by decide +kernel
theorem dX4_isWord_43 : decode cX4_isWord 43 = .ok (.aload_n 0, 1) := by decide +kernel
theorem dX4_isWord_44 : decode cX4_isWord 44 = .ok (.getfield 15, 3) := by decide +kernel
theorem dX4_isWord_47 : decode cX4_isWord 47 = .ok (.iload_n 2, 1) := by decide +kernel
theorem dX4_isWord_48 : decode cX4_isWord 48 = .ok (.iadd, 1) := by decide +kernel
theorem dX4_isWord_49 : decode cX4_isWord 49 = .ok (.iaload, 1) := by decide +kernel
theorem dX4_isWord_50 : decode cX4_isWord 50 = .ok (.aload_n 1, 1) := by decide +kernel
theorem dX4_isWord_51 : decode cX4_isWord 51 = .ok (.iload_n 2, 1) := by decide +kernel
theorem dX4_isWord_52 : decode cX4_isWord 52 = .ok (.invokevirtual 133, 3) := by decide +kernel
theorem dX4_isWord_55 : decode cX4_isWord 55 = .ok (.if_icmp .eq 5, 3) := by decide +kernel
theorem dX4_isWord_58 : decode cX4_isWord 58 = .ok (.iconst 0, 1) := by decide +kernel
theorem dX4_isWord_59 : decode cX4_isWord 59 = .ok (.ireturn, 1) := by decide +kernel
theorem dX4_isWord_60 : decode cX4_isWord 60 = .ok (.iinc 2 1, 3) := by decide +kernel
theorem dX4_isWord_63 : decode cX4_isWord 63 = .ok (.goto (-35), 3) := by decide +kernel
theorem dX4_isWord_66 : decode cX4_isWord 66 = .ok (.iconst 1, 1) := by decide +kernel
theorem dX4_isWord_67 : decode cX4_isWord 67 = .ok (.ireturn, 1) := by decide +kernel
theorem dX4_kindOfWord_0 : decode cX4_kindOfWord 0 = .ok (.iconst 0, 1) := by decide +kernel
theorem dX4_kindOfWord_1 : decode cX4_kindOfWord 1 = .ok (.istore_n 1, 1) := by decide +kernel
theorem dX4_kindOfWord_2 : decode cX4_kindOfWord 2 = .ok (.iload_n 1, 1) := by decide +kernel
theorem dX4_kindOfWord_3 : decode cX4_kindOfWord 3 = .ok (.bipush 7, 2) := by decide +kernel
theorem dX4_kindOfWord_5 : decode cX4_kindOfWord 5 = .ok (.if_icmp .ge 22, 3) := by decide +kernel
theorem dX4_kindOfWord_8 : decode cX4_kindOfWord 8 = .ok (.aload_n 0, 1) := by decide +kernel
theorem dX4_kindOfWord_9 : decode cX4_kindOfWord 9 = .ok (.iload_n 1, 1) := by decide +kernel
theorem dX4_kindOfWord_10 : decode cX4_kindOfWord 10 = .ok (.invokestatic 137, 3) := by decide +kernel
theorem dX4_kindOfWord_13 : decode cX4_kindOfWord 13 = .ok (.invokevirtual 41, 3) := by decide +kernel
theorem dX4_kindOfWord_16 : decode cX4_kindOfWord 16 = .ok (.ifCond .eq 5, 3) := by decide +kernel
theorem dX4_kindOfWord_19 : decode cX4_kindOfWord 19 = .ok (.iload_n 1, 1) := by decide +kernel
theorem dX4_kindOfWord_20 : decode cX4_kindOfWord 20 = .ok (.ireturn, 1) := by decide +kernel
theorem dX4_kindOfWord_21 : decode cX4_kindOfWord 21 = .ok (.iinc 1 1, 3) := by decide +kernel
theorem dX4_kindOfWord_24 : decode cX4_kindOfWord 24 = .ok (.goto (-22), 3) := by decide +kernel
theorem dX4_kindOfWord_27 : decode cX4_kindOfWord 27 = .ok (.iconst (-1), 1) := by decide +kernel
theorem dX4_kindOfWord_28 : decode cX4_kindOfWord 28 = .ok (.ireturn, 1) := by decide +kernel
theorem dX4_nameOfKind_0 : decode cX4_nameOfKind 0 = .ok (.iload_n 0, 1) := by decide +kernel
theorem dX4_nameOfKind_1 : decode cX4_nameOfKind 1 = .ok (.tableswitch 57 1 6 #[39, 42, 45, 48, 51, 54], 39) := by decide +kernel
theorem dX4_nameOfKind_40 : decode cX4_nameOfKind 40 = .ok (.ldc 141, 2) := by decide +kernel
theorem dX4_nameOfKind_42 : decode cX4_nameOfKind 42 = .ok (.areturn, 1) := by decide +kernel
theorem dX4_nameOfKind_43 : decode cX4_nameOfKind 43 = .ok (.ldc 143, 2) := by decide +kernel
theorem dX4_nameOfKind_45 : decode cX4_nameOfKind 45 = .ok (.areturn, 1) := by decide +kernel
theorem dX4_nameOfKind_46 : decode cX4_nameOfKind 46 = .ok (.ldc 145, 2) := by decide +kernel
theorem dX4_nameOfKind_48 : decode cX4_nameOfKind 48 = .ok (.areturn, 1) := by decide +kernel
theorem dX4_nameOfKind_49 : decode cX4_nameOfKind 49 = .ok (.ldc 147, 2) := by decide +kernel
theorem dX4_nameOfKind_51 : decode cX4_nameOfKind 51 = .ok (.areturn, 1) := by decide +kernel
theorem dX4_nameOfKind_52 : decode cX4_nameOfKind 52 = .ok (.ldc 149, 2) := by decide +kernel
theorem dX4_nameOfKind_54 : decode cX4_nameOfKind 54 = .ok (.areturn, 1) := by decide +kernel
theorem dX4_nameOfKind_55 : decode cX4_nameOfKind 55 = .ok (.ldc 151, 2) := by decide +kernel
theorem dX4_nameOfKind_57 : decode cX4_nameOfKind 57 = .ok (.areturn, 1) := by decide +kernel
theorem dX4_nameOfKind_58 : decode cX4_nameOfKind 58 = .ok (.ldc 153, 2) := by decide +kernel
theorem dX4_nameOfKind_60 : decode cX4_nameOfKind 60 = .ok (.areturn, 1) := by decide +kernel
theorem dX4_goOn_0 : decode cX4_goOn 0 = .ok (.aload_n 0, 1) := by decide +kernel
theorem dX4_goOn_1 : decode cX4_goOn 1 = .ok (.aload_n 0, 1) := by decide +kernel
theorem dX4_goOn_2 : decode cX4_goOn 2 = .ok (.getfield 18, 3) := by decide +kernel
theorem dX4_goOn_5 : decode cX4_goOn 5 = .ok (.putfield 15, 3) := by decide +kernel
theorem dX4_goOn_8 : decode cX4_goOn 8 = .ok (.aload_n 0, 1) := by decide +kernel
theorem dX4_goOn_9 : decode cX4_goOn 9 = .ok (.getfield 15, 3) := by decide +kernel
theorem dX4_goOn_12 : decode cX4_goOn 12 = .ok (.aload_n 0, 1) := by decide +kernel
theorem dX4_goOn_13 : decode cX4_goOn 13 = .ok (.getfield 24, 3) := by decide +kernel
theorem dX4_goOn_16 : decode cX4_goOn 16 = .ok (.getfield 155, 3) := by decide +kernel
theorem dX4_goOn_19 : decode cX4_goOn 19 = .ok (.if_icmp .ge 33, 3) := by decide +kernel
theorem dX4_goOn_22 : decode cX4_goOn 22 = .ok (.aload_n 0, 1) := by decide +kernel
theorem dX4_goOn_23 : decode cX4_goOn 23 = .ok (.getfield 24, 3) := by decide +kernel
theorem dX4_goOn_26 : decode cX4_goOn 26 = .ok (.getfield 127, 3) := by decide +kernel
theorem dX4_goOn_29 : decode cX4_goOn 29 = .ok (.aload_n 0, 1) := by decide +kernel
theorem dX4_goOn_30 : decode cX4_goOn 30 = .ok (.getfield 15, 3) := by decide +kernel
theorem dX4_goOn_33 : decode cX4_goOn 33 = .ok (.iaload, 1) := by decide +kernel
theorem dX4_goOn_34 : decode cX4_goOn 34 = .ok (.bipush 32, 2) := by decide +kernel
theorem dX4_goOn_36 : decode cX4_goOn 36 = .ok (.if_icmp .ne 16, 3) := by decide +kernel
theorem dX4_goOn_39 : decode cX4_goOn 39 = .ok (.aload_n 0, 1) := by decide +kernel
theorem dX4_goOn_40 : decode cX4_goOn 40 = .ok (.dup, 1) := by decide +kernel
theorem dX4_goOn_41 : decode cX4_goOn 41 = .ok (.getfield 15, 3) := by decide +kernel
theorem dX4_goOn_44 : decode cX4_goOn 44 = .ok (.iconst 1, 1) := by decide +kernel
theorem dX4_goOn_45 : decode cX4_goOn 45 = .ok (.iadd, 1) := by decide +kernel
theorem dX4_goOn_46 : decode cX4_goOn 46 = .ok (.putfield 15, 3) := by decide +kernel
theorem dX4_goOn_49 : decode cX4_goOn 49 = .ok (.goto (-41), 3) := by decide +kernel
theorem dX4_goOn_52 : decode cX4_goOn 52 = .ok (.aload_n 0, 1) := by decide +kernel
theorem dX4_goOn_53 : decode cX4_goOn 53 = .ok (.aload_n 0, 1) := by decide +kernel
theorem dX4_goOn_54 : decode cX4_goOn 54 = .ok (.getfield 15, 3) := by decide +kernel
theorem dX4_goOn_57 : decode cX4_goOn 57 = .ok (.putfield 18, 3) := by decide +kernel
theorem dX4_goOn_60 : decode cX4_goOn 60 = .ok (.aload_n 0, 1) := by decide +kernel
theorem dX4_goOn_61 : decode cX4_goOn 61 = .ok (.aload_n 0, 1) := by decide +kernel
theorem dX4_goOn_62 : decode cX4_goOn 62 = .ok (.aload_n 0, 1) := by decide +kernel
theorem dX4_goOn_63 : decode cX4_goOn 63 = .ok (.getfield 15, 3) := by decide +kernel
theorem dX4_goOn_66 : decode cX4_goOn 66 = .ok (.invokevirtual 158, 3) := by decide +kernel
theorem dX4_goOn_69 : decode cX4_goOn 69 = .ok (.putfield 11, 3) := by decide +kernel
theorem dX4_goOn_72 : decode cX4_goOn 72 = .ok (.aload_n 0, 1) := by decide +kernel
theorem dX4_goOn_73 : decode cX4_goOn 73 = .ok (.getfield 11, 3) := by decide +kernel
theorem dX4_goOn_76 : decode cX4_goOn 76 = .ok (.ifCond .eq 13, 3) := by decide +kernel
theorem dX4_goOn_79 : decode cX4_goOn 79 = .ok (.aload_n 0, 1) := by decide +kernel
theorem dX4_goOn_80 : decode cX4_goOn 80 = .ok (.dup, 1) := by decide +kernel
theorem dX4_goOn_81 : decode cX4_goOn 81 = .ok (.getfield 18, 3) := by decide +kernel
theorem dX4_goOn_84 : decode cX4_goOn 84 = .ok (.iconst 1, 1) := by decide +kernel
theorem dX4_goOn_85 : decode cX4_goOn 85 = .ok (.iadd, 1) := by decide +kernel
theorem dX4_goOn_86 : decode cX4_goOn 86 = .ok (.putfield 18, 3) := by decide +kernel
theorem dX4_goOn_89 : decode cX4_goOn 89 = .ok (.aload_n 0, 1) := by decide +kernel
theorem dX4_goOn_90 : decode cX4_goOn 90 = .ok (.getfield 11, 3) := by decide +kernel
theorem dX4_goOn_93 : decode cX4_goOn 93 = .ok (.iconst 1, 1) := by decide +kernel
theorem dX4_goOn_94 : decode cX4_goOn 94 = .ok (.if_icmp .eq 11, 3) := by decide +kernel
theorem dX4_goOn_97 : decode cX4_goOn 97 = .ok (.aload_n 0, 1) := by decide +kernel
theorem dX4_goOn_98 : decode cX4_goOn 98 = .ok (.getfield 11, 3) := by decide +kernel
theorem dX4_goOn_101 : decode cX4_goOn 101 = .ok (.iconst 2, 1) := by decide +kernel
theorem dX4_goOn_102 : decode cX4_goOn 102 = .ok (.if_icmp .ne 45, 3) := by decide +kernel
theorem dX4_goOn_105 : decode cX4_goOn 105 = .ok (.aload_n 0, 1) := by decide +kernel
theorem dX4_goOn_106 : decode cX4_goOn 106 = .ok (.getfield 18, 3) := by decide +kernel
theorem dX4_goOn_109 : decode cX4_goOn 109 = .ok (.aload_n 0, 1) := by decide +kernel
theorem dX4_goOn_110 : decode cX4_goOn 110 = .ok (.getfield 24, 3) := by decide +kernel
theorem dX4_goOn_113 : decode cX4_goOn 113 = .ok (.getfield 155, 3) := by decide +kernel
theorem dX4_goOn_116 : decode cX4_goOn 116 = .ok (.if_icmp .ge 31, 3) := by decide +kernel
theorem dX4_goOn_119 : decode cX4_goOn 119 = .ok (.aload_n 0, 1) := by decide +kernel
theorem dX4_goOn_120 : decode cX4_goOn 120 = .ok (.aload_n 0, 1) := by decide +kernel
theorem dX4_goOn_121 : decode cX4_goOn 121 = .ok (.getfield 18, 3) := by decide +kernel
theorem dX4_goOn_124 : decode cX4_goOn 124 = .ok (.invokevirtual 158, 3) := by decide +kernel
theorem dX4_goOn_127 : decode cX4_goOn 127 = .ok (.aload_n 0, 1) := by decide +kernel
theorem dX4_goOn_128 : decode cX4_goOn 128 = .ok (.getfield 11, 3) := by decide +kernel
theorem dX4_goOn_131 : decode cX4_goOn 131 = .ok (.if_icmp .ne 16, 3) := by decide +kernel
theorem dX4_goOn_134 : decode cX4_goOn 134 = .ok (.aload_n 0, 1) := by decide +kernel
theorem dX4_goOn_135 : decode cX4_goOn 135 = .ok (.dup, 1) := by decide +kernel
theorem dX4_goOn_136 : decode cX4_goOn 136 = .ok (.getfield 18, 3) := by decide +kernel
theorem dX4_goOn_139 : decode cX4_goOn 139 = .ok (.iconst 1, 1) := by decide +kernel
theorem dX4_goOn_140 : decode cX4_goOn 140 = .ok (.iadd, 1) := by decide +kernel
theorem dX4_goOn_141 : decode cX4_goOn 141 = .ok (.putfield 18, 3) := by decide +kernel
theorem dX4_goOn_144 : decode cX4_goOn 144 = .ok (.goto (-39), 3) := by decide +kernel
theorem dX4_goOn_147 : decode cX4_goOn 147 = .ok (.aload_n 0, 1) := by decide +kernel
theorem dX4_goOn_148 : decode cX4_goOn 148 = .ok (.aload_n 0, 1) := by decide +kernel
theorem dX4_goOn_149 : decode cX4_goOn 149 = .ok (.getfield 11, 3) := by decide +kernel
theorem dX4_goOn_152 : decode cX4_goOn 152 = .ok (.iconst 2, 1) := by decide +kernel
theorem dX4_goOn_153 : decode cX4_goOn 153 = .ok (.if_icmp .ne 10, 3) := by decide +kernel
theorem dX4_goOn_156 : decode cX4_goOn 156 = .ok (.aload_n 0, 1) := by decide +kernel
theorem dX4_goOn_157 : decode cX4_goOn 157 = .ok (.invokevirtual 161, 3) := by decide +kernel
theorem dX4_goOn_160 : decode cX4_goOn 160 = .ok (.goto 4, 3) := by decide +kernel
theorem dX4_goOn_163 : decode cX4_goOn 163 = .ok (.iconst 0, 1) := by decide +kernel
theorem dX4_goOn_164 : decode cX4_goOn 164 = .ok (.putfield 21, 3) := by decide +kernel
theorem dX4_goOn_167 : decode cX4_goOn 167 = .ok (.return_, 1) := by decide +kernel
theorem dX4_tokenAt_0 : decode cX4_tokenAt 0 = .ok (.iload_n 1, 1) := by decide +kernel
theorem dX4_tokenAt_1 : decode cX4_tokenAt 1 = .ok (.ifCond .lt 14, 3) := by decide +kernel
theorem dX4_tokenAt_4 : decode cX4_tokenAt 4 = .ok (.iload_n 1, 1) := by decide +kernel
theorem dX4_tokenAt_5 : decode cX4_tokenAt 5 = .ok (.aload_n 0, 1) := by decide +kernel
theorem dX4_tokenAt_6 : decode cX4_tokenAt 6 = .ok (.getfield 24, 3) := by decide +kernel
theorem dX4_tokenAt_9 : decode cX4_tokenAt 9 = .ok (.getfield 155, 3) := by decide +kernel
theorem dX4_tokenAt_12 : decode cX4_tokenAt 12 = .ok (.if_icmp .lt 5, 3) := by decide +kernel
theorem dX4_tokenAt_15 : decode cX4_tokenAt 15 = .ok (.iconst 0, 1) := by decide +kernel
theorem dX4_tokenAt_16 : decode cX4_tokenAt 16 = .ok (.ireturn, 1) := by decide +kernel
theorem dX4_tokenAt_17 : decode cX4_tokenAt 17 = .ok (.aload_n 0, 1) := by decide +kernel
theorem dX4_tokenAt_18 : decode cX4_tokenAt 18 = .ok (.getfield 24, 3) := by decide +kernel
theorem dX4_tokenAt_21 : decode cX4_tokenAt 21 = .ok (.getfield 127, 3) := by decide +kernel
theorem dX4_tokenAt_24 : decode cX4_tokenAt 24 = .ok (.iload_n 1, 1) := by decide +kernel
theorem dX4_tokenAt_25 : decode cX4_tokenAt 25 = .ok (.iaload, 1) := by decide +kernel
theorem dX4_tokenAt_26 : decode cX4_tokenAt 26 = .ok (.istore_n 2, 1) := by decide +kernel
theorem dX4_tokenAt_27 : decode cX4_tokenAt 27 = .ok (.iload_n 2, 1) := by decide +kernel
theorem dX4_tokenAt_28 : decode cX4_tokenAt 28 = .ok (.bipush 97, 2) := by decide +kernel
theorem dX4_tokenAt_30 : decode cX4_tokenAt 30 = .ok (.if_icmp .lt 11, 3) := by decide +kernel
theorem dX4_tokenAt_33 : decode cX4_tokenAt 33 = .ok (.iload_n 2, 1) := by decide +kernel
theorem dX4_tokenAt_34 : decode cX4_tokenAt 34 = .ok (.bipush 122, 2) := by decide +kernel
theorem dX4_tokenAt_36 : decode cX4_tokenAt 36 = .ok (.if_icmp .gt 5, 3) := by decide +kernel
theorem dX4_tokenAt_39 : decode cX4_tokenAt 39 = .ok (.iconst 1, 1) := by decide +kernel
theorem dX4_tokenAt_40 : decode cX4_tokenAt 40 = .ok (.ireturn, 1) := by decide +kernel
theorem dX4_tokenAt_41 : decode cX4_tokenAt 41 = .ok (.iload_n 2, 1) := by decide +kernel
theorem dX4_tokenAt_42 : decode cX4_tokenAt 42 = .ok (.bipush 48, 2) := by decide +kernel
theorem dX4_tokenAt_44 : decode cX4_tokenAt 44 = .ok (.if_icmp .lt 11, 3) := by decide +kernel
theorem dX4_tokenAt_47 : decode cX4_tokenAt 47 = .ok (.iload_n 2, 1) := by decide +kernel
theorem dX4_tokenAt_48 : decode cX4_tokenAt 48 = .ok (.bipush 57, 2) := by decide +kernel
theorem dX4_tokenAt_50 : decode cX4_tokenAt 50 = .ok (.if_icmp .gt 5, 3) := by decide +kernel
theorem dX4_tokenAt_53 : decode cX4_tokenAt 53 = .ok (.iconst 2, 1) := by decide +kernel
theorem dX4_tokenAt_54 : decode cX4_tokenAt 54 = .ok (.ireturn, 1) := by decide +kernel
theorem dX4_tokenAt_55 : decode cX4_tokenAt 55 = .ok (.iload_n 2, 1) := by decide +kernel
theorem dX4_tokenAt_56 : decode cX4_tokenAt 56 = .ok (.bipush 59, 2) := by decide +kernel
theorem dX4_tokenAt_58 : decode cX4_tokenAt 58 = .ok (.if_icmp .ne 5, 3) := by decide +kernel
theorem dX4_tokenAt_61 : decode cX4_tokenAt 61 = .ok (.iconst 3, 1) := by decide +kernel
theorem dX4_tokenAt_62 : decode cX4_tokenAt 62 = .ok (.ireturn, 1) := by decide +kernel
theorem dX4_tokenAt_63 : decode cX4_tokenAt 63 = .ok (.iload_n 2, 1) := by decide +kernel
theorem dX4_tokenAt_64 : decode cX4_tokenAt 64 = .ok (.bipush 44, 2) := by decide +kernel
theorem dX4_tokenAt_66 : decode cX4_tokenAt 66 = .ok (.if_icmp .ne 7, 3) := by decide +kernel
theorem dX4_tokenAt_69 : decode cX4_tokenAt 69 = .ok (.iconst 4, 1) := by decide +kernel
theorem dX4_tokenAt_70 : decode cX4_tokenAt 70 = .ok (.goto 4, 3) := by decide +kernel
theorem dX4_tokenAt_73 : decode cX4_tokenAt 73 = .ok (.iconst 5, 1) := by decide +kernel
theorem dX4_tokenAt_74 : decode cX4_tokenAt 74 = .ok (.ireturn, 1) := by decide +kernel
theorem dX4_numberAtHand_0 : decode cX4_numberAtHand 0 = .ok (.iconst 0, 1) := by decide +kernel
theorem dX4_numberAtHand_1 : decode cX4_numberAtHand 1 = .ok (.istore_n 1, 1) := by decide +kernel
theorem dX4_numberAtHand_2 : decode cX4_numberAtHand 2 = .ok (.aload_n 0, 1) := by decide +kernel
theorem dX4_numberAtHand_3 : decode cX4_numberAtHand 3 = .ok (.getfield 15, 3) := by decide +kernel
theorem dX4_numberAtHand_6 : decode cX4_numberAtHand 6 = .ok (.istore_n 2, 1) := by decide +kernel
theorem dX4_numberAtHand_7 : decode cX4_numberAtHand 7 = .ok (.iload_n 2, 1) := by decide +kernel
theorem dX4_numberAtHand_8 : decode cX4_numberAtHand 8 = .ok (.aload_n 0, 1) := by decide +kernel
theorem dX4_numberAtHand_9 : decode cX4_numberAtHand 9 = .ok (.getfield 18, 3) := by decide +kernel
theorem dX4_numberAtHand_12 : decode cX4_numberAtHand 12 = .ok (.if_icmp .ge 34, 3) := by decide +kernel
theorem dX4_numberAtHand_15 : decode cX4_numberAtHand 15 = .ok (.iload_n 1, 1) := by decide +kernel
theorem dX4_numberAtHand_16 : decode cX4_numberAtHand 16 = .ok (.sipush 999, 3) := by decide +kernel
theorem dX4_numberAtHand_19 : decode cX4_numberAtHand 19 = .ok (.if_icmp .gt 27, 3) := by decide +kernel
theorem dX4_numberAtHand_22 : decode cX4_numberAtHand 22 = .ok (.iload_n 1, 1) := by decide +kernel
theorem dX4_numberAtHand_23 : decode cX4_numberAtHand 23 = .ok (.bipush 10, 2) := by decide +kernel
theorem dX4_numberAtHand_25 : decode cX4_numberAtHand 25 = .ok (.imul, 1) := by decide +kernel
theorem dX4_numberAtHand_26 : decode cX4_numberAtHand 26 = .ok (.aload_n 0, 1) := by decide +kernel
theorem dX4_numberAtHand_27 : decode cX4_numberAtHand 27 = .ok (.getfield 24, 3) := by decide +kernel
theorem dX4_numberAtHand_30 : decode cX4_numberAtHand 30 = .ok (.getfield 127, 3) := by decide +kernel
theorem dX4_numberAtHand_33 : decode cX4_numberAtHand 33 = .ok (.iload_n 2, 1) := by decide +kernel
theorem dX4_numberAtHand_34 : decode cX4_numberAtHand 34 = .ok (.iaload, 1) := by decide +kernel
theorem dX4_numberAtHand_35 : decode cX4_numberAtHand 35 = .ok (.iadd, 1) := by decide +kernel
theorem dX4_numberAtHand_36 : decode cX4_numberAtHand 36 = .ok (.bipush 48, 2) := by decide +kernel
theorem dX4_numberAtHand_38 : decode cX4_numberAtHand 38 = .ok (.isub, 1) := by decide +kernel
theorem dX4_numberAtHand_39 : decode cX4_numberAtHand 39 = .ok (.istore_n 1, 1) := by decide +kernel
theorem dX4_numberAtHand_40 : decode cX4_numberAtHand 40 = .ok (.iinc 2 1, 3) := by decide +kernel
theorem dX4_numberAtHand_43 : decode cX4_numberAtHand 43 = .ok (.goto (-36), 3) := by decide +kernel
theorem dX4_numberAtHand_46 : decode cX4_numberAtHand 46 = .ok (.iload_n 1, 1) := by decide +kernel
theorem dX4_numberAtHand_47 : decode cX4_numberAtHand 47 = .ok (.ireturn, 1) := by decide +kernel
