theorem dX7_init_0 : decode cX7_init 0 = .ok (.aload_n 0, 1) := by decide +kernel
theorem dX7_init_1 : decode cX7_init 1 = .ok (.invokespecial 3, 3) := by decide +kernel
theorem dX7_init_4 : decode cX7_init 4 = .ok (.aload_n 0, 1) := by decide +kernel
theorem dX7_init_5 : decode cX7_init 5 = .ok (.sipush 247, 3) := by decide +kernel
theorem dX7_init_8 : decode cX7_init 8 = .ok (.newarray .int, 2) := by decide +kernel
theorem dX7_init_10 : decode cX7_init 10 = .ok (.putfield 9, 3) := by decide +kernel
theorem dX7_init_13 : decode cX7_init 13 = .ok (.aload_n 0, 1) := by decide +kernel
theorem dX7_init_14 : decode cX7_init 14 = .ok (.sipush 247, 3) := by decide +kernel
theorem dX7_init_17 : decode cX7_init 17 = .ok (.newarray .int, 2) := by decide +kernel
theorem dX7_init_19 : decode cX7_init 19 = .ok (.putfield 13, 3) := by decide +kernel
theorem dX7_init_22 : decode cX7_init 22 = .ok (.aload_n 0, 1) := by decide +kernel
theorem dX7_init_23 : decode cX7_init 23 = .ok (.bipush 7, 2) := by decide +kernel
theorem dX7_init_25 : decode cX7_init 25 = .ok (.newarray .int, 2) := by decide +kernel
theorem dX7_init_27 : decode cX7_init 27 = .ok (.putfield 16, 3) := by decide +kernel
theorem dX7_init_30 : decode cX7_init 30 = .ok (.aload_n 0, 1) := by decide +kernel
theorem dX7_init_31 : decode cX7_init 31 = .ok (.bipush 120, 2) := by decide +kernel
theorem dX7_init_33 : decode cX7_init 33 = .ok (.newarray .int, 2) := by decide +kernel
theorem dX7_init_35 : decode cX7_init 35 = .ok (.putfield 19, 3) := by decide +kernel
theorem dX7_init_38 : decode cX7_init 38 = .ok (.aload_n 0, 1) := by decide +kernel
theorem dX7_init_39 : decode cX7_init 39 = .ok (.sipush 247, 3) := by decide +kernel
theorem dX7_init_42 : decode cX7_init 42 = .ok (.newarray .int, 2) := by decide +kernel
theorem dX7_init_44 : decode cX7_init 44 = .ok (.putfield 22, 3) := by decide +kernel
theorem dX7_init_47 : decode cX7_init 47 = .ok (.aload_n 0, 1) := by decide +kernel
theorem dX7_init_48 : decode cX7_init 48 = .ok (.bipush 8, 2) := by decide +kernel
theorem dX7_init_50 : decode cX7_init 50 = .ok (.newarray .int, 2) := by decide +kernel
theorem dX7_init_52 : decode cX7_init 52 = .ok (.putfield 25, 3) := by decide +kernel
theorem dX7_init_55 : decode cX7_init 55 = .ok (.aload_n 0, 1) := by decide +kernel
theorem dX7_init_56 : decode cX7_init 56 = .ok (.sipush 3200, 3) := by decide +kernel
theorem dX7_init_59 : decode cX7_init 59 = .ok (.newarray .int, 2) := by decide +kernel
theorem dX7_init_61 : decode cX7_init 61 = .ok (.putfield 28, 3) := by decide +kernel
theorem dX7_init_64 : decode cX7_init 64 = .ok (.aload_n 0, 1) := by decide +kernel
theorem dX7_init_65 : decode cX7_init 65 = .ok (.iconst 4, 1) := by decide +kernel
theorem dX7_init_66 : decode cX7_init 66 = .ok (.newarray .int, 2) := by decide +kernel
theorem dX7_init_68 : decode cX7_init 68 = .ok (.putfield 31, 3) := by decide +kernel
theorem dX7_init_71 : decode cX7_init 71 = .ok (.aload_n 0, 1) := by decide +kernel
theorem dX7_init_72 : decode cX7_init 72 = .ok (.iconst 4, 1) := by decide +kernel
theorem dX7_init_73 : decode cX7_init 73 = .ok (.newarray .int, 2) := by decide +kernel
theorem dX7_init_75 : decode cX7_init 75 = .ok (.putfield 34, 3) := by decide +kernel
theorem dX7_init_78 : decode cX7_init 78 = .ok (.aload_n 0, 1) := by decide +kernel
theorem dX7_init_79 : decode cX7_init 79 = .ok (.sipush 160, 3) := by decide +kernel
theorem dX7_init_82 : decode cX7_init 82 = .ok (.newarray .int, 2) := by decide +kernel
theorem dX7_init_84 : decode cX7_init 84 = .ok (.putfield 37, 3) := by decide +kernel
theorem dX7_init_87 : decode cX7_init 87 = .ok (.aload_n 0, 1) := by decide +kernel
theorem dX7_init_88 : decode cX7_init 88 = .ok (.getfield 9, 3) := by decide +kernel
theorem dX7_init_91 : decode cX7_init 91 = .ok (.iconst 0, 1) := by decide +kernel
theorem dX7_init_92 : decode cX7_init 92 = .ok (.bipush 7, 2) := by decide +kernel
theorem dX7_init_94 : decode cX7_init 94 = .ok (.iastore, 1) := by decide +kernel
theorem dX7_init_95 : decode cX7_init 95 = .ok (.aload_n 0, 1) := by decide +kernel
theorem dX7_init_96 : decode cX7_init 96 = .ok (.getfield 9, 3) := by decide +kernel
theorem dX7_init_99 : decode cX7_init 99 = .ok (.iconst 1, 1) := by decide +kernel
theorem dX7_init_100 : decode cX7_init 100 = .ok (.iconst (-1), 1) := by decide +kernel
theorem dX7_init_101 : decode cX7_init 101 = .ok (.iastore, 1) := by decide +kernel
theorem dX7_init_102 : decode cX7_init 102 = .ok (.aload_n 0, 1) := by decide +kernel
theorem dX7_init_103 : decode cX7_init 103 = .ok (.getfield 9, 3) := by decide +kernel
theorem dX7_init_106 : decode cX7_init 106 = .ok (.iconst 5, 1) := by decide +kernel
theorem dX7_init_107 : decode cX7_init 107 = .ok (.iconst 1, 1) := by decide +kernel
theorem dX7_init_108 : decode cX7_init 108 = .ok (.iastore, 1) := by decide +kernel
theorem dX7_init_109 : decode cX7_init 109 = .ok (.iconst 0, 1) := by decide +kernel
theorem dX7_init_110 : decode cX7_init 110 = .ok (.istore_n 1, 1) := by decide +kernel
theorem dX7_init_111 : decode cX7_init 111 = .ok (.iload_n 1, 1) := by decide +kernel
theorem dX7_init_112 : decode cX7_init 112 = .ok (.bipush 10, 2) := by decide +kernel
theorem dX7_init_114 : decode cX7_init 114 = .ok (.if_icmp .ge 20, 3) := by decide +kernel
theorem dX7_init_117 : decode cX7_init 117 = .ok (.aload_n 0, 1) := by decide +kernel
theorem dX7_init_118 : decode cX7_init 118 = .ok (.getfield 9, 3) := by decide +kernel
theorem dX7_init_121 : decode cX7_init 121 = .ok (.sipush 237, 3) := by decide +kernel
theorem dX7_init_124 : decode cX7_init 124 = .ok (.iload_n 1, 1) := by decide +kernel
theorem dX7_init_125 : decode cX7_init 125 = .ok (.iadd, 1) := by decide +kernel
theorem dX7_init_126 : decode cX7_init 126 = .ok (.iconst (-1), 1) := by decide +kernel
theorem dX7_init_127 : decode cX7_init 127 = .ok (.iastore, 1) := by decide +kernel
theorem dX7_init_128 : decode cX7_init 128 = .ok (.iinc 1 1, 3) := by decide +kernel
theorem dX7_init_131 : decode cX7_init 131 = .ok (.goto (-20), 3) := by decide +kernel
theorem dX7_init_134 : decode cX7_init 134 = .ok (.return_, 1) := by decide +kernel
theorem dX7_finds_0 : decode cX7_finds 0 = .ok (.aload_n 0, 1) := by decide +kernel
theorem dX7_finds_1 : decode cX7_finds 1 = .ok (.getfield 16, 3) := by decide +kernel
theorem dX7_finds_4 : decode cX7_finds 4 = .ok (.ldc 40, 2) := by decide +kernel
theorem dX7_finds_6 : decode cX7_finds 6 = .ok (.iload_n 1, 1) := by decide +kernel
theorem dX7_finds_7 : decode cX7_finds 7 = .ok (.isub, 1) := by decide +kernel
theorem dX7_finds_8 : decode cX7_finds 8 = .ok (.dup2, 1) := by decide +kernel
theorem dX7_finds_9 : decode cX7_finds 9 = .ok (.iaload, 1) := by decide +kernel
theorem dX7_finds_10 : decode cX7_finds 10 = .ok (.iconst 1, 1) := by decide +kernel
theorem dX7_finds_11 : decode cX7_finds 11 = .ok (.iadd, 1) := by decide +kernel
theorem dX7_finds_12 : decode cX7_finds 12 = .ok (.iastore, 1) := by decide +kernel
theorem dX7_finds_13 : decode cX7_finds 13 = .ok (.iload_n 1, 1) := by decide +kernel
theorem dX7_finds_14 : decode cX7_finds 14 = .ok (.ireturn, 1) := by decide +kernel
theorem dX7_orNone_0 : decode cX7_orNone 0 = .ok (.iload_n 1, 1) := by decide +kernel
theorem dX7_orNone_1 : decode cX7_orNone 1 = .ok (.ifCond .ge 12, 3) := by decide +kernel
theorem dX7_orNone_4 : decode cX7_orNone 4 = .ok (.aload_n 0, 1) := by decide +kernel
theorem dX7_orNone_5 : decode cX7_orNone 5 = .ok (.ldc 41, 2) := by decide +kernel
theorem dX7_orNone_7 : decode cX7_orNone 7 = .ok (.invokevirtual 42, 3) := by decide +kernel
theorem dX7_orNone_10 : decode cX7_orNone 10 = .ok (.goto 4, 3) := by decide +kernel
theorem dX7_orNone_13 : decode cX7_orNone 13 = .ok (.iload_n 1, 1) := by decide +kernel
theorem dX7_orNone_14 : decode cX7_orNone 14 = .ok (.ireturn, 1) := by decide +kernel
theorem dX7_in_0 : decode cX7_in 0 = .ok (.lload_n 0, 1) := by decide +kernel
theorem dX7_in_1 : decode cX7_in 1 = .ok (.lload_n 2, 1) := by decide +kernel
theorem dX7_in_2 : decode cX7_in 2 = .ok (.lcmp, 1) := by decide +kernel
theorem dX7_in_3 : decode cX7_in 3 = .ok (.ifCond .lt 14, 3) := by decide +kernel
theorem dX7_in_6 : decode cX7_in 6 = .ok (.lload_n 0, 1) := by decide +kernel
theorem dX7_in_7 : decode cX7_in 7 = .ok (.lload 4, 2) := by decide +kernel
theorem dX7_in_9 : decode cX7_in 9 = .ok (.lcmp, 1) := by decide +kernel
theorem dX7_in_10 : decode cX7_in 10 = .ok (.ifCond .gt 7, 3) := by decide +kernel
theorem dX7_in_13 : decode cX7_in 13 = .ok (.iconst 1, 1) := by decide +kernel
theorem dX7_in_14 : decode cX7_in 14 = .ok (.goto 4, 3) := by decide +kernel
theorem dX7_in_17 : decode cX7_in 17 = .ok (.iconst 0, 1) := by decide +kernel
theorem dX7_in_18 : decode cX7_in 18 = .ok (.ireturn, 1) := by decide +kernel
theorem dX7_has_0 : decode cX7_has 0 = .ok (.iload_n 0, 1) := by decide +kernel
theorem dX7_has_1 : decode cX7_has 1 = .ok (.iload_n 1, 1) := by decide +kernel
theorem dX7_has_2 : decode cX7_has 2 = .ok (.ishr, 1) := by decide +kernel
theorem dX7_has_3 : decode cX7_has 3 = .ok (.iconst 1, 1) := by decide +kernel
theorem dX7_has_4 : decode cX7_has 4 = .ok (.iand, 1) := by decide +kernel
theorem dX7_has_5 : decode cX7_has 5 = .ok (.iconst 1, 1) := by decide +kernel
theorem dX7_has_6 : decode cX7_has 6 = .ok (.if_icmp .ne 7, 3) := by decide +kernel
theorem dX7_has_9 : decode cX7_has 9 = .ok (.iconst 1, 1) := by decide +kernel
theorem dX7_has_10 : decode cX7_has 10 = .ok (.goto 4, 3) := by decide +kernel
theorem dX7_has_13 : decode cX7_has 13 = .ok (.iconst 0, 1) := by decide +kernel
theorem dX7_has_14 : decode cX7_has 14 = .ok (.ireturn, 1) := by decide +kernel
theorem dX7_isTool_0 : decode cX7_isTool 0 = .ok (.iload_n 1, 1) := by decide +kernel
theorem dX7_isTool_1 : decode cX7_isTool 1 = .ok (.i2l, 1) := by decide +kernel
theorem dX7_isTool_2 : decode cX7_isTool 2 = .ok (.lconst 0, 1) := by decide +kernel
theorem dX7_isTool_3 : decode cX7_isTool 3 = .ok (.aload_n 0, 1) := by decide +kernel
theorem dX7_isTool_4 : decode cX7_isTool 4 = .ok (.getfield 9, 3) := by decide +kernel
theorem dX7_isTool_7 : decode cX7_isTool 7 = .ok (.iconst 2, 1) := by decide +kernel
theorem dX7_isTool_8 : decode cX7_isTool 8 = .ok (.iaload, 1) := by decide +kernel
theorem dX7_isTool_9 : decode cX7_isTool 9 = .ok (.iconst 1, 1) := by decide +kernel
theorem dX7_isTool_10 : decode cX7_isTool 10 = .ok (.isub, 1) := by decide +kernel
theorem dX7_isTool_11 : decode cX7_isTool 11 = .ok (.i2l, 1) := by decide +kernel
theorem dX7_isTool_12 : decode cX7_isTool 12 = .ok (.invokestatic 46, 3) := by decide +kernel
theorem dX7_isTool_15 : decode cX7_isTool 15 = .ok (.ireturn, 1) := by decide +kernel
theorem dX7_isThing_0 : decode cX7_isThing 0 = .ok (.iload_n 1, 1) := by decide +kernel
theorem dX7_isThing_1 : decode cX7_isThing 1 = .ok (.i2l, 1) := by decide +kernel
theorem dX7_isThing_2 : decode cX7_isThing 2 = .ok (.lconst 0, 1) := by decide +kernel
theorem dX7_isThing_3 : decode cX7_isThing 3 = .ok (.aload_n 0, 1) := by decide +kernel
theorem dX7_isThing_4 : decode cX7_isThing 4 = .ok (.getfield 9, 3) := by decide +kernel
theorem dX7_isThing_7 : decode cX7_isThing 7 = .ok (.iconst 3, 1) := by decide +kernel
theorem dX7_isThing_8 : decode cX7_isThing 8 = .ok (.iaload, 1) := by decide +kernel
theorem dX7_isThing_9 : decode cX7_isThing 9 = .ok (.iconst 1, 1) := by decide +kernel
theorem dX7_isThing_10 : decode cX7_isThing 10 = .ok (.isub, 1) := by decide +kernel
theorem dX7_isThing_11 : decode cX7_isThing 11 = .ok (.i2l, 1) := by decide +kernel
theorem dX7_isThing_12 : decode cX7_isThing 12 = .ok (.invokestatic 46, 3) := by decide +kernel
theorem dX7_isThing_15 : decode cX7_isThing 15 = .ok (.ireturn, 1) := by decide +kernel
theorem dX7_isDay_0 : decode cX7_isDay 0 = .ok (.iload_n 0, 1) := by decide +kernel
theorem dX7_isDay_1 : decode cX7_isDay 1 = .ok (.i2l, 1) := by decide +kernel
theorem dX7_isDay_2 : decode cX7_isDay 2 = .ok (.lconst 0, 1) := by decide +kernel
theorem dX7_isDay_3 : decode cX7_isDay 3 = .ok (.ldc2_w 50, 3) := by decide +kernel
theorem dX7_isDay_6 : decode cX7_isDay 6 = .ok (.invokestatic 46, 3) := by decide +kernel
theorem dX7_isDay_9 : decode cX7_isDay 9 = .ok (.ireturn, 1) := by decide +kernel
theorem dX7_isKind_0 : decode cX7_isKind 0 = .ok (.iload_n 0, 1) := by decide +kernel
theorem dX7_isKind_1 : decode cX7_isKind 1 = .ok (.i2l, 1) := by decide +kernel
theorem dX7_isKind_2 : decode cX7_isKind 2 = .ok (.lconst 0, 1) := by decide +kernel
theorem dX7_isKind_3 : decode cX7_isKind 3 = .ok (.ldc2_w 52, 3) := by decide +kernel
theorem dX7_isKind_6 : decode cX7_isKind 6 = .ok (.invokestatic 46, 3) := by decide +kernel
theorem dX7_isKind_9 : decode cX7_isKind 9 = .ok (.ireturn, 1) := by decide +kernel
theorem dX7_becomes_0 : decode cX7_becomes 0 = .ok (.aload_n 0, 1) := by decide +kernel
theorem dX7_becomes_1 : decode cX7_becomes 1 = .ok (.getfield 9, 3) := by decide +kernel
theorem dX7_becomes_4 : decode cX7_becomes 4 = .ok (.iload_n 1, 1) := by decide +kernel
theorem dX7_becomes_5 : decode cX7_becomes 5 = .ok (.iaload, 1) := by decide +kernel
theorem dX7_becomes_6 : decode cX7_becomes 6 = .ok (.istore_n 3, 1) := by decide +kernel
theorem dX7_becomes_7 : decode cX7_becomes 7 = .ok (.aload_n 0, 1) := by decide +kernel
theorem dX7_becomes_8 : decode cX7_becomes 8 = .ok (.getfield 9, 3) := by decide +kernel
theorem dX7_becomes_11 : decode cX7_becomes 11 = .ok (.iload_n 1, 1) := by decide +kernel
theorem dX7_becomes_12 : decode cX7_becomes 12 = .ok (.iload_n 2, 1) := by decide +kernel
theorem dX7_becomes_13 : decode cX7_becomes 13 = .ok (.iastore, 1) := by decide +kernel
theorem dX7_becomes_14 : decode cX7_becomes 14 = .ok (.iload_n 3, 1) := by decide +kernel
theorem dX7_becomes_15 : decode cX7_becomes 15 = .ok (.ireturn, 1) := by decide +kernel
theorem dX7_kindOf_0 : decode cX7_kindOf 0 = .ok (.aload_n 0, 1) := by decide +kernel
theorem dX7_kindOf_1 : decode cX7_kindOf 1 = .ok (.getfield 9, 3) := by decide +kernel
theorem dX7_kindOf_4 : decode cX7_kindOf 4 = .ok (.bipush 14, 2) := by decide +kernel
theorem dX7_kindOf_6 : decode cX7_kindOf 6 = .ok (.bipush 26, 2) := by decide +kernel
theorem dX7_kindOf_8 : decode cX7_kindOf 8 = .ok (.iload_n 1, 1) := by decide +kernel
theorem dX7_kindOf_9 : decode cX7_kindOf 9 = .ok (.imul, 1) := by decide +kernel
theorem dX7_kindOf_10 : decode cX7_kindOf 10 = .ok (.iadd, 1) := by decide +kernel
theorem dX7_kindOf_11 : decode cX7_kindOf 11 = .ok (.iaload, 1) := by decide +kernel
theorem dX7_kindOf_12 : decode cX7_kindOf 12 = .ok (.ireturn, 1) := by decide +kernel
theorem dX7_steps_0 : decode cX7_steps 0 = .ok (.aload_n 0, 1) := by decide +kernel
theorem dX7_steps_1 : decode cX7_steps 1 = .ok (.getfield 9, 3) := by decide +kernel
theorem dX7_steps_4 : decode cX7_steps 4 = .ok (.bipush 14, 2) := by decide +kernel
theorem dX7_steps_6 : decode cX7_steps 6 = .ok (.bipush 26, 2) := by decide +kernel
theorem dX7_steps_8 : decode cX7_steps 8 = .ok (.iload_n 1, 1) := by decide +kernel
theorem dX7_steps_9 : decode cX7_steps 9 = .ok (.imul, 1) := by decide +kernel
theorem dX7_steps_10 : decode cX7_steps 10 = .ok (.iadd, 1) := by decide +kernel
theorem dX7_steps_11 : decode cX7_steps 11 = .ok (.iconst 1, 1) := by decide +kernel
theorem dX7_steps_12 : decode cX7_steps 12 = .ok (.iadd, 1) := by decide +kernel
theorem dX7_steps_13 : decode cX7_steps 13 = .ok (.iaload, 1) := by decide +kernel
theorem dX7_steps_14 : decode cX7_steps 14 = .ok (.ireturn, 1) := by decide +kernel
theorem dX7_at_0 : decode cX7_at 0 = .ok (.bipush 14, 2) := by decide +kernel
theorem dX7_at_2 : decode cX7_at 2 = .ok (.bipush 26, 2) := by decide +kernel
theorem dX7_at_4 : decode cX7_at 4 = .ok (.iload_n 0, 1) := by decide +kernel
theorem dX7_at_5 : decode cX7_at 5 = .ok (.imul, 1) := by decide +kernel
theorem dX7_at_6 : decode cX7_at 6 = .ok (.iadd, 1) := by decide +kernel
theorem dX7_at_7 : decode cX7_at 7 = .ok (.iconst 2, 1) := by decide +kernel
theorem dX7_at_8 : decode cX7_at 8 = .ok (.iadd, 1) := by decide +kernel
theorem dX7_at_9 : decode cX7_at 9 = .ok (.iconst 3, 1) := by decide +kernel
theorem dX7_at_10 : decode cX7_at 10 = .ok (.iload_n 1, 1) := by decide +kernel
theorem dX7_at_11 : decode cX7_at 11 = .ok (.imul, 1) := by decide +kernel
theorem dX7_at_12 : decode cX7_at 12 = .ok (.iadd, 1) := by decide +kernel
theorem dX7_at_13 : decode cX7_at 13 = .ok (.iload_n 2, 1) := by decide +kernel
theorem dX7_at_14 : decode cX7_at 14 = .ok (.iadd, 1) := by decide +kernel
theorem dX7_at_15 : decode cX7_at 15 = .ok (.ireturn, 1) := by decide +kernel
theorem dX7_of_0 : decode cX7_of 0 = .ok (.aload_n 0, 1) := by decide +kernel
theorem dX7_of_1 : decode cX7_of 1 = .ok (.getfield 9, 3) := by decide +kernel
theorem dX7_of_4 : decode cX7_of 4 = .ok (.iload_n 1, 1) := by decide +kernel
theorem dX7_of_5 : decode cX7_of 5 = .ok (.iload_n 2, 1) := by decide +kernel
theorem dX7_of_6 : decode cX7_of 6 = .ok (.iload_n 3, 1) := by decide +kernel
theorem dX7_of_7 : decode cX7_of 7 = .ok (.invokestatic 54, 3) := by decide +kernel
theorem dX7_of_10 : decode cX7_of 10 = .ok (.iaload, 1) := by decide +kernel
theorem dX7_of_11 : decode cX7_of 11 = .ok (.ireturn, 1) := by decide +kernel
theorem dX7_isStep_0 : decode cX7_isStep 0 = .ok (.aload_n 0, 1) := by decide +kernel
theorem dX7_isStep_1 : decode cX7_isStep 1 = .ok (.iload_n 1, 1) := by decide +kernel
theorem dX7_isStep_2 : decode cX7_isStep 2 = .ok (.invokevirtual 58, 3) := by decide +kernel
theorem dX7_isStep_5 : decode cX7_isStep 5 = .ok (.ifCond .eq 24, 3) := by decide +kernel
theorem dX7_isStep_8 : decode cX7_isStep 8 = .ok (.iload_n 2, 1) := by decide +kernel
theorem dX7_isStep_9 : decode cX7_isStep 9 = .ok (.i2l, 1) := by decide +kernel
theorem dX7_isStep_10 : decode cX7_isStep 10 = .ok (.lconst 0, 1) := by decide +kernel
theorem dX7_isStep_11 : decode cX7_isStep 11 = .ok (.aload_n 0, 1) := by decide +kernel
theorem dX7_isStep_12 : decode cX7_isStep 12 = .ok (.iload_n 1, 1) := by decide +kernel
theorem dX7_isStep_13 : decode cX7_isStep 13 = .ok (.invokevirtual 62, 3) := by decide +kernel
theorem dX7_isStep_16 : decode cX7_isStep 16 = .ok (.iconst 1, 1) := by decide +kernel
theorem dX7_isStep_17 : decode cX7_isStep 17 = .ok (.isub, 1) := by decide +kernel
theorem dX7_isStep_18 : decode cX7_isStep 18 = .ok (.i2l, 1) := by decide +kernel
theorem dX7_isStep_19 : decode cX7_isStep 19 = .ok (.invokestatic 46, 3) := by decide +kernel
theorem dX7_isStep_22 : decode cX7_isStep 22 = .ok (.ifCond .eq 7, 3) := by decide +kernel
theorem dX7_isStep_25 : decode cX7_isStep 25 = .ok (.iconst 1, 1) := by decide +kernel
theorem dX7_isStep_26 : decode cX7_isStep 26 = .ok (.goto 4, 3) := by decide +kernel
theorem dX7_isStep_29 : decode cX7_isStep 29 = .ok (.iconst 0, 1) := by decide +kernel
theorem dX7_isStep_30 : decode cX7_isStep 30 = .ok (.ireturn, 1) := by decide +kernel
theorem dX7_feed_0 : decode cX7_feed 0 = .ok (.iload_n 2, 1) := by decide +kernel
theorem dX7_feed_1 : decode cX7_feed 1 = .ok (.i2l, 1) := by decide +kernel
theorem dX7_feed_2 : decode cX7_feed 2 = .ok (.lconst 1, 1) := by decide +kernel
theorem dX7_feed_3 : decode cX7_feed 3 = .ok (.ldc2_w 65, 3) := by decide +kernel
theorem dX7_feed_6 : decode cX7_feed 6 = .ok (.invokestatic 46, 3) := by decide +kernel
theorem dX7_feed_9 : decode cX7_feed 9 = .ok (.ifCond .ne 10, 3) := by decide +kernel
theorem dX7_feed_12 : decode cX7_feed 12 = .ok (.aload_n 0, 1) := by decide +kernel
theorem dX7_feed_13 : decode cX7_feed 13 = .ok (.ldc 40, 2) := by decide +kernel
theorem dX7_feed_15 : decode cX7_feed 15 = .ok (.invokevirtual 42, 3) := by decide +kernel
theorem dX7_feed_18 : decode cX7_feed 18 = .ok (.ireturn, 1) := by decide +kernel
theorem dX7_feed_19 : decode cX7_feed 19 = .ok (.aload_n 0, 1) := by decide +kernel
theorem dX7_feed_20 : decode cX7_feed 20 = .ok (.getfield 67, 3) := by decide +kernel
theorem dX7_feed_23 : decode cX7_feed 23 = .ok (.iload_n 2, 1) := by decide +kernel
theorem dX7_feed_24 : decode cX7_feed 24 = .ok (.iadd, 1) := by decide +kernel
theorem dX7_feed_25 : decode cX7_feed 25 = .ok (.bipush 120, 2) := by decide +kernel
theorem dX7_feed_27 : decode cX7_feed 27 = .ok (.if_icmp .le 10, 3) := by decide +kernel
theorem dX7_feed_30 : decode cX7_feed 30 = .ok (.aload_n 0, 1) := by decide +kernel
theorem dX7_feed_31 : decode cX7_feed 31 = .ok (.ldc 71, 2) := by decide +kernel
theorem dX7_feed_33 : decode cX7_feed 33 = .ok (.invokevirtual 42, 3) := by decide +kernel
theorem dX7_feed_36 : decode cX7_feed 36 = .ok (.ireturn, 1) := by decide +kernel
theorem dX7_feed_37 : decode cX7_feed 37 = .ok (.iload_n 2, 1) := by decide +kernel
theorem dX7_feed_38 : decode cX7_feed 38 = .ok (.iconst 1, 1) := by decide +kernel
theorem dX7_feed_39 : decode cX7_feed 39 = .ok (.isub, 1) := by decide +kernel
theorem dX7_feed_40 : decode cX7_feed 40 = .ok (.istore_n 3, 1) := by decide +kernel
theorem dX7_feed_41 : decode cX7_feed 41 = .ok (.iload_n 3, 1) := by decide +kernel
theorem dX7_feed_42 : decode cX7_feed 42 = .ok (.ifCond .lt 38, 3) := by decide +kernel
theorem dX7_feed_45 : decode cX7_feed 45 = .ok (.aload_n 0, 1) := by decide +kernel
theorem dX7_feed_46 : decode cX7_feed 46 = .ok (.getfield 19, 3) := by decide +kernel
theorem dX7_feed_49 : decode cX7_feed 49 = .ok (.aload_n 0, 1) := by decide +kernel
theorem dX7_feed_50 : decode cX7_feed 50 = .ok (.getfield 67, 3) := by decide +kernel
theorem dX7_feed_53 : decode cX7_feed 53 = .ok (.iload_n 1, 1) := by decide +kernel
theorem dX7_feed_54 : decode cX7_feed 54 = .ok (.bipush 8, 2) := by decide +kernel
theorem dX7_feed_56 : decode cX7_feed 56 = .ok (.iload_n 3, 1) := by decide +kernel
theorem dX7_feed_57 : decode cX7_feed 57 = .ok (.imul, 1) := by decide +kernel
theorem dX7_feed_58 : decode cX7_feed 58 = .ok (.ishr, 1) := by decide +kernel
theorem dX7_feed_59 : decode cX7_feed 59 = .ok (.sipush 255, 3) := by decide +kernel
theorem dX7_feed_62 : decode cX7_feed 62 = .ok (.iand, 1) := by decide +kernel
theorem dX7_feed_63 : decode cX7_feed 63 = .ok (.iastore, 1) := by decide +kernel
theorem dX7_feed_64 : decode cX7_feed 64 = .ok (.aload_n 0, 1) := by decide +kernel
theorem dX7_feed_65 : decode cX7_feed 65 = .ok (.dup, 1) := by decide +kernel
theorem dX7_feed_66 : decode cX7_feed 66 = .ok (.getfield 67, 3) := by decide +kernel
theorem dX7_feed_69 : decode cX7_feed 69 = .ok (.iconst 1, 1) := by decide +kernel
theorem dX7_feed_70 : decode cX7_feed 70 = .ok (.iadd, 1) := by decide +kernel
theorem dX7_feed_71 : decode cX7_feed 71 = .ok (.putfield 67, 3) := by decide +kernel
theorem dX7_feed_74 : decode cX7_feed 74 = .ok (.iinc 3 (-1), 3) := by decide +kernel
theorem dX7_feed_77 : decode cX7_feed 77 = .ok (.goto (-36), 3) := by decide +kernel
theorem dX7_feed_80 : decode cX7_feed 80 = .ok (.aload_n 0, 1) := by decide +kernel
theorem dX7_feed_81 : decode cX7_feed 81 = .ok (.getfield 67, 3) := by decide +kernel
theorem dX7_feed_84 : decode cX7_feed 84 = .ok (.ireturn, 1) := by decide +kernel
theorem dX7_wipe_0 : decode cX7_wipe 0 = .ok (.aload_n 0, 1) := by decide +kernel
theorem dX7_wipe_1 : decode cX7_wipe 1 = .ok (.getfield 67, 3) := by decide +kernel
theorem dX7_wipe_4 : decode cX7_wipe 4 = .ok (.istore_n 1, 1) := by decide +kernel
theorem dX7_wipe_5 : decode cX7_wipe 5 = .ok (.aload_n 0, 1) := by decide +kernel
theorem dX7_wipe_6 : decode cX7_wipe 6 = .ok (.iconst 0, 1) := by decide +kernel
theorem dX7_wipe_7 : decode cX7_wipe 7 = .ok (.putfield 67, 3) := by decide +kernel
theorem dX7_wipe_10 : decode cX7_wipe 10 = .ok (.iload_n 1, 1) := by decide +kernel
theorem dX7_wipe_11 : decode cX7_wipe 11 = .ok (.ireturn, 1) := by decide +kernel
theorem dX7_isByte_0 : decode cX7_isByte 0 = .ok (.iload_n 1, 1) := by decide +kernel
theorem dX7_isByte_1 : decode cX7_isByte 1 = .ok (.aload_n 0, 1) := by decide +kernel
theorem dX7_isByte_2 : decode cX7_isByte 2 = .ok (.getfield 67, 3) := by decide +kernel
theorem dX7_isByte_5 : decode cX7_isByte 5 = .ok (.if_icmp .ge 24, 3) := by decide +kernel
theorem dX7_isByte_8 : decode cX7_isByte 8 = .ok (.aload_n 0, 1) := by decide +kernel
theorem dX7_isByte_9 : decode cX7_isByte 9 = .ok (.getfield 19, 3) := by decide +kernel
theorem dX7_isByte_12 : decode cX7_isByte 12 = .ok (.iload_n 1, 1) := by decide +kernel
theorem dX7_isByte_13 : decode cX7_isByte 13 = .ok (.iaload, 1) := by decide +kernel
theorem dX7_isByte_14 : decode cX7_isByte 14 = .ok (.i2l, 1) := by decide +kernel
theorem dX7_isByte_15 : decode cX7_isByte 15 = .ok (.iload_n 2, 1) := by decide +kernel
theorem dX7_isByte_16 : decode cX7_isByte 16 = .ok (.i2l, 1) := by decide +kernel
theorem dX7_isByte_17 : decode cX7_isByte 17 = .ok (.iload_n 3, 1) := by decide +kernel
theorem dX7_isByte_18 : decode cX7_isByte 18 = .ok (.i2l, 1) := by decide +kernel
theorem dX7_isByte_19 : decode cX7_isByte 19 = .ok (.invokestatic 46, 3) := by decide +kernel
theorem dX7_isByte_22 : decode cX7_isByte 22 = .ok (.ifCond .eq 7, 3) := by decide +kernel
theorem dX7_isByte_25 : decode cX7_isByte 25 = .ok (.iconst 1, 1) := by decide +kernel
theorem dX7_isByte_26 : decode cX7_isByte 26 = .ok (.goto 4, 3) := by decide +kernel
theorem dX7_isByte_29 : decode cX7_isByte 29 = .ok (.iconst 0, 1) := by decide +kernel
theorem dX7_isByte_30 : decode cX7_isByte 30 = .ok (.ireturn, 1) := by decide +kernel
theorem dX7_token_0 : decode cX7_token 0 = .ok (.aload_n 0, 1) := by decide +kernel
theorem dX7_token_1 : decode cX7_token 1 = .ok (.aload_n 0, 1) := by decide +kernel
theorem dX7_token_2 : decode cX7_token 2 = .ok (.getfield 72, 3) := by decide +kernel
theorem dX7_token_5 : decode cX7_token 5 = .ok (.putfield 75, 3) := by decide +kernel
theorem dX7_token_8 : decode cX7_token 8 = .ok (.aload_n 0, 1) := by decide +kernel
theorem dX7_token_9 : decode cX7_token 9 = .ok (.aload_n 0, 1) := by decide +kernel
theorem dX7_token_10 : decode cX7_token 10 = .ok (.getfield 75, 3) := by decide +kernel
theorem dX7_token_13 : decode cX7_token 13 = .ok (.bipush 32, 2) := by decide +kernel
theorem dX7_token_15 : decode cX7_token 15 = .ok (.bipush 32, 2) := by decide +kernel
theorem dX7_token_17 : decode cX7_token 17 = .ok (.invokevirtual 78, 3) := by decide +kernel
theorem dX7_token_20 : decode cX7_token 20 = .ok (.ifCond .eq 16, 3) := by decide +kernel
theorem dX7_token_23 : decode cX7_token 23 = .ok (.aload_n 0, 1) := by decide +kernel
theorem dX7_token_24 : decode cX7_token 24 = .ok (.dup, 1) := by decide +kernel
theorem dX7_token_25 : decode cX7_token 25 = .ok (.getfield 75, 3) := by decide +kernel
theorem dX7_token_28 : decode cX7_token 28 = .ok (.iconst 1, 1) := by decide +kernel
theorem dX7_token_29 : decode cX7_token 29 = .ok (.iadd, 1) := by decide +kernel
theorem dX7_token_30 : decode cX7_token 30 = .ok (.putfield 75, 3) := by decide +kernel
theorem dX7_token_33 : decode cX7_token 33 = .ok (.goto (-25), 3) := by decide +kernel
theorem dX7_token_36 : decode cX7_token 36 = .ok (.aload_n 0, 1) := by decide +kernel
theorem dX7_token_37 : decode cX7_token 37 = .ok (.aload_n 0, 1) := by decide +kernel
theorem dX7_token_38 : decode cX7_token 38 = .ok (.getfield 75, 3) := by decide +kernel
theorem dX7_token_41 : decode cX7_token 41 = .ok (.putfield 72, 3) := by decide +kernel
theorem dX7_token_44 : decode cX7_token 44 = .ok (.aload_n 0, 1) := by decide +kernel
theorem dX7_token_45 : decode cX7_token 45 = .ok (.iconst 0, 1) := by decide +kernel
theorem dX7_token_46 : decode cX7_token 46 = .ok (.putfield 82, 3) := by decide +kernel
theorem dX7_token_49 : decode cX7_token 49 = .ok (.aload_n 0, 1) := by decide +kernel
theorem dX7_token_50 : decode cX7_token 50 = .ok (.aload_n 0, 1) := by decide +kernel
theorem dX7_token_51 : decode cX7_token 51 = .ok (.getfield 75, 3) := by decide +kernel
theorem dX7_token_54 : decode cX7_token 54 = .ok (.aload_n 0, 1) := by decide +kernel
theorem dX7_token_55 : decode cX7_token 55 = .ok (.getfield 67, 3) := by decide +kernel
theorem dX7_token_58 : decode cX7_token 58 = .ok (.if_icmp .ne 7, 3) := by decide +kernel
theorem dX7_token_61 : decode cX7_token 61 = .ok (.iconst 0, 1) := by decide +kernel
theorem dX7_token_62 : decode cX7_token 62 = .ok (.goto 42, 3) := by decide +kernel
theorem dX7_token_65 : decode cX7_token 65 = .ok (.aload_n 0, 1) := by decide +kernel
theorem dX7_token_66 : decode cX7_token 66 = .ok (.aload_n 0, 1) := by decide +kernel
theorem dX7_token_67 : decode cX7_token 67 = .ok (.getfield 75, 3) := by decide +kernel
theorem dX7_token_70 : decode cX7_token 70 = .ok (.bipush 97, 2) := by decide +kernel
theorem dX7_token_72 : decode cX7_token 72 = .ok (.bipush 122, 2) := by decide +kernel
theorem dX7_token_74 : decode cX7_token 74 = .ok (.invokevirtual 78, 3) := by decide +kernel
theorem dX7_token_77 : decode cX7_token 77 = .ok (.ifCond .eq 7, 3) := by decide +kernel
theorem dX7_token_80 : decode cX7_token 80 = .ok (.iconst 1, 1) := by decide +kernel
theorem dX7_token_81 : decode cX7_token 81 = .ok (.goto 23, 3) := by decide +kernel
theorem dX7_token_84 : decode cX7_token 84 = .ok (.aload_n 0, 1) := by decide +kernel
theorem dX7_token_85 : decode cX7_token 85 = .ok (.aload_n 0, 1) := by decide +kernel
theorem dX7_token_86 : decode cX7_token 86 = .ok (.getfield 75, 3) := by decide +kernel
theorem dX7_token_89 : decode cX7_token 89 = .ok (.bipush 48, 2) := by decide +kernel
theorem dX7_token_91 : decode cX7_token 91 = .ok (.bipush 57, 2) := by decide +kernel
theorem dX7_token_93 : decode cX7_token 93 = .ok (.invokevirtual 78, 3) := by decide +kernel
theorem dX7_token_96 : decode cX7_token 96 = .ok (.ifCond .eq 7, 3) := by decide +kernel
theorem dX7_token_99 : decode cX7_token 99 = .ok (.iconst 2, 1) := by decide +kernel
theorem dX7_token_100 : decode cX7_token 100 = .ok (.goto 4, 3) := by decide +kernel
theorem dX7_token_103 : decode cX7_token 103 = .ok (.iconst 3, 1) := by decide +kernel
theorem dX7_token_104 : decode cX7_token 104 = .ok (.putfield 85, 3) := by decide +kernel
theorem dX7_token_107 : decode cX7_token 107 = .ok (.aload_n 0, 1) := by decide +kernel
theorem dX7_token_108 : decode cX7_token 108 = .ok (.getfield 85, 3) := by decide +kernel
theorem dX7_token_111 : decode cX7_token 111 = .ok (.iconst 3, 1) := by decide +kernel
theorem dX7_token_112 : decode cX7_token 112 = .ok (.if_icmp .ne 13, 3) := by decide +kernel
theorem dX7_token_115 : decode cX7_token 115 = .ok (.aload_n 0, 1) := by decide +kernel
theorem dX7_token_116 : decode cX7_token 116 = .ok (.dup, 1) := by decide +kernel
theorem dX7_token_117 : decode cX7_token 117 = .ok (.getfield 72, 3) := by decide +kernel
theorem dX7_token_120 : decode cX7_token 120 = .ok (.iconst 1, 1) := by decide +kernel
theorem dX7_token_121 : decode cX7_token 121 = .ok (.iadd, 1) := by decide +kernel
theorem dX7_token_122 : decode cX7_token 122 = .ok (.putfield 72, 3) := by decide +kernel
theorem dX7_token_125 : decode cX7_token 125 = .ok (.aload_n 0, 1) := by decide +kernel
theorem dX7_token_126 : decode cX7_token 126 = .ok (.getfield 85, 3) := by decide +kernel
theorem dX7_token_129 : decode cX7_token 129 = .ok (.iconst 1, 1) := by decide +kernel
theorem dX7_token_130 : decode cX7_token 130 = .ok (.if_icmp .ne 31, 3) := by decide +kernel
theorem dX7_token_133 : decode cX7_token 133 = .ok (.aload_n 0, 1) := by decide +kernel
theorem dX7_token_134 : decode cX7_token 134 = .ok (.aload_n 0, 1) := by decide +kernel
theorem dX7_token_135 : decode cX7_token 135 = .ok (.getfield 72, 3) := by decide +kernel
theorem dX7_token_138 : decode cX7_token 138 = .ok (.bipush 97, 2) := by decide +kernel
theorem dX7_token_140 : decode cX7_token 140 = .ok (.bipush 122, 2) := by decide +kernel
theorem dX7_token_142 : decode cX7_token 142 = .ok (.invokevirtual 78, 3) := by decide +kernel
theorem dX7_token_145 : decode cX7_token 145 = .ok (.ifCond .eq 16, 3) := by decide +kernel
theorem dX7_token_148 : decode cX7_token 148 = .ok (.aload_n 0, 1) := by decide +kernel
theorem dX7_token_149 : decode cX7_token 149 = .ok (.dup, 1) := by decide +kernel
theorem dX7_token_150 : decode cX7_token 150 = .ok (.getfield 72, 3) := by decide +kernel
theorem dX7_token_153 : decode cX7_token 153 = .ok (.iconst 1, 1) := by decide +kernel
theorem dX7_token_154 : decode cX7_token 154 = .ok (.iadd, 1) := by decide +kernel
theorem dX7_token_155 : decode cX7_token 155 = .ok (.putfield 72, 3) := by decide +kernel
theorem dX7_token_158 : decode cX7_token 158 = .ok (.goto (-33), 3) := by decide +kernel
theorem dX7_token_161 : decode cX7_token 161 = .ok (.aload_n 0, 1) := by decide +kernel
theorem dX7_token_162 : decode cX7_token 162 = .ok (.getfield 85, 3) := by decide +kernel
theorem dX7_token_165 : decode cX7_token 165 = .ok (.iconst 2, 1) := by decide +kernel
theorem dX7_token_166 : decode cX7_token 166 = .ok (.if_icmp .ne 72, 3) := by decide +kernel
theorem dX7_token_169 : decode cX7_token 169 = .ok (.aload_n 0, 1) := by decide +kernel
theorem dX7_token_170 : decode cX7_token 170 = .ok (.aload_n 0, 1) := by decide +kernel
theorem dX7_token_171 : decode cX7_token 171 = .ok (.getfield 72, 3) := by decide +kernel
theorem dX7_token_174 : decode cX7_token 174 = .ok (.bipush 48, 2) := by decide +kernel
theorem dX7_token_176 : decode cX7_token 176 = .ok (.bipush 57, 2) := by decide +kernel
theorem dX7_token_178 : decode cX7_token 178 = .ok (.invokevirtual 78, 3) := by decide +kernel
theorem dX7_token_181 : decode cX7_token 181 = .ok (.ifCond .eq 57, 3) := by decide +kernel
theorem dX7_token_184 : decode cX7_token 184 = .ok (.aload_n 0, 1) := by decide +kernel
theorem dX7_token_185 : decode cX7_token 185 = .ok (.aload_n 0, 1) := by decide +kernel
theorem dX7_token_186 : decode cX7_token 186 = .ok (.getfield 82, 3) := by decide +kernel
theorem dX7_token_189 : decode cX7_token 189 = .ok (.sipush 999, 3) := by decide +kernel
theorem dX7_token_192 : decode cX7_token 192 = .ok (.if_icmp .le 10, 3) := by decide +kernel
theorem dX7_token_195 : decode cX7_token 195 = .ok (.aload_n 0, 1) := by decide +kernel
theorem dX7_token_196 : decode cX7_token 196 = .ok (.getfield 82, 3) := by decide +kernel
theorem dX7_token_199 : decode cX7_token 199 = .ok (.goto 23, 3) := by decide +kernel
theorem dX7_token_202 : decode cX7_token 202 = .ok (.bipush 10, 2) := by decide +kernel
theorem dX7_token_204 : decode cX7_token 204 = .ok (.aload_n 0, 1) := by decide +kernel
theorem dX7_token_205 : decode cX7_token 205 = .ok (.getfield 82, 3) := by decide +kernel
theorem dX7_token_208 : decode cX7_token 208 = .ok (.imul, 1) := by decide +kernel
theorem dX7_token_209 : decode cX7_token 209 = .ok (.aload_n 0, 1) := by decide +kernel
theorem dX7_token_210 : decode cX7_token 210 = .ok (.getfield 19, 3) := by decide +kernel
theorem dX7_token_213 : decode cX7_token 213 = .ok (.aload_n 0, 1) := by decide +kernel
theorem dX7_token_214 : decode cX7_token 214 = .ok (.getfield 72, 3) := by decide +kernel
theorem dX7_token_217 : decode cX7_token 217 = .ok (.iaload, 1) := by decide +kernel
theorem dX7_token_218 : decode cX7_token 218 = .ok (.iadd, 1) := by decide +kernel
theorem dX7_token_219 : decode cX7_token 219 = .ok (.bipush 48, 2) := by decide +kernel
theorem dX7_token_221 : decode cX7_token 221 = .ok (.isub, 1) := by decide +kernel
theorem dX7_token_222 : decode cX7_token 222 = .ok (.putfield 82, 3) := by decide +kernel
theorem dX7_token_225 : decode cX7_token 225 = .ok (.aload_n 0, 1) := by decide +kernel
theorem dX7_token_226 : decode cX7_token 226 = .ok (.dup, 1) := by decide +kernel
theorem dX7_token_227 : decode cX7_token 227 = .ok (.getfield 72, 3) := by decide +kernel
theorem dX7_token_230 : decode cX7_token 230 = .ok (.iconst 1, 1) := by decide +kernel
theorem dX7_token_231 : decode cX7_token 231 = .ok (.iadd, 1) := by decide +kernel
theorem dX7_token_232 : decode cX7_token 232 = .ok (.putfield 72, 3) := by decide +kernel
theorem dX7_token_235 : decode cX7_token 235 = .ok (.goto (-74), 3) := by decide +kernel
theorem dX7_token_238 : decode cX7_token 238 = .ok (.return_, 1) := by decide +kernel
theorem dX7_isWord_0 : decode cX7_isWord 0 = .ok (.aload_n 0, 1) := by decide +kernel
theorem dX7_isWord_1 : decode cX7_isWord 1 = .ok (.getfield 88, 3) := by decide +kernel
theorem dX7_isWord_4 : decode cX7_isWord 4 = .ok (.ifCond .ne 31, 3) := by decide +kernel
theorem dX7_isWord_7 : decode cX7_isWord 7 = .ok (.aload_n 0, 1) := by decide +kernel
theorem dX7_isWord_8 : decode cX7_isWord 8 = .ok (.getfield 85, 3) := by decide +kernel
theorem dX7_isWord_11 : decode cX7_isWord 11 = .ok (.iconst 1, 1) := by decide +kernel
theorem dX7_isWord_12 : decode cX7_isWord 12 = .ok (.if_icmp .ne 23, 3) := by decide +kernel
theorem dX7_isWord_15 : decode cX7_isWord 15 = .ok (.aload_n 0, 1) := by decide +kernel
theorem dX7_isWord_16 : decode cX7_isWord 16 = .ok (.getfield 72, 3) := by decide +kernel
theorem dX7_isWord_19 : decode cX7_isWord 19 = .ok (.aload_n 0, 1) := by decide +kernel
theorem dX7_isWord_20 : decode cX7_isWord 20 = .ok (.getfield 75, 3) := by decide +kernel
theorem dX7_isWord_23 : decode cX7_isWord 23 = .ok (.isub, 1) := by decide +kernel
theorem dX7_isWord_24 : decode cX7_isWord 24 = .ok (.aload_n 1, 1) := by decide +kernel
theorem dX7_isWord_25 : decode cX7_isWord 25 = .ok (.invokevirtual 92, 3) := by decide +kernel
theorem dX7_isWord_28 : decode cX7_isWord 28 = .ok (.if_icmp .ne 7, 3) := by decide +kernel
theorem dX7_isWord_31 : decode cX7_isWord 31 = .ok (.iconst 1, 1) := by decide +kernel
theorem dX7_isWord_32 : decode cX7_isWord 32 = .ok (.goto 4, 3) := by decide +kernel
theorem dX7_isWord_35 : decode cX7_isWord 35 = .ok (.iconst 0, 1) := by decide +kernel
theorem dX7_isWord_36 : decode cX7_isWord 36 = .ok (.istore_n 2, 1) := by decide +kernel
theorem dX7_isWord_37 : decode cX7_isWord 37 = .ok (.iconst 0, 1) := by decide +kernel
theorem dX7_isWord_38 : decode cX7_isWord 38 = .ok (.istore_n 3, 1) := by decide +kernel
theorem dX7_isWord_39 : decode cX7_isWord 39 = .ok (.iload_n 2, 1) := by decide +kernel
theorem dX7_isWord_40 : decode cX7_isWord 40 = .ok (.ifCond .eq 42, 3) := by decide +kernel
theorem dX7_isWord_43 : decode cX7_isWord 43 = .ok (.iload_n 3, 1) := by decide +kernel
theorem dX7_isWord_44 : decode cX7_isWord 44 = .ok (.aload_n 1, 1) := by decide +kernel
theorem dX7_isWord_45 : decode cX7_isWord 45 = .ok (.invokevirtual 92, 3) := by decide +kernel
theorem dX7_isWord_48 : decode cX7_isWord 48 = .ok (.if_icmp .ge 34, 3) := by decide +kernel
theorem dX7_isWord_51 : decode cX7_isWord 51 = .ok (.aload_n 0, 1) := by decide +kernel
theorem dX7_isWord_52 : decode cX7_isWord 52 = .ok (.getfield 19, 3) := by decide +kernel
theorem dX7_isWord_55 : decode cX7_isWord 55 = .ok (.aload_n 0, 1) := by decide +kernel
theorem dX7_isWord_56 : decode cX7_isWord 56 = .ok (.getfield 75, 3) := by decide +kernel
theorem dX7_isWord_59 : decode cX7_isWord 59 = .ok (.iload_n 3, 1) := by decide +kernel
theorem dX7_isWord_60 : decode cX7_isWord 60 = .ok (.iadd, 1) := by decide +kernel
theorem dX7_isWord_61 : decode cX7_isWord 61 = .ok (.iaload, 1) := by decide +kernel
theorem dX7_isWord_62 : decode cX7_isWord 62 = .ok (.aload_n 1, 1) := by decide +kernel
theorem dX7_isWord_63 : decode cX7_isWord 63 = .ok (.iload_n 3, 1) := by decide +kernel
theorem dX7_isWord_64 : decode cX7_isWord 64 = .ok (.invokevirtual 98, 3) := by decide +kernel
theorem dX7_isWord_67 : decode cX7_isWord 67 = .ok (.if_icmp .ne 7, 3) := by decide +kernel
theorem dX7_isWord_70 : decode cX7_isWord 70 = .ok (.iconst 1, 1) := by decide +kernel
theorem dX7_isWord_71 : decode cX7_isWord 71 = .ok (.goto 4, 3) := by decide +kernel
theorem dX7_isWord_74 : decode cX7_isWord 74 = .ok (.iconst 0, 1) := by decide +kernel
theorem dX7_isWord_75 : decode cX7_isWord 75 = .ok (.istore_n 2, 1) := by decide +kernel
theorem dX7_isWord_76 : decode cX7_isWord 76 = .ok (.iinc 3 1, 3) := by decide +kernel
theorem dX7_isWord_79 : decode cX7_isWord 79 = .ok (.goto (-40), 3) := by decide +kernel
theorem dX7_isWord_82 : decode cX7_isWord 82 = .ok (.iload_n 2, 1) := by decide +kernel
theorem dX7_isWord_83 : decode cX7_isWord 83 = .ok (.ireturn, 1) := by decide +kernel
theorem dX7_takes_0 : decode cX7_takes 0 = .ok (.aload_n 0, 1) := by decide +kernel
theorem dX7_takes_1 : decode cX7_takes 1 = .ok (.aload_n 1, 1) := by decide +kernel
theorem dX7_takes_2 : decode cX7_takes 2 = .ok (.invokevirtual 102, 3) := by decide +kernel
theorem dX7_takes_5 : decode cX7_takes 5 = .ok (.ifCond .ne 5, 3) := by decide +kernel
theorem dX7_takes_8 : decode cX7_takes 8 = .ok (.iconst 0, 1) := by decide +kernel
theorem dX7_takes_9 : decode cX7_takes 9 = .ok (.ireturn, 1) := by decide +kernel
theorem dX7_takes_10 : decode cX7_takes 10 = .ok (.aload_n 0, 1) := by decide +kernel
theorem dX7_takes_11 : decode cX7_takes 11 = .ok (.invokevirtual 106, 3) := by decide +kernel
theorem dX7_takes_14 : decode cX7_takes 14 = .ok (.iconst 1, 1) := by decide +kernel
theorem dX7_takes_15 : decode cX7_takes 15 = .ok (.ireturn, 1) := by decide +kernel
theorem dX7_isSign_0 : decode cX7_isSign 0 = .ok (.aload_n 0, 1) := by decide +kernel
theorem dX7_isSign_1 : decode cX7_isSign 1 = .ok (.getfield 88, 3) := by decide +kernel
theorem dX7_isSign_4 : decode cX7_isSign 4 = .ok (.ifCond .ne 28, 3) := by decide +kernel
theorem dX7_isSign_7 : decode cX7_isSign 7 = .ok (.aload_n 0, 1) := by decide +kernel
theorem dX7_isSign_8 : decode cX7_isSign 8 = .ok (.getfield 85, 3) := by decide +kernel
theorem dX7_isSign_11 : decode cX7_isSign 11 = .ok (.iconst 3, 1) := by decide +kernel
theorem dX7_isSign_12 : decode cX7_isSign 12 = .ok (.if_icmp .ne 20, 3) := by decide +kernel
theorem dX7_isSign_15 : decode cX7_isSign 15 = .ok (.aload_n 0, 1) := by decide +kernel
theorem dX7_isSign_16 : decode cX7_isSign 16 = .ok (.getfield 19, 3) := by decide +kernel
theorem dX7_isSign_19 : decode cX7_isSign 19 = .ok (.aload_n 0, 1) := by decide +kernel
theorem dX7_isSign_20 : decode cX7_isSign 20 = .ok (.getfield 75, 3) := by decide +kernel
theorem dX7_isSign_23 : decode cX7_isSign 23 = .ok (.iaload, 1) := by decide +kernel
theorem dX7_isSign_24 : decode cX7_isSign 24 = .ok (.iload_n 1, 1) := by decide +kernel
theorem dX7_isSign_25 : decode cX7_isSign 25 = .ok (.if_icmp .ne 7, 3) := by decide +kernel
theorem dX7_isSign_28 : decode cX7_isSign 28 = .ok (.iconst 1, 1) := by decide +kernel
theorem dX7_isSign_29 : decode cX7_isSign 29 = .ok (.goto 4, 3) := by decide +kernel
theorem dX7_isSign_32 : decode cX7_isSign 32 = .ok (.iconst 0, 1) := by decide +kernel
theorem dX7_isSign_33 : decode cX7_isSign 33 = .ok (.ireturn, 1) := by decide +kernel
theorem dX7_number_0 : decode cX7_number 0 = .ok (.aload_n 0, 1) := by decide +kernel
theorem dX7_number_1 : decode cX7_number 1 = .ok (.aload_n 0, 1) := by decide +kernel
theorem dX7_number_2 : decode cX7_number 2 = .ok (.getfield 88, 3) := by decide +kernel
theorem dX7_number_5 : decode cX7_number 5 = .ok (.ifCond .ne 26, 3) := by decide +kernel
theorem dX7_number_8 : decode cX7_number 8 = .ok (.aload_n 0, 1) := by decide +kernel
theorem dX7_number_9 : decode cX7_number 9 = .ok (.getfield 85, 3) := by decide +kernel
theorem dX7_number_12 : decode cX7_number 12 = .ok (.iconst 2, 1) := by decide +kernel
theorem dX7_number_13 : decode cX7_number 13 = .ok (.if_icmp .ne 18, 3) := by decide +kernel
theorem dX7_number_16 : decode cX7_number 16 = .ok (.aload_n 0, 1) := by decide +kernel
theorem dX7_number_17 : decode cX7_number 17 = .ok (.getfield 82, 3) := by decide +kernel
theorem dX7_number_20 : decode cX7_number 20 = .ok (.i2l, 1) := by decide +kernel
theorem dX7_number_21 : decode cX7_number 21 = .ok (.iload_n 1, 1) := by decide +kernel
theorem dX7_number_22 : decode cX7_number 22 = .ok (.i2l, 1) := by decide +kernel
theorem dX7_number_23 : decode cX7_number 23 = .ok (.iload_n 2, 1) := by decide +kernel
theorem dX7_number_24 : decode cX7_number 24 = .ok (.i2l, 1) := by decide +kernel
theorem dX7_number_25 : decode cX7_number 25 = .ok (.invokestatic 46, 3) := by decide +kernel
theorem dX7_number_28 : decode cX7_number 28 = .ok (.ifCond .ne 7, 3) := by decide +kernel
theorem dX7_number_31 : decode cX7_number 31 = .ok (.iconst 1, 1) := by decide +kernel
theorem dX7_number_32 : decode cX7_number 32 = .ok (.goto 4, 3) := by decide +kernel
theorem dX7_number_35 : decode cX7_number 35 = .ok (.iconst 0, 1) := by decide +kernel
theorem dX7_number_36 : decode cX7_number 36 = .ok (.putfield 88, 3) := by decide +kernel
theorem dX7_number_39 : decode cX7_number 39 = .ok (.aload_n 0, 1) := by decide +kernel
theorem dX7_number_40 : decode cX7_number 40 = .ok (.getfield 82, 3) := by decide +kernel
theorem dX7_number_43 : decode cX7_number 43 = .ok (.istore_n 3, 1) := by decide +kernel
theorem dX7_number_44 : decode cX7_number 44 = .ok (.aload_n 0, 1) := by decide +kernel
theorem dX7_number_45 : decode cX7_number 45 = .ok (.getfield 88, 3) := by decide +kernel
theorem dX7_number_48 : decode cX7_number 48 = .ok (.ifCond .ne 7, 3) := by decide +kernel
theorem dX7_number_51 : decode cX7_number 51 = .ok (.aload_n 0, 1) := by decide +kernel
theorem dX7_number_52 : decode cX7_number 52 = .ok (.invokevirtual 106, 3) := by decide +kernel
theorem dX7_number_55 : decode cX7_number 55 = .ok (.iload_n 3, 1) := by decide +kernel
theorem dX7_number_56 : decode cX7_number 56 = .ok (.ireturn, 1) := by decide +kernel
theorem dX7_word_0 : decode cX7_word 0 = .ok (.aload_n 0, 1) := by decide +kernel
theorem dX7_word_1 : decode cX7_word 1 = .ok (.aload_n 0, 1) := by decide +kernel
theorem dX7_word_2 : decode cX7_word 2 = .ok (.getfield 88, 3) := by decide +kernel
theorem dX7_word_5 : decode cX7_word 5 = .ok (.ifCond .ne 11, 3) := by decide +kernel
theorem dX7_word_8 : decode cX7_word 8 = .ok (.aload_n 0, 1) := by decide +kernel
theorem dX7_word_9 : decode cX7_word 9 = .ok (.aload_n 1, 1) := by decide +kernel
theorem dX7_word_10 : decode cX7_word 10 = .ok (.invokevirtual 102, 3) := by decide +kernel
theorem dX7_word_13 : decode cX7_word 13 = .ok (.ifCond .ne 7, 3) := by decide +kernel
theorem dX7_word_16 : decode cX7_word 16 = .ok (.iconst 1, 1) := by decide +kernel
theorem dX7_word_17 : decode cX7_word 17 = .ok (.goto 4, 3) := by decide +kernel
theorem dX7_word_20 : decode cX7_word 20 = .ok (.iconst 0, 1) := by decide +kernel
theorem dX7_word_21 : decode cX7_word 21 = .ok (.putfield 88, 3) := by decide +kernel
theorem dX7_word_24 : decode cX7_word 24 = .ok (.aload_n 0, 1) := by decide +kernel
theorem dX7_word_25 : decode cX7_word 25 = .ok (.getfield 88, 3) := by decide +kernel
theorem dX7_word_28 : decode cX7_word 28 = .ok (.ifCond .ne 7, 3) := by decide +kernel
theorem dX7_word_31 : decode cX7_word 31 = .ok (.aload_n 0, 1) := by decide +kernel
theorem dX7_word_32 : decode cX7_word 32 = .ok (.invokevirtual 106, 3) := by decide +kernel
theorem dX7_word_35 : decode cX7_word 35 = .ok (.return_, 1) := by decide +kernel
theorem dX7_kindHere_0 : decode cX7_kindHere 0 = .ok (.aload_n 0, 1) := by decide +kernel
theorem dX7_kindHere_1 : decode cX7_kindHere 1 = .ok (.ldc 109, 2) := by decide +kernel
theorem dX7_kindHere_3 : decode cX7_kindHere 3 = .ok (.invokevirtual 102, 3) := by decide +kernel
theorem dX7_kindHere_6 : decode cX7_kindHere 6 = .ok (.ifCond .eq 5, 3) := by decide +kernel
theorem dX7_kindHere_9 : decode cX7_kindHere 9 = .ok (.iconst 0, 1) := by decide +kernel
theorem dX7_kindHere_10 : decode cX7_kindHere 10 = .ok (.ireturn, 1) := by decide +kernel
theorem dX7_kindHere_11 : decode cX7_kindHere 11 = .ok (.aload_n 0, 1) := by decide +kernel
theorem dX7_kindHere_12 : decode cX7_kindHere 12 = .ok (.ldc 111, 2) := by decide +kernel
theorem dX7_kindHere_14 : decode cX7_kindHere 14 = .ok (.invokevirtual 102, 3) := by decide +kernel
theorem dX7_kindHere_17 : decode cX7_kindHere 17 = .ok (.ifCond .eq 5, 3) := by decide +kernel
theorem dX7_kindHere_20 : decode cX7_kindHere 20 = .ok (.iconst 1, 1) := by decide +kernel
theorem dX7_kindHere_21 : decode cX7_kindHere 21 = .ok (.ireturn, 1) := by decide +kernel
theorem dX7_kindHere_22 : decode cX7_kindHere 22 = .ok (.aload_n 0, 1) := by decide +kernel
theorem dX7_kindHere_23 : decode cX7_kindHere 23 = .ok (.ldc 113, 2) := by decide +kernel
theorem dX7_kindHere_25 : decode cX7_kindHere 25 = .ok (.invokevirtual 102, 3) := by decide +kernel
theorem dX7_kindHere_28 : decode cX7_kindHere 28 = .ok (.ifCond .eq 5, 3) := by decide +kernel
theorem dX7_kindHere_31 : decode cX7_kindHere 31 = .ok (.iconst 2, 1) := by decide +kernel
theorem dX7_kindHere_32 : decode cX7_kindHere 32 = .ok (.ireturn, 1) := by decide +kernel
theorem dX7_kindHere_33 : decode cX7_kindHere 33 = .ok (.aload_n 0, 1) := by decide +kernel
theorem dX7_kindHere_34 : decode cX7_kindHere 34 = .ok (.ldc 115, 2) := by decide +kernel
theorem dX7_kindHere_36 : decode cX7_kindHere 36 = .ok (.invokevirtual 102, 3) := by decide +kernel
theorem dX7_kindHere_39 : decode cX7_kindHere 39 = .ok (.ifCond .eq 5, 3) := by decide +kernel
theorem dX7_kindHere_42 : decode cX7_kindHere 42 = .ok (.iconst 3, 1) := by decide +kernel
theorem dX7_kindHere_43 : decode cX7_kindHere 43 = .ok (.ireturn, 1) := by decide +kernel
theorem dX7_kindHere_44 : decode cX7_kindHere 44 = .ok (.aload_n 0, 1) := by decide +kernel
theorem dX7_kindHere_45 : decode cX7_kindHere 45 = .ok (.ldc 117, 2) := by decide +kernel
theorem dX7_kindHere_47 : decode cX7_kindHere 47 = .ok (.invokevirtual 102, 3) := by decide +kernel
theorem dX7_kindHere_50 : decode cX7_kindHere 50 = .ok (.ifCond .eq 5, 3) := by decide +kernel
theorem dX7_kindHere_53 : decode cX7_kindHere 53 = .ok (.iconst 4, 1) := by decide +kernel
theorem dX7_kindHere_54 : decode cX7_kindHere 54 = .ok (.ireturn, 1) := by decide +kernel
theorem dX7_kindHere_55 : decode cX7_kindHere 55 = .ok (.aload_n 0, 1) := by decide +kernel
theorem dX7_kindHere_56 : decode cX7_kindHere 56 = .ok (.ldc 119, 2) := by decide +kernel
theorem dX7_kindHere_58 : decode cX7_kindHere 58 = .ok (.invokevirtual 102, 3) := by decide +kernel
theorem dX7_kindHere_61 : decode cX7_kindHere 61 = .ok (.ifCond .eq 7, 3) := by decide +kernel
theorem dX7_kindHere_64 : decode cX7_kindHere 64 = .ok (.iconst 5, 1) := by decide +kernel
theorem dX7_kindHere_65 : decode cX7_kindHere 65 = .ok (.goto 18, 3) := by decide +kernel
theorem dX7_kindHere_68 : decode cX7_kindHere 68 = .ok (.aload_n 0, 1) := by decide +kernel
theorem dX7_kindHere_69 : decode cX7_kindHere 69 = .ok (.ldc 121, 2) := by decide +kernel
theorem dX7_kindHere_71 : decode cX7_kindHere 71 = .ok (.invokevirtual 102, 3) := by decide +kernel
theorem dX7_kindHere_74 : decode cX7_kindHere 74 = .ok (.ifCond .eq 8, 3) := by decide +kernel
theorem dX7_kindHere_77 : decode cX7_kindHere 77 = .ok (.bipush 6, 2) := by decide +kernel
theorem dX7_kindHere_79 : decode cX7_kindHere 79 = .ok (.goto 4, 3) := by decide +kernel
theorem dX7_kindHere_82 : decode cX7_kindHere 82 = .ok (.iconst (-1), 1) := by decide +kernel
theorem dX7_kindHere_83 : decode cX7_kindHere 83 = .ok (.ireturn, 1) := by decide +kernel
theorem dX7_toolItem_0 : decode cX7_toolItem 0 = .ok (.aload_n 0, 1) := by decide +kernel
theorem dX7_toolItem_1 : decode cX7_toolItem 1 = .ok (.aload_n 0, 1) := by decide +kernel
theorem dX7_toolItem_2 : decode cX7_toolItem 2 = .ok (.getfield 9, 3) := by decide +kernel
theorem dX7_toolItem_5 : decode cX7_toolItem 5 = .ok (.iconst 2, 1) := by decide +kernel
theorem dX7_toolItem_6 : decode cX7_toolItem 6 = .ok (.iaload, 1) := by decide +kernel
theorem dX7_toolItem_7 : decode cX7_toolItem 7 = .ok (.bipush 8, 2) := by decide +kernel
theorem dX7_toolItem_9 : decode cX7_toolItem 9 = .ok (.if_icmp .ne 7, 3) := by decide +kernel
theorem dX7_toolItem_12 : decode cX7_toolItem 12 = .ok (.iconst 1, 1) := by decide +kernel
theorem dX7_toolItem_13 : decode cX7_toolItem 13 = .ok (.goto 4, 3) := by decide +kernel
theorem dX7_toolItem_16 : decode cX7_toolItem 16 = .ok (.iconst 0, 1) := by decide +kernel
theorem dX7_toolItem_17 : decode cX7_toolItem 17 = .ok (.putfield 88, 3) := by decide +kernel
theorem dX7_toolItem_20 : decode cX7_toolItem 20 = .ok (.aload_n 0, 1) := by decide +kernel
theorem dX7_toolItem_21 : decode cX7_toolItem 21 = .ok (.getfield 88, 3) := by decide +kernel
theorem dX7_toolItem_24 : decode cX7_toolItem 24 = .ok (.ifCond .eq 4, 3) := by decide +kernel
theorem dX7_toolItem_27 : decode cX7_toolItem 27 = .ok (.return_, 1) := by decide +kernel
theorem dX7_toolItem_28 : decode cX7_toolItem 28 = .ok (.aload_n 0, 1) := by decide +kernel
theorem dX7_toolItem_29 : decode cX7_toolItem 29 = .ok (.invokevirtual 106, 3) := by decide +kernel
theorem dX7_toolItem_32 : decode cX7_toolItem 32 = .ok (.iconst 0, 1) := by decide +kernel
theorem dX7_toolItem_33 : decode cX7_toolItem 33 = .ok (.istore_n 1, 1) := by decide +kernel
theorem dX7_toolItem_34 : decode cX7_toolItem 34 = .ok (.iconst 0, 1) := by decide +kernel
theorem dX7_toolItem_35 : decode cX7_toolItem 35 = .ok (.istore_n 2, 1) := by decide +kernel
theorem dX7_toolItem_36 : decode cX7_toolItem 36 = .ok (.aload_n 0, 1) := by decide +kernel
theorem dX7_toolItem_37 : decode cX7_toolItem 37 = .ok (.getfield 88, 3) := by decide +kernel
theorem dX7_toolItem_40 : decode cX7_toolItem 40 = .ok (.ifCond .ne 43, 3) := by decide +kernel
theorem dX7_toolItem_43 : decode cX7_toolItem 43 = .ok (.aload_n 0, 1) := by decide +kernel
theorem dX7_toolItem_44 : decode cX7_toolItem 44 = .ok (.getfield 85, 3) := by decide +kernel
theorem dX7_toolItem_47 : decode cX7_toolItem 47 = .ok (.iconst 2, 1) := by decide +kernel
theorem dX7_toolItem_48 : decode cX7_toolItem 48 = .ok (.if_icmp .ne 35, 3) := by decide +kernel
theorem dX7_toolItem_51 : decode cX7_toolItem 51 = .ok (.aload_n 0, 1) := by decide +kernel
theorem dX7_toolItem_52 : decode cX7_toolItem 52 = .ok (.iload_n 2, 1) := by decide +kernel
theorem dX7_toolItem_53 : decode cX7_toolItem 53 = .ok (.bipush 11, 2) := by decide +kernel
theorem dX7_toolItem_55 : decode cX7_toolItem 55 = .ok (.invokevirtual 123, 3) := by decide +kernel
theorem dX7_toolItem_58 : decode cX7_toolItem 58 = .ok (.istore_n 3, 1) := by decide +kernel
theorem dX7_toolItem_59 : decode cX7_toolItem 59 = .ok (.iload_n 1, 1) := by decide +kernel
theorem dX7_toolItem_60 : decode cX7_toolItem 60 = .ok (.aload_n 0, 1) := by decide +kernel
theorem dX7_toolItem_61 : decode cX7_toolItem 61 = .ok (.getfield 88, 3) := by decide +kernel
theorem dX7_toolItem_64 : decode cX7_toolItem 64 = .ok (.ifCond .eq 7, 3) := by decide +kernel
theorem dX7_toolItem_67 : decode cX7_toolItem 67 = .ok (.iconst 0, 1) := by decide +kernel
theorem dX7_toolItem_68 : decode cX7_toolItem 68 = .ok (.goto 6, 3) := by decide +kernel
theorem dX7_toolItem_71 : decode cX7_toolItem 71 = .ok (.iconst 1, 1) := by decide +kernel
theorem dX7_toolItem_72 : decode cX7_toolItem 72 = .ok (.iload_n 3, 1) := by decide +kernel
theorem dX7_toolItem_73 : decode cX7_toolItem 73 = .ok (.ishl, 1) := by decide +kernel
theorem dX7_toolItem_74 : decode cX7_toolItem 74 = .ok (.ior, 1) := by decide +kernel
theorem dX7_toolItem_75 : decode cX7_toolItem 75 = .ok (.istore_n 1, 1) := by decide +kernel
theorem dX7_toolItem_76 : decode cX7_toolItem 76 = .ok (.iload_n 3, 1) := by decide +kernel
theorem dX7_toolItem_77 : decode cX7_toolItem 77 = .ok (.iconst 1, 1) := by decide +kernel
theorem dX7_toolItem_78 : decode cX7_toolItem 78 = .ok (.iadd, 1) := by decide +kernel
theorem dX7_toolItem_79 : decode cX7_toolItem 79 = .ok (.istore_n 2, 1) := by decide +kernel
theorem dX7_toolItem_80 : decode cX7_toolItem 80 = .ok (.goto (-44), 3) := by decide +kernel
theorem dX7_toolItem_83 : decode cX7_toolItem 83 = .ok (.aload_n 0, 1) := by decide +kernel
theorem dX7_toolItem_84 : decode cX7_toolItem 84 = .ok (.getfield 9, 3) := by decide +kernel
theorem dX7_toolItem_87 : decode cX7_toolItem 87 = .ok (.bipush 6, 2) := by decide +kernel
theorem dX7_toolItem_89 : decode cX7_toolItem 89 = .ok (.aload_n 0, 1) := by decide +kernel
theorem dX7_toolItem_90 : decode cX7_toolItem 90 = .ok (.getfield 9, 3) := by decide +kernel
theorem dX7_toolItem_93 : decode cX7_toolItem 93 = .ok (.iconst 2, 1) := by decide +kernel
theorem dX7_toolItem_94 : decode cX7_toolItem 94 = .ok (.iaload, 1) := by decide +kernel
theorem dX7_toolItem_95 : decode cX7_toolItem 95 = .ok (.iadd, 1) := by decide +kernel
theorem dX7_toolItem_96 : decode cX7_toolItem 96 = .ok (.iload_n 1, 1) := by decide +kernel
theorem dX7_toolItem_97 : decode cX7_toolItem 97 = .ok (.iastore, 1) := by decide +kernel
theorem dX7_toolItem_98 : decode cX7_toolItem 98 = .ok (.aload_n 0, 1) := by decide +kernel
theorem dX7_toolItem_99 : decode cX7_toolItem 99 = .ok (.getfield 9, 3) := by decide +kernel
theorem dX7_toolItem_102 : decode cX7_toolItem 102 = .ok (.iconst 2, 1) := by decide +kernel
theorem dX7_toolItem_103 : decode cX7_toolItem 103 = .ok (.dup2, 1) := by decide +kernel
theorem dX7_toolItem_104 : decode cX7_toolItem 104 = .ok (.iaload, 1) := by decide +kernel
theorem dX7_toolItem_105 : decode cX7_toolItem 105 = .ok (.iconst 1, 1) := by decide +kernel
theorem dX7_toolItem_106 : decode cX7_toolItem 106 = .ok (.iadd, 1) := by decide +kernel
theorem dX7_toolItem_107 : decode cX7_toolItem 107 = .ok (.iastore, 1) := by decide +kernel
theorem dX7_toolItem_108 : decode cX7_toolItem 108 = .ok (.return_, 1) := by decide +kernel
theorem dX7_thingItem_0 : decode cX7_thingItem 0 = .ok (.aload_n 0, 1) := by decide +kernel
theorem dX7_thingItem_1 : decode cX7_thingItem 1 = .ok (.iload_n 1, 1) := by decide +kernel
theorem dX7_thingItem_2 : decode cX7_thingItem 2 = .ok (.ifCond .lt 14, 3) := by decide +kernel
theorem dX7_thingItem_5 : decode cX7_thingItem 5 = .ok (.aload_n 0, 1) := by decide +kernel
theorem dX7_thingItem_6 : decode cX7_thingItem 6 = .ok (.getfield 9, 3) := by decide +kernel
theorem dX7_thingItem_9 : decode cX7_thingItem 9 = .ok (.iconst 3, 1) := by decide +kernel
theorem dX7_thingItem_10 : decode cX7_thingItem 10 = .ok (.iaload, 1) := by decide +kernel
theorem dX7_thingItem_11 : decode cX7_thingItem 11 = .ok (.bipush 8, 2) := by decide +kernel
theorem dX7_thingItem_13 : decode cX7_thingItem 13 = .ok (.if_icmp .ne 7, 3) := by decide +kernel
theorem dX7_thingItem_16 : decode cX7_thingItem 16 = .ok (.iconst 1, 1) := by decide +kernel
theorem dX7_thingItem_17 : decode cX7_thingItem 17 = .ok (.goto 4, 3) := by decide +kernel
theorem dX7_thingItem_20 : decode cX7_thingItem 20 = .ok (.iconst 0, 1) := by decide +kernel
theorem dX7_thingItem_21 : decode cX7_thingItem 21 = .ok (.putfield 88, 3) := by decide +kernel
theorem dX7_thingItem_24 : decode cX7_thingItem 24 = .ok (.aload_n 0, 1) := by decide +kernel
theorem dX7_thingItem_25 : decode cX7_thingItem 25 = .ok (.getfield 88, 3) := by decide +kernel
theorem dX7_thingItem_28 : decode cX7_thingItem 28 = .ok (.ifCond .eq 4, 3) := by decide +kernel
theorem dX7_thingItem_31 : decode cX7_thingItem 31 = .ok (.return_, 1) := by decide +kernel
theorem dX7_thingItem_32 : decode cX7_thingItem 32 = .ok (.aload_n 0, 1) := by decide +kernel
theorem dX7_thingItem_33 : decode cX7_thingItem 33 = .ok (.invokevirtual 106, 3) := by decide +kernel
theorem dX7_thingItem_36 : decode cX7_thingItem 36 = .ok (.aload_n 0, 1) := by decide +kernel
theorem dX7_thingItem_37 : decode cX7_thingItem 37 = .ok (.getfield 9, 3) := by decide +kernel
theorem dX7_thingItem_40 : decode cX7_thingItem 40 = .ok (.iconst 3, 1) := by decide +kernel
theorem dX7_thingItem_41 : decode cX7_thingItem 41 = .ok (.iaload, 1) := by decide +kernel
theorem dX7_thingItem_42 : decode cX7_thingItem 42 = .ok (.istore_n 2, 1) := by decide +kernel
theorem dX7_thingItem_43 : decode cX7_thingItem 43 = .ok (.iconst 0, 1) := by decide +kernel
theorem dX7_thingItem_44 : decode cX7_thingItem 44 = .ok (.istore_n 3, 1) := by decide +kernel
theorem dX7_thingItem_45 : decode cX7_thingItem 45 = .ok (.iconst 1, 1) := by decide +kernel
theorem dX7_thingItem_46 : decode cX7_thingItem 46 = .ok (.istore 4, 2) := by decide +kernel
theorem dX7_thingItem_48 : decode cX7_thingItem 48 = .ok (.iload 4, 2) := by decide +kernel
theorem dX7_thingItem_50 : decode cX7_thingItem 50 = .ok (.ifCond .eq 119, 3) := by decide +kernel
theorem dX7_thingItem_53 : decode cX7_thingItem 53 = .ok (.aload_n 0, 1) := by decide +kernel
theorem dX7_thingItem_54 : decode cX7_thingItem 54 = .ok (.getfield 9, 3) := by decide +kernel
theorem dX7_thingItem_57 : decode cX7_thingItem 57 = .ok (.iload_n 2, 1) := by decide +kernel
theorem dX7_thingItem_58 : decode cX7_thingItem 58 = .ok (.iload_n 3, 1) := by decide +kernel
theorem dX7_thingItem_59 : decode cX7_thingItem 59 = .ok (.iconst 0, 1) := by decide +kernel
theorem dX7_thingItem_60 : decode cX7_thingItem 60 = .ok (.invokestatic 54, 3) := by decide +kernel
theorem dX7_thingItem_63 : decode cX7_thingItem 63 = .ok (.aload_n 0, 1) := by decide +kernel
theorem dX7_thingItem_64 : decode cX7_thingItem 64 = .ok (.iconst 0, 1) := by decide +kernel
theorem dX7_thingItem_65 : decode cX7_thingItem 65 = .ok (.aload_n 0, 1) := by decide +kernel
theorem dX7_thingItem_66 : decode cX7_thingItem 66 = .ok (.getfield 9, 3) := by decide +kernel
theorem dX7_thingItem_69 : decode cX7_thingItem 69 = .ok (.iconst 2, 1) := by decide +kernel
theorem dX7_thingItem_70 : decode cX7_thingItem 70 = .ok (.iaload, 1) := by decide +kernel
theorem dX7_thingItem_71 : decode cX7_thingItem 71 = .ok (.iconst 1, 1) := by decide +kernel
theorem dX7_thingItem_72 : decode cX7_thingItem 72 = .ok (.isub, 1) := by decide +kernel
theorem dX7_thingItem_73 : decode cX7_thingItem 73 = .ok (.invokevirtual 123, 3) := by decide +kernel
theorem dX7_thingItem_76 : decode cX7_thingItem 76 = .ok (.iastore, 1) := by decide +kernel
theorem dX7_thingItem_77 : decode cX7_thingItem 77 = .ok (.aload_n 0, 1) := by decide +kernel
theorem dX7_thingItem_78 : decode cX7_thingItem 78 = .ok (.getfield 9, 3) := by decide +kernel
theorem dX7_thingItem_81 : decode cX7_thingItem 81 = .ok (.iload_n 2, 1) := by decide +kernel
theorem dX7_thingItem_82 : decode cX7_thingItem 82 = .ok (.iload_n 3, 1) := by decide +kernel
theorem dX7_thingItem_83 : decode cX7_thingItem 83 = .ok (.iconst 1, 1) := by decide +kernel
theorem dX7_thingItem_84 : decode cX7_thingItem 84 = .ok (.invokestatic 54, 3) := by decide +kernel
theorem dX7_thingItem_87 : decode cX7_thingItem 87 = .ok (.aload_n 0, 1) := by decide +kernel
theorem dX7_thingItem_88 : decode cX7_thingItem 88 = .ok (.iconst 1, 1) := by decide +kernel
theorem dX7_thingItem_89 : decode cX7_thingItem 89 = .ok (.bipush 8, 2) := by decide +kernel
theorem dX7_thingItem_91 : decode cX7_thingItem 91 = .ok (.invokevirtual 123, 3) := by decide +kernel
theorem dX7_thingItem_94 : decode cX7_thingItem 94 = .ok (.iastore, 1) := by decide +kernel
theorem dX7_thingItem_95 : decode cX7_thingItem 95 = .ok (.aload_n 0, 1) := by decide +kernel
theorem dX7_thingItem_96 : decode cX7_thingItem 96 = .ok (.getfield 9, 3) := by decide +kernel
theorem dX7_thingItem_99 : decode cX7_thingItem 99 = .ok (.iload_n 2, 1) := by decide +kernel
theorem dX7_thingItem_100 : decode cX7_thingItem 100 = .ok (.iload_n 3, 1) := by decide +kernel
theorem dX7_thingItem_101 : decode cX7_thingItem 101 = .ok (.iconst 2, 1) := by decide +kernel
theorem dX7_thingItem_102 : decode cX7_thingItem 102 = .ok (.invokestatic 54, 3) := by decide +kernel
theorem dX7_thingItem_105 : decode cX7_thingItem 105 = .ok (.aload_n 0, 1) := by decide +kernel
theorem dX7_thingItem_106 : decode cX7_thingItem 106 = .ok (.ldc 126, 2) := by decide +kernel
theorem dX7_thingItem_108 : decode cX7_thingItem 108 = .ok (.invokevirtual 128, 3) := by decide +kernel
theorem dX7_thingItem_111 : decode cX7_thingItem 111 = .ok (.ifCond .eq 13, 3) := by decide +kernel
theorem dX7_thingItem_114 : decode cX7_thingItem 114 = .ok (.aload_n 0, 1) := by decide +kernel
theorem dX7_thingItem_115 : decode cX7_thingItem 115 = .ok (.iconst 0, 1) := by decide +kernel
theorem dX7_thingItem_116 : decode cX7_thingItem 116 = .ok (.bipush 99, 2) := by decide +kernel
theorem dX7_thingItem_118 : decode cX7_thingItem 118 = .ok (.invokevirtual 123, 3) := by decide +kernel
theorem dX7_thingItem_121 : decode cX7_thingItem 121 = .ok (.goto 5, 3) := by decide +kernel
theorem dX7_thingItem_124 : decode cX7_thingItem 124 = .ok (.bipush 99, 2) := by decide +kernel
theorem dX7_thingItem_126 : decode cX7_thingItem 126 = .ok (.iastore, 1) := by decide +kernel
theorem dX7_thingItem_127 : decode cX7_thingItem 127 = .ok (.iinc 3 1, 3) := by decide +kernel
theorem dX7_thingItem_130 : decode cX7_thingItem 130 = .ok (.aload_n 0, 1) := by decide +kernel
theorem dX7_thingItem_131 : decode cX7_thingItem 131 = .ok (.bipush 44, 2) := by decide +kernel
theorem dX7_thingItem_133 : decode cX7_thingItem 133 = .ok (.invokevirtual 131, 3) := by decide +kernel
theorem dX7_thingItem_136 : decode cX7_thingItem 136 = .ok (.istore 4, 2) := by decide +kernel
theorem dX7_thingItem_138 : decode cX7_thingItem 138 = .ok (.iload 4, 2) := by decide +kernel
theorem dX7_thingItem_140 : decode cX7_thingItem 140 = .ok (.ifCond .eq 17, 3) := by decide +kernel
theorem dX7_thingItem_143 : decode cX7_thingItem 143 = .ok (.iload_n 3, 1) := by decide +kernel
theorem dX7_thingItem_144 : decode cX7_thingItem 144 = .ok (.bipush 8, 2) := by decide +kernel
theorem dX7_thingItem_146 : decode cX7_thingItem 146 = .ok (.if_icmp .ne 11, 3) := by decide +kernel
theorem dX7_thingItem_149 : decode cX7_thingItem 149 = .ok (.aload_n 0, 1) := by decide +kernel
theorem dX7_thingItem_150 : decode cX7_thingItem 150 = .ok (.iconst 1, 1) := by decide +kernel
theorem dX7_thingItem_151 : decode cX7_thingItem 151 = .ok (.putfield 88, 3) := by decide +kernel
theorem dX7_thingItem_154 : decode cX7_thingItem 154 = .ok (.iconst 0, 1) := by decide +kernel
theorem dX7_thingItem_155 : decode cX7_thingItem 155 = .ok (.istore 4, 2) := by decide +kernel
theorem dX7_thingItem_157 : decode cX7_thingItem 157 = .ok (.iload 4, 2) := by decide +kernel
theorem dX7_thingItem_159 : decode cX7_thingItem 159 = .ok (.ifCond .eq (-111), 3) := by decide +kernel
theorem dX7_thingItem_162 : decode cX7_thingItem 162 = .ok (.aload_n 0, 1) := by decide +kernel
theorem dX7_thingItem_163 : decode cX7_thingItem 163 = .ok (.invokevirtual 106, 3) := by decide +kernel
theorem dX7_thingItem_166 : decode cX7_thingItem 166 = .ok (.goto (-118), 3) := by decide +kernel
theorem dX7_thingItem_169 : decode cX7_thingItem 169 = .ok (.aload_n 0, 1) := by decide +kernel
theorem dX7_thingItem_170 : decode cX7_thingItem 170 = .ok (.getfield 9, 3) := by decide +kernel
theorem dX7_thingItem_173 : decode cX7_thingItem 173 = .ok (.bipush 14, 2) := by decide +kernel
theorem dX7_thingItem_175 : decode cX7_thingItem 175 = .ok (.bipush 26, 2) := by decide +kernel
theorem dX7_thingItem_177 : decode cX7_thingItem 177 = .ok (.iload_n 2, 1) := by decide +kernel
theorem dX7_thingItem_178 : decode cX7_thingItem 178 = .ok (.imul, 1) := by decide +kernel
theorem dX7_thingItem_179 : decode cX7_thingItem 179 = .ok (.iadd, 1) := by decide +kernel
theorem dX7_thingItem_180 : decode cX7_thingItem 180 = .ok (.iload_n 1, 1) := by decide +kernel
theorem dX7_thingItem_181 : decode cX7_thingItem 181 = .ok (.iastore, 1) := by decide +kernel
theorem dX7_thingItem_182 : decode cX7_thingItem 182 = .ok (.aload_n 0, 1) := by decide +kernel
theorem dX7_thingItem_183 : decode cX7_thingItem 183 = .ok (.getfield 9, 3) := by decide +kernel
theorem dX7_thingItem_186 : decode cX7_thingItem 186 = .ok (.bipush 14, 2) := by decide +kernel
theorem dX7_thingItem_188 : decode cX7_thingItem 188 = .ok (.bipush 26, 2) := by decide +kernel
theorem dX7_thingItem_190 : decode cX7_thingItem 190 = .ok (.iload_n 2, 1) := by decide +kernel
theorem dX7_thingItem_191 : decode cX7_thingItem 191 = .ok (.imul, 1) := by decide +kernel
theorem dX7_thingItem_192 : decode cX7_thingItem 192 = .ok (.iadd, 1) := by decide +kernel
theorem dX7_thingItem_193 : decode cX7_thingItem 193 = .ok (.iconst 1, 1) := by decide +kernel
theorem dX7_thingItem_194 : decode cX7_thingItem 194 = .ok (.iadd, 1) := by decide +kernel
theorem dX7_thingItem_195 : decode cX7_thingItem 195 = .ok (.iload_n 3, 1) := by decide +kernel
theorem dX7_thingItem_196 : decode cX7_thingItem 196 = .ok (.iastore, 1) := by decide +kernel
theorem dX7_thingItem_197 : decode cX7_thingItem 197 = .ok (.aload_n 0, 1) := by decide +kernel
theorem dX7_thingItem_198 : decode cX7_thingItem 198 = .ok (.getfield 9, 3) := by decide +kernel
theorem dX7_thingItem_201 : decode cX7_thingItem 201 = .ok (.iconst 3, 1) := by decide +kernel
theorem dX7_thingItem_202 : decode cX7_thingItem 202 = .ok (.dup2, 1) := by decide +kernel
theorem dX7_thingItem_203 : decode cX7_thingItem 203 = .ok (.iaload, 1) := by decide +kernel
theorem dX7_thingItem_204 : decode cX7_thingItem 204 = .ok (.iconst 1, 1) := by decide +kernel
theorem dX7_thingItem_205 : decode cX7_thingItem 205 = .ok (.iadd, 1) := by decide +kernel
theorem dX7_thingItem_206 : decode cX7_thingItem 206 = .ok (.iastore, 1) := by decide +kernel
theorem dX7_thingItem_207 : decode cX7_thingItem 207 = .ok (.return_, 1) := by decide +kernel
theorem dX7_orderItem_0 : decode cX7_orderItem 0 = .ok (.aload_n 0, 1) := by decide +kernel
theorem dX7_orderItem_1 : decode cX7_orderItem 1 = .ok (.aload_n 0, 1) := by decide +kernel
theorem dX7_orderItem_2 : decode cX7_orderItem 2 = .ok (.getfield 9, 3) := by decide +kernel
theorem dX7_orderItem_5 : decode cX7_orderItem 5 = .ok (.iconst 4, 1) := by decide +kernel
theorem dX7_orderItem_6 : decode cX7_orderItem 6 = .ok (.iaload, 1) := by decide +kernel
theorem dX7_orderItem_7 : decode cX7_orderItem 7 = .ok (.iconst 5, 1) := by decide +kernel
theorem dX7_orderItem_8 : decode cX7_orderItem 8 = .ok (.if_icmp .ne 7, 3) := by decide +kernel
theorem dX7_orderItem_11 : decode cX7_orderItem 11 = .ok (.iconst 1, 1) := by decide +kernel
theorem dX7_orderItem_12 : decode cX7_orderItem 12 = .ok (.goto 4, 3) := by decide +kernel
theorem dX7_orderItem_15 : decode cX7_orderItem 15 = .ok (.iconst 0, 1) := by decide +kernel
theorem dX7_orderItem_16 : decode cX7_orderItem 16 = .ok (.putfield 88, 3) := by decide +kernel
theorem dX7_orderItem_19 : decode cX7_orderItem 19 = .ok (.aload_n 0, 1) := by decide +kernel
theorem dX7_orderItem_20 : decode cX7_orderItem 20 = .ok (.getfield 88, 3) := by decide +kernel
theorem dX7_orderItem_23 : decode cX7_orderItem 23 = .ok (.ifCond .eq 4, 3) := by decide +kernel
theorem dX7_orderItem_26 : decode cX7_orderItem 26 = .ok (.return_, 1) := by decide +kernel
theorem dX7_orderItem_27 : decode cX7_orderItem 27 = .ok (.aload_n 0, 1) := by decide +kernel
theorem dX7_orderItem_28 : decode cX7_orderItem 28 = .ok (.invokevirtual 106, 3) := by decide +kernel
theorem dX7_orderItem_31 : decode cX7_orderItem 31 = .ok (.sipush 222, 3) := by decide +kernel
theorem dX7_orderItem_34 : decode cX7_orderItem 34 = .ok (.iconst 3, 1) := by decide +kernel
theorem dX7_orderItem_35 : decode cX7_orderItem 35 = .ok (.aload_n 0, 1) := by decide +kernel
theorem dX7_orderItem_36 : decode cX7_orderItem 36 = .ok (.getfield 9, 3) := by decide +kernel
theorem dX7_orderItem_39 : decode cX7_orderItem 39 = .ok (.iconst 4, 1) := by decide +kernel
theorem dX7_orderItem_40 : decode cX7_orderItem 40 = .ok (.iaload, 1) := by decide +kernel
theorem dX7_orderItem_41 : decode cX7_orderItem 41 = .ok (.imul, 1) := by decide +kernel
theorem dX7_orderItem_42 : decode cX7_orderItem 42 = .ok (.iadd, 1) := by decide +kernel
theorem dX7_orderItem_43 : decode cX7_orderItem 43 = .ok (.istore_n 1, 1) := by decide +kernel
theorem dX7_orderItem_44 : decode cX7_orderItem 44 = .ok (.aload_n 0, 1) := by decide +kernel
theorem dX7_orderItem_45 : decode cX7_orderItem 45 = .ok (.getfield 9, 3) := by decide +kernel
theorem dX7_orderItem_48 : decode cX7_orderItem 48 = .ok (.iload_n 1, 1) := by decide +kernel
theorem dX7_orderItem_49 : decode cX7_orderItem 49 = .ok (.aload_n 0, 1) := by decide +kernel
theorem dX7_orderItem_50 : decode cX7_orderItem 50 = .ok (.iconst 0, 1) := by decide +kernel
theorem dX7_orderItem_51 : decode cX7_orderItem 51 = .ok (.aload_n 0, 1) := by decide +kernel
theorem dX7_orderItem_52 : decode cX7_orderItem 52 = .ok (.getfield 9, 3) := by decide +kernel
theorem dX7_orderItem_55 : decode cX7_orderItem 55 = .ok (.iconst 3, 1) := by decide +kernel
theorem dX7_orderItem_56 : decode cX7_orderItem 56 = .ok (.iaload, 1) := by decide +kernel
theorem dX7_orderItem_57 : decode cX7_orderItem 57 = .ok (.iconst 1, 1) := by decide +kernel
theorem dX7_orderItem_58 : decode cX7_orderItem 58 = .ok (.isub, 1) := by decide +kernel
theorem dX7_orderItem_59 : decode cX7_orderItem 59 = .ok (.invokevirtual 123, 3) := by decide +kernel
theorem dX7_orderItem_62 : decode cX7_orderItem 62 = .ok (.iastore, 1) := by decide +kernel
theorem dX7_orderItem_63 : decode cX7_orderItem 63 = .ok (.aload_n 0, 1) := by decide +kernel
theorem dX7_orderItem_64 : decode cX7_orderItem 64 = .ok (.ldc 134, 2) := by decide +kernel
theorem dX7_orderItem_66 : decode cX7_orderItem 66 = .ok (.invokevirtual 136, 3) := by decide +kernel
theorem dX7_orderItem_69 : decode cX7_orderItem 69 = .ok (.aload_n 0, 1) := by decide +kernel
theorem dX7_orderItem_70 : decode cX7_orderItem 70 = .ok (.getfield 9, 3) := by decide +kernel
theorem dX7_orderItem_73 : decode cX7_orderItem 73 = .ok (.iload_n 1, 1) := by decide +kernel
theorem dX7_orderItem_74 : decode cX7_orderItem 74 = .ok (.iconst 1, 1) := by decide +kernel
theorem dX7_orderItem_75 : decode cX7_orderItem 75 = .ok (.iadd, 1) := by decide +kernel
theorem dX7_orderItem_76 : decode cX7_orderItem 76 = .ok (.aload_n 0, 1) := by decide +kernel
theorem dX7_orderItem_77 : decode cX7_orderItem 77 = .ok (.iconst 0, 1) := by decide +kernel
theorem dX7_orderItem_78 : decode cX7_orderItem 78 = .ok (.sipush 399, 3) := by decide +kernel
theorem dX7_orderItem_81 : decode cX7_orderItem 81 = .ok (.invokevirtual 123, 3) := by decide +kernel
theorem dX7_orderItem_84 : decode cX7_orderItem 84 = .ok (.iastore, 1) := by decide +kernel
theorem dX7_orderItem_85 : decode cX7_orderItem 85 = .ok (.aload_n 0, 1) := by decide +kernel
theorem dX7_orderItem_86 : decode cX7_orderItem 86 = .ok (.ldc 140, 2) := by decide +kernel
theorem dX7_orderItem_88 : decode cX7_orderItem 88 = .ok (.invokevirtual 136, 3) := by decide +kernel
theorem dX7_orderItem_91 : decode cX7_orderItem 91 = .ok (.aload_n 0, 1) := by decide +kernel
theorem dX7_orderItem_92 : decode cX7_orderItem 92 = .ok (.getfield 9, 3) := by decide +kernel
theorem dX7_orderItem_95 : decode cX7_orderItem 95 = .ok (.iload_n 1, 1) := by decide +kernel
theorem dX7_orderItem_96 : decode cX7_orderItem 96 = .ok (.iconst 2, 1) := by decide +kernel
theorem dX7_orderItem_97 : decode cX7_orderItem 97 = .ok (.iadd, 1) := by decide +kernel
theorem dX7_orderItem_98 : decode cX7_orderItem 98 = .ok (.aload_n 0, 1) := by decide +kernel
theorem dX7_orderItem_99 : decode cX7_orderItem 99 = .ok (.iconst 1, 1) := by decide +kernel
theorem dX7_orderItem_100 : decode cX7_orderItem 100 = .ok (.bipush 99, 2) := by decide +kernel
theorem dX7_orderItem_102 : decode cX7_orderItem 102 = .ok (.invokevirtual 123, 3) := by decide +kernel
theorem dX7_orderItem_105 : decode cX7_orderItem 105 = .ok (.iastore, 1) := by decide +kernel
theorem dX7_orderItem_106 : decode cX7_orderItem 106 = .ok (.aload_n 0, 1) := by decide +kernel
theorem dX7_orderItem_107 : decode cX7_orderItem 107 = .ok (.getfield 9, 3) := by decide +kernel
theorem dX7_orderItem_110 : decode cX7_orderItem 110 = .ok (.iconst 4, 1) := by decide +kernel
theorem dX7_orderItem_111 : decode cX7_orderItem 111 = .ok (.dup2, 1) := by decide +kernel
theorem dX7_orderItem_112 : decode cX7_orderItem 112 = .ok (.iaload, 1) := by decide +kernel
theorem dX7_orderItem_113 : decode cX7_orderItem 113 = .ok (.iconst 1, 1) := by decide +kernel
theorem dX7_orderItem_114 : decode cX7_orderItem 114 = .ok (.iadd, 1) := by decide +kernel
theorem dX7_orderItem_115 : decode cX7_orderItem 115 = .ok (.iastore, 1) := by decide +kernel
theorem dX7_orderItem_116 : decode cX7_orderItem 116 = .ok (.return_, 1) := by decide +kernel
theorem dX7_item_0 : decode cX7_item 0 = .ok (.aload_n 0, 1) := by decide +kernel
theorem dX7_item_1 : decode cX7_item 1 = .ok (.ldc 142, 2) := by decide +kernel
theorem dX7_item_3 : decode cX7_item 3 = .ok (.invokevirtual 128, 3) := by decide +kernel
theorem dX7_item_6 : decode cX7_item 6 = .ok (.ifCond .eq 19, 3) := by decide +kernel
theorem dX7_item_9 : decode cX7_item 9 = .ok (.aload_n 0, 1) := by decide +kernel
theorem dX7_item_10 : decode cX7_item 10 = .ok (.getfield 9, 3) := by decide +kernel
theorem dX7_item_13 : decode cX7_item 13 = .ok (.iconst 0, 1) := by decide +kernel
theorem dX7_item_14 : decode cX7_item 14 = .ok (.aload_n 0, 1) := by decide +kernel
theorem dX7_item_15 : decode cX7_item 15 = .ok (.iconst 1, 1) := by decide +kernel
theorem dX7_item_16 : decode cX7_item 16 = .ok (.bipush 12, 2) := by decide +kernel
theorem dX7_item_18 : decode cX7_item 18 = .ok (.invokevirtual 123, 3) := by decide +kernel
theorem dX7_item_21 : decode cX7_item 21 = .ok (.iastore, 1) := by decide +kernel
theorem dX7_item_22 : decode cX7_item 22 = .ok (.goto 68, 3) := by decide +kernel
theorem dX7_item_25 : decode cX7_item 25 = .ok (.aload_n 0, 1) := by decide +kernel
theorem dX7_item_26 : decode cX7_item 26 = .ok (.ldc 144, 2) := by decide +kernel
theorem dX7_item_28 : decode cX7_item 28 = .ok (.invokevirtual 128, 3) := by decide +kernel
theorem dX7_item_31 : decode cX7_item 31 = .ok (.ifCond .eq 19, 3) := by decide +kernel
theorem dX7_item_34 : decode cX7_item 34 = .ok (.aload_n 0, 1) := by decide +kernel
theorem dX7_item_35 : decode cX7_item 35 = .ok (.getfield 9, 3) := by decide +kernel
theorem dX7_item_38 : decode cX7_item 38 = .ok (.iconst 1, 1) := by decide +kernel
theorem dX7_item_39 : decode cX7_item 39 = .ok (.aload_n 0, 1) := by decide +kernel
theorem dX7_item_40 : decode cX7_item 40 = .ok (.iconst 0, 1) := by decide +kernel
theorem dX7_item_41 : decode cX7_item 41 = .ok (.bipush 11, 2) := by decide +kernel
theorem dX7_item_43 : decode cX7_item 43 = .ok (.invokevirtual 123, 3) := by decide +kernel
theorem dX7_item_46 : decode cX7_item 46 = .ok (.iastore, 1) := by decide +kernel
theorem dX7_item_47 : decode cX7_item 47 = .ok (.goto 43, 3) := by decide +kernel
theorem dX7_item_50 : decode cX7_item 50 = .ok (.aload_n 0, 1) := by decide +kernel
theorem dX7_item_51 : decode cX7_item 51 = .ok (.ldc 146, 2) := by decide +kernel
theorem dX7_item_53 : decode cX7_item 53 = .ok (.invokevirtual 102, 3) := by decide +kernel
theorem dX7_item_56 : decode cX7_item 56 = .ok (.ifCond .eq 10, 3) := by decide +kernel
theorem dX7_item_59 : decode cX7_item 59 = .ok (.aload_n 0, 1) := by decide +kernel
theorem dX7_item_60 : decode cX7_item 60 = .ok (.invokevirtual 148, 3) := by decide +kernel
theorem dX7_item_63 : decode cX7_item 63 = .ok (.goto 27, 3) := by decide +kernel
theorem dX7_item_66 : decode cX7_item 66 = .ok (.aload_n 0, 1) := by decide +kernel
theorem dX7_item_67 : decode cX7_item 67 = .ok (.ldc 151, 2) := by decide +kernel
theorem dX7_item_69 : decode cX7_item 69 = .ok (.invokevirtual 102, 3) := by decide +kernel
theorem dX7_item_72 : decode cX7_item 72 = .ok (.ifCond .eq 10, 3) := by decide +kernel
theorem dX7_item_75 : decode cX7_item 75 = .ok (.aload_n 0, 1) := by decide +kernel
theorem dX7_item_76 : decode cX7_item 76 = .ok (.invokevirtual 153, 3) := by decide +kernel
theorem dX7_item_79 : decode cX7_item 79 = .ok (.goto 11, 3) := by decide +kernel
theorem dX7_item_82 : decode cX7_item 82 = .ok (.aload_n 0, 1) := by decide +kernel
theorem dX7_item_83 : decode cX7_item 83 = .ok (.aload_n 0, 1) := by decide +kernel
theorem dX7_item_84 : decode cX7_item 84 = .ok (.invokevirtual 156, 3) := by decide +kernel
theorem dX7_item_87 : decode cX7_item 87 = .ok (.invokevirtual 159, 3) := by decide +kernel
theorem dX7_item_90 : decode cX7_item 90 = .ok (.return_, 1) := by decide +kernel
theorem dX7_town_0 : decode cX7_town 0 = .ok (.iconst 0, 1) := by decide +kernel
theorem dX7_town_1 : decode cX7_town 1 = .ok (.istore_n 1, 1) := by decide +kernel
theorem dX7_town_2 : decode cX7_town 2 = .ok (.iload_n 1, 1) := by decide +kernel
theorem dX7_town_3 : decode cX7_town 3 = .ok (.sipush 247, 3) := by decide +kernel
theorem dX7_town_6 : decode cX7_town 6 = .ok (.if_icmp .ge 21, 3) := by decide +kernel
theorem dX7_town_9 : decode cX7_town 9 = .ok (.aload_n 0, 1) := by decide +kernel
theorem dX7_town_10 : decode cX7_town 10 = .ok (.getfield 22, 3) := by decide +kernel
theorem dX7_town_13 : decode cX7_town 13 = .ok (.iload_n 1, 1) := by decide +kernel
theorem dX7_town_14 : decode cX7_town 14 = .ok (.aload_n 0, 1) := by decide +kernel
theorem dX7_town_15 : decode cX7_town 15 = .ok (.getfield 9, 3) := by decide +kernel
theorem dX7_town_18 : decode cX7_town 18 = .ok (.iload_n 1, 1) := by decide +kernel
theorem dX7_town_19 : decode cX7_town 19 = .ok (.iaload, 1) := by decide +kernel
theorem dX7_town_20 : decode cX7_town 20 = .ok (.iastore, 1) := by decide +kernel
theorem dX7_town_21 : decode cX7_town 21 = .ok (.iinc 1 1, 3) := by decide +kernel
theorem dX7_town_24 : decode cX7_town 24 = .ok (.goto (-22), 3) := by decide +kernel
theorem dX7_town_27 : decode cX7_town 27 = .ok (.aload_n 0, 1) := by decide +kernel
theorem dX7_town_28 : decode cX7_town 28 = .ok (.iconst 0, 1) := by decide +kernel
theorem dX7_town_29 : decode cX7_town 29 = .ok (.putfield 72, 3) := by decide +kernel
theorem dX7_town_32 : decode cX7_town 32 = .ok (.aload_n 0, 1) := by decide +kernel
theorem dX7_town_33 : decode cX7_town 33 = .ok (.iconst 0, 1) := by decide +kernel
theorem dX7_town_34 : decode cX7_town 34 = .ok (.putfield 88, 3) := by decide +kernel
theorem dX7_town_37 : decode cX7_town 37 = .ok (.aload_n 0, 1) := by decide +kernel
theorem dX7_town_38 : decode cX7_town 38 = .ok (.invokevirtual 106, 3) := by decide +kernel
theorem dX7_town_41 : decode cX7_town 41 = .ok (.iconst 0, 1) := by decide +kernel
theorem dX7_town_42 : decode cX7_town 42 = .ok (.istore_n 1, 1) := by decide +kernel
theorem dX7_town_43 : decode cX7_town 43 = .ok (.iconst 1, 1) := by decide +kernel
theorem dX7_town_44 : decode cX7_town 44 = .ok (.istore_n 2, 1) := by decide +kernel
theorem dX7_town_45 : decode cX7_town 45 = .ok (.iload_n 2, 1) := by decide +kernel
theorem dX7_town_46 : decode cX7_town 46 = .ok (.ifCond .eq 28, 3) := by decide +kernel
theorem dX7_town_49 : decode cX7_town 49 = .ok (.aload_n 0, 1) := by decide +kernel
theorem dX7_town_50 : decode cX7_town 50 = .ok (.invokevirtual 163, 3) := by decide +kernel
theorem dX7_town_53 : decode cX7_town 53 = .ok (.iinc 1 1, 3) := by decide +kernel
theorem dX7_town_56 : decode cX7_town 56 = .ok (.aload_n 0, 1) := by decide +kernel
theorem dX7_town_57 : decode cX7_town 57 = .ok (.bipush 59, 2) := by decide +kernel
theorem dX7_town_59 : decode cX7_town 59 = .ok (.invokevirtual 131, 3) := by decide +kernel
theorem dX7_town_62 : decode cX7_town 62 = .ok (.istore_n 2, 1) := by decide +kernel
theorem dX7_town_63 : decode cX7_town 63 = .ok (.iload_n 2, 1) := by decide +kernel
theorem dX7_town_64 : decode cX7_town 64 = .ok (.ifCond .eq (-19), 3) := by decide +kernel
theorem dX7_town_67 : decode cX7_town 67 = .ok (.aload_n 0, 1) := by decide +kernel
theorem dX7_town_68 : decode cX7_town 68 = .ok (.invokevirtual 106, 3) := by decide +kernel
theorem dX7_town_71 : decode cX7_town 71 = .ok (.goto (-26), 3) := by decide +kernel
theorem dX7_town_74 : decode cX7_town 74 = .ok (.aload_n 0, 1) := by decide +kernel
theorem dX7_town_75 : decode cX7_town 75 = .ok (.aload_n 0, 1) := by decide +kernel
theorem dX7_town_76 : decode cX7_town 76 = .ok (.getfield 88, 3) := by decide +kernel
theorem dX7_town_79 : decode cX7_town 79 = .ok (.ifCond .ne 10, 3) := by decide +kernel
theorem dX7_town_82 : decode cX7_town 82 = .ok (.aload_n 0, 1) := by decide +kernel
theorem dX7_town_83 : decode cX7_town 83 = .ok (.getfield 85, 3) := by decide +kernel
theorem dX7_town_86 : decode cX7_town 86 = .ok (.ifCond .eq 7, 3) := by decide +kernel
theorem dX7_town_89 : decode cX7_town 89 = .ok (.iconst 1, 1) := by decide +kernel
theorem dX7_town_90 : decode cX7_town 90 = .ok (.goto 4, 3) := by decide +kernel
theorem dX7_town_93 : decode cX7_town 93 = .ok (.iconst 0, 1) := by decide +kernel
theorem dX7_town_94 : decode cX7_town 94 = .ok (.putfield 88, 3) := by decide +kernel
theorem dX7_town_97 : decode cX7_town 97 = .ok (.aload_n 0, 1) := by decide +kernel
theorem dX7_town_98 : decode cX7_town 98 = .ok (.getfield 75, 3) := by decide +kernel
theorem dX7_town_101 : decode cX7_town 101 = .ok (.istore_n 3, 1) := by decide +kernel
theorem dX7_town_102 : decode cX7_town 102 = .ok (.aload_n 0, 1) := by decide +kernel
theorem dX7_town_103 : decode cX7_town 103 = .ok (.iconst 0, 1) := by decide +kernel
theorem dX7_town_104 : decode cX7_town 104 = .ok (.putfield 67, 3) := by decide +kernel
theorem dX7_town_107 : decode cX7_town 107 = .ok (.aload_n 0, 1) := by decide +kernel
theorem dX7_town_108 : decode cX7_town 108 = .ok (.getfield 88, 3) := by decide +kernel
theorem dX7_town_111 : decode cX7_town 111 = .ok (.ifCond .ne 5, 3) := by decide +kernel
theorem dX7_town_114 : decode cX7_town 114 = .ok (.iload_n 1, 1) := by decide +kernel
theorem dX7_town_115 : decode cX7_town 115 = .ok (.ireturn, 1) := by decide +kernel
theorem dX7_town_116 : decode cX7_town 116 = .ok (.iconst 0, 1) := by decide +kernel
theorem dX7_town_117 : decode cX7_town 117 = .ok (.istore 4, 2) := by decide +kernel
theorem dX7_town_119 : decode cX7_town 119 = .ok (.iload 4, 2) := by decide +kernel
theorem dX7_town_121 : decode cX7_town 121 = .ok (.sipush 247, 3) := by decide +kernel
theorem dX7_town_124 : decode cX7_town 124 = .ok (.if_icmp .ge 23, 3) := by decide +kernel
theorem dX7_town_127 : decode cX7_town 127 = .ok (.aload_n 0, 1) := by decide +kernel
theorem dX7_town_128 : decode cX7_town 128 = .ok (.getfield 9, 3) := by decide +kernel
theorem dX7_town_131 : decode cX7_town 131 = .ok (.iload 4, 2) := by decide +kernel
theorem dX7_town_133 : decode cX7_town 133 = .ok (.aload_n 0, 1) := by decide +kernel
theorem dX7_town_134 : decode cX7_town 134 = .ok (.getfield 22, 3) := by decide +kernel
theorem dX7_town_137 : decode cX7_town 137 = .ok (.iload 4, 2) := by decide +kernel
theorem dX7_town_139 : decode cX7_town 139 = .ok (.iaload, 1) := by decide +kernel
theorem dX7_town_140 : decode cX7_town 140 = .ok (.iastore, 1) := by decide +kernel
theorem dX7_town_141 : decode cX7_town 141 = .ok (.iinc 4 1, 3) := by decide +kernel
theorem dX7_town_144 : decode cX7_town 144 = .ok (.goto (-25), 3) := by decide +kernel
theorem dX7_town_147 : decode cX7_town 147 = .ok (.iconst (-1), 1) := by decide +kernel
theorem dX7_town_148 : decode cX7_town 148 = .ok (.iload_n 3, 1) := by decide +kernel
theorem dX7_town_149 : decode cX7_town 149 = .ok (.isub, 1) := by decide +kernel
theorem dX7_town_150 : decode cX7_town 150 = .ok (.ireturn, 1) := by decide +kernel
theorem dX7_round_0 : decode cX7_round 0 = .ok (.iload_n 1, 1) := by decide +kernel
theorem dX7_round_1 : decode cX7_round 1 = .ok (.i2l, 1) := by decide +kernel
theorem dX7_round_2 : decode cX7_round 2 = .ok (.lconst 1, 1) := by decide +kernel
theorem dX7_round_3 : decode cX7_round 3 = .ok (.ldc2_w 166, 3) := by decide +kernel
theorem dX7_round_6 : decode cX7_round 6 = .ok (.invokestatic 46, 3) := by decide +kernel
theorem dX7_round_9 : decode cX7_round 9 = .ok (.ifCond .eq 12, 3) := by decide +kernel
theorem dX7_round_12 : decode cX7_round 12 = .ok (.aload_n 0, 1) := by decide +kernel
theorem dX7_round_13 : decode cX7_round 13 = .ok (.iconst 0, 1) := by decide +kernel
theorem dX7_round_14 : decode cX7_round 14 = .ok (.iload_n 1, 1) := by decide +kernel
theorem dX7_round_15 : decode cX7_round 15 = .ok (.invokevirtual 168, 3) := by decide +kernel
theorem dX7_round_18 : decode cX7_round 18 = .ok (.goto 9, 3) := by decide +kernel
theorem dX7_round_21 : decode cX7_round 21 = .ok (.aload_n 0, 1) := by decide +kernel
theorem dX7_round_22 : decode cX7_round 22 = .ok (.ldc 40, 2) := by decide +kernel
theorem dX7_round_24 : decode cX7_round 24 = .ok (.invokevirtual 42, 3) := by decide +kernel
theorem dX7_round_27 : decode cX7_round 27 = .ok (.ireturn, 1) := by decide +kernel
theorem dX7_near_0 : decode cX7_near 0 = .ok (.iload_n 1, 1) := by decide +kernel
theorem dX7_near_1 : decode cX7_near 1 = .ok (.i2l, 1) := by decide +kernel
theorem dX7_near_2 : decode cX7_near 2 = .ok (.ldc2_w 171, 3) := by decide +kernel
theorem dX7_near_5 : decode cX7_near 5 = .ok (.ldc2_w 173, 3) := by decide +kernel
theorem dX7_near_8 : decode cX7_near 8 = .ok (.invokestatic 46, 3) := by decide +kernel
theorem dX7_near_11 : decode cX7_near 11 = .ok (.ifCond .eq 12, 3) := by decide +kernel
theorem dX7_near_14 : decode cX7_near 14 = .ok (.aload_n 0, 1) := by decide +kernel
theorem dX7_near_15 : decode cX7_near 15 = .ok (.iconst 1, 1) := by decide +kernel
theorem dX7_near_16 : decode cX7_near 16 = .ok (.iload_n 1, 1) := by decide +kernel
theorem dX7_near_17 : decode cX7_near 17 = .ok (.invokevirtual 168, 3) := by decide +kernel
theorem dX7_near_20 : decode cX7_near 20 = .ok (.goto 9, 3) := by decide +kernel
theorem dX7_near_23 : decode cX7_near 23 = .ok (.aload_n 0, 1) := by decide +kernel
theorem dX7_near_24 : decode cX7_near 24 = .ok (.ldc 40, 2) := by decide +kernel
theorem dX7_near_26 : decode cX7_near 26 = .ok (.invokevirtual 42, 3) := by decide +kernel
theorem dX7_near_29 : decode cX7_near 29 = .ok (.ireturn, 1) := by decide +kernel
theorem dX7_tool_0 : decode cX7_tool 0 = .ok (.iload_n 1, 1) := by decide +kernel
theorem dX7_tool_1 : decode cX7_tool 1 = .ok (.i2l, 1) := by decide +kernel
theorem dX7_tool_2 : decode cX7_tool 2 = .ok (.lconst 0, 1) := by decide +kernel
theorem dX7_tool_3 : decode cX7_tool 3 = .ok (.ldc2_w 175, 3) := by decide +kernel
theorem dX7_tool_6 : decode cX7_tool 6 = .ok (.invokestatic 46, 3) := by decide +kernel
theorem dX7_tool_9 : decode cX7_tool 9 = .ok (.ifCond .ne 10, 3) := by decide +kernel
theorem dX7_tool_12 : decode cX7_tool 12 = .ok (.aload_n 0, 1) := by decide +kernel
theorem dX7_tool_13 : decode cX7_tool 13 = .ok (.ldc 40, 2) := by decide +kernel
theorem dX7_tool_15 : decode cX7_tool 15 = .ok (.invokevirtual 42, 3) := by decide +kernel
theorem dX7_tool_18 : decode cX7_tool 18 = .ok (.ireturn, 1) := by decide +kernel
theorem dX7_tool_19 : decode cX7_tool 19 = .ok (.aload_n 0, 1) := by decide +kernel
theorem dX7_tool_20 : decode cX7_tool 20 = .ok (.getfield 9, 3) := by decide +kernel
theorem dX7_tool_23 : decode cX7_tool 23 = .ok (.iconst 2, 1) := by decide +kernel
theorem dX7_tool_24 : decode cX7_tool 24 = .ok (.iaload, 1) := by decide +kernel
theorem dX7_tool_25 : decode cX7_tool 25 = .ok (.bipush 8, 2) := by decide +kernel
theorem dX7_tool_27 : decode cX7_tool 27 = .ok (.if_icmp .ne 10, 3) := by decide +kernel
theorem dX7_tool_30 : decode cX7_tool 30 = .ok (.aload_n 0, 1) := by decide +kernel
theorem dX7_tool_31 : decode cX7_tool 31 = .ok (.ldc 71, 2) := by decide +kernel
theorem dX7_tool_33 : decode cX7_tool 33 = .ok (.invokevirtual 42, 3) := by decide +kernel
theorem dX7_tool_36 : decode cX7_tool 36 = .ok (.ireturn, 1) := by decide +kernel
theorem dX7_tool_37 : decode cX7_tool 37 = .ok (.aload_n 0, 1) := by decide +kernel
theorem dX7_tool_38 : decode cX7_tool 38 = .ok (.getfield 9, 3) := by decide +kernel
theorem dX7_tool_41 : decode cX7_tool 41 = .ok (.bipush 6, 2) := by decide +kernel
theorem dX7_tool_43 : decode cX7_tool 43 = .ok (.aload_n 0, 1) := by decide +kernel
theorem dX7_tool_44 : decode cX7_tool 44 = .ok (.getfield 9, 3) := by decide +kernel
theorem dX7_tool_47 : decode cX7_tool 47 = .ok (.iconst 2, 1) := by decide +kernel
theorem dX7_tool_48 : decode cX7_tool 48 = .ok (.iaload, 1) := by decide +kernel
theorem dX7_tool_49 : decode cX7_tool 49 = .ok (.iadd, 1) := by decide +kernel
theorem dX7_tool_50 : decode cX7_tool 50 = .ok (.iload_n 1, 1) := by decide +kernel
theorem dX7_tool_51 : decode cX7_tool 51 = .ok (.iastore, 1) := by decide +kernel
theorem dX7_tool_52 : decode cX7_tool 52 = .ok (.aload_n 0, 1) := by decide +kernel
theorem dX7_tool_53 : decode cX7_tool 53 = .ok (.getfield 9, 3) := by decide +kernel
theorem dX7_tool_56 : decode cX7_tool 56 = .ok (.iconst 2, 1) := by decide +kernel
theorem dX7_tool_57 : decode cX7_tool 57 = .ok (.dup2, 1) := by decide +kernel
theorem dX7_tool_58 : decode cX7_tool 58 = .ok (.iaload, 1) := by decide +kernel
theorem dX7_tool_59 : decode cX7_tool 59 = .ok (.iconst 1, 1) := by decide +kernel
theorem dX7_tool_60 : decode cX7_tool 60 = .ok (.iadd, 1) := by decide +kernel
theorem dX7_tool_61 : decode cX7_tool 61 = .ok (.iastore, 1) := by decide +kernel
theorem dX7_tool_62 : decode cX7_tool 62 = .ok (.aload_n 0, 1) := by decide +kernel
theorem dX7_tool_63 : decode cX7_tool 63 = .ok (.getfield 9, 3) := by decide +kernel
theorem dX7_tool_66 : decode cX7_tool 66 = .ok (.iconst 2, 1) := by decide +kernel
theorem dX7_tool_67 : decode cX7_tool 67 = .ok (.iaload, 1) := by decide +kernel
theorem dX7_tool_68 : decode cX7_tool 68 = .ok (.iconst 1, 1) := by decide +kernel
theorem dX7_tool_69 : decode cX7_tool 69 = .ok (.isub, 1) := by decide +kernel
theorem dX7_tool_70 : decode cX7_tool 70 = .ok (.ireturn, 1) := by decide +kernel
theorem dX7_days_0 : decode cX7_days 0 = .ok (.aload_n 0, 1) := by decide +kernel
theorem dX7_days_1 : decode cX7_days 1 = .ok (.iload_n 1, 1) := by decide +kernel
theorem dX7_days_2 : decode cX7_days 2 = .ok (.invokevirtual 177, 3) := by decide +kernel
theorem dX7_days_5 : decode cX7_days 5 = .ok (.ifCond .eq 27, 3) := by decide +kernel
theorem dX7_days_8 : decode cX7_days 8 = .ok (.iload_n 2, 1) := by decide +kernel
theorem dX7_days_9 : decode cX7_days 9 = .ok (.i2l, 1) := by decide +kernel
theorem dX7_days_10 : decode cX7_days 10 = .ok (.lconst 0, 1) := by decide +kernel
theorem dX7_days_11 : decode cX7_days 11 = .ok (.ldc2_w 175, 3) := by decide +kernel
theorem dX7_days_14 : decode cX7_days 14 = .ok (.invokestatic 46, 3) := by decide +kernel
theorem dX7_days_17 : decode cX7_days 17 = .ok (.ifCond .eq 15, 3) := by decide +kernel
theorem dX7_days_20 : decode cX7_days 20 = .ok (.aload_n 0, 1) := by decide +kernel
theorem dX7_days_21 : decode cX7_days 21 = .ok (.bipush 6, 2) := by decide +kernel
theorem dX7_days_23 : decode cX7_days 23 = .ok (.iload_n 1, 1) := by decide +kernel
theorem dX7_days_24 : decode cX7_days 24 = .ok (.iadd, 1) := by decide +kernel
theorem dX7_days_25 : decode cX7_days 25 = .ok (.iload_n 2, 1) := by decide +kernel
theorem dX7_days_26 : decode cX7_days 26 = .ok (.invokevirtual 168, 3) := by decide +kernel
theorem dX7_days_29 : decode cX7_days 29 = .ok (.goto 9, 3) := by decide +kernel
theorem dX7_days_32 : decode cX7_days 32 = .ok (.aload_n 0, 1) := by decide +kernel
theorem dX7_days_33 : decode cX7_days 33 = .ok (.ldc 40, 2) := by decide +kernel
theorem dX7_days_35 : decode cX7_days 35 = .ok (.invokevirtual 42, 3) := by decide +kernel
theorem dX7_days_38 : decode cX7_days 38 = .ok (.ireturn, 1) := by decide +kernel
theorem dX7_mayBe_0 : decode cX7_mayBe 0 = .ok (.aload_n 0, 1) := by decide +kernel
theorem dX7_mayBe_1 : decode cX7_mayBe 1 = .ok (.getfield 9, 3) := by decide +kernel
theorem dX7_mayBe_4 : decode cX7_mayBe 4 = .ok (.bipush 6, 2) := by decide +kernel
theorem dX7_mayBe_6 : decode cX7_mayBe 6 = .ok (.iload_n 1, 1) := by decide +kernel
theorem dX7_mayBe_7 : decode cX7_mayBe 7 = .ok (.iadd, 1) := by decide +kernel
theorem dX7_mayBe_8 : decode cX7_mayBe 8 = .ok (.iaload, 1) := by decide +kernel
theorem dX7_mayBe_9 : decode cX7_mayBe 9 = .ok (.iload_n 2, 1) := by decide +kernel
theorem dX7_mayBe_10 : decode cX7_mayBe 10 = .ok (.aload_n 0, 1) := by decide +kernel
theorem dX7_mayBe_11 : decode cX7_mayBe 11 = .ok (.getfield 9, 3) := by decide +kernel
theorem dX7_mayBe_14 : decode cX7_mayBe 14 = .ok (.iconst 0, 1) := by decide +kernel
theorem dX7_mayBe_15 : decode cX7_mayBe 15 = .ok (.iaload, 1) := by decide +kernel
theorem dX7_mayBe_16 : decode cX7_mayBe 16 = .ok (.irem, 1) := by decide +kernel
theorem dX7_mayBe_17 : decode cX7_mayBe 17 = .ok (.invokestatic 180, 3) := by decide +kernel
theorem dX7_mayBe_20 : decode cX7_mayBe 20 = .ok (.ireturn, 1) := by decide +kernel
theorem dX7_mayNear_0 : decode cX7_mayNear 0 = .ok (.aload_n 0, 1) := by decide +kernel
theorem dX7_mayNear_1 : decode cX7_mayNear 1 = .ok (.getfield 9, 3) := by decide +kernel
theorem dX7_mayNear_4 : decode cX7_mayNear 4 = .ok (.iconst 1, 1) := by decide +kernel
theorem dX7_mayNear_5 : decode cX7_mayNear 5 = .ok (.iaload, 1) := by decide +kernel
theorem dX7_mayNear_6 : decode cX7_mayNear 6 = .ok (.ifCond .lt 23, 3) := by decide +kernel
theorem dX7_mayNear_9 : decode cX7_mayNear 9 = .ok (.aload_n 0, 1) := by decide +kernel
theorem dX7_mayNear_10 : decode cX7_mayNear 10 = .ok (.iload_n 1, 1) := by decide +kernel
theorem dX7_mayNear_11 : decode cX7_mayNear 11 = .ok (.iload_n 2, 1) := by decide +kernel
theorem dX7_mayNear_12 : decode cX7_mayNear 12 = .ok (.aload_n 0, 1) := by decide +kernel
theorem dX7_mayNear_13 : decode cX7_mayNear 13 = .ok (.getfield 9, 3) := by decide +kernel
theorem dX7_mayNear_16 : decode cX7_mayNear 16 = .ok (.iconst 1, 1) := by decide +kernel
theorem dX7_mayNear_17 : decode cX7_mayNear 17 = .ok (.iaload, 1) := by decide +kernel
theorem dX7_mayNear_18 : decode cX7_mayNear 18 = .ok (.iadd, 1) := by decide +kernel
theorem dX7_mayNear_19 : decode cX7_mayNear 19 = .ok (.invokevirtual 184, 3) := by decide +kernel
theorem dX7_mayNear_22 : decode cX7_mayNear 22 = .ok (.ifCond .eq 7, 3) := by decide +kernel
theorem dX7_mayNear_25 : decode cX7_mayNear 25 = .ok (.iconst 1, 1) := by decide +kernel
theorem dX7_mayNear_26 : decode cX7_mayNear 26 = .ok (.goto 4, 3) := by decide +kernel
theorem dX7_mayNear_29 : decode cX7_mayNear 29 = .ok (.iconst 0, 1) := by decide +kernel
theorem dX7_mayNear_30 : decode cX7_mayNear 30 = .ok (.ireturn, 1) := by decide +kernel
theorem dX7_may_0 : decode cX7_may 0 = .ok (.aload_n 0, 1) := by decide +kernel
theorem dX7_may_1 : decode cX7_may 1 = .ok (.iload_n 1, 1) := by decide +kernel
theorem dX7_may_2 : decode cX7_may 2 = .ok (.invokevirtual 177, 3) := by decide +kernel
theorem dX7_may_5 : decode cX7_may 5 = .ok (.ifCond .eq 10, 3) := by decide +kernel
theorem dX7_may_8 : decode cX7_may 8 = .ok (.iload_n 2, 1) := by decide +kernel
theorem dX7_may_9 : decode cX7_may 9 = .ok (.invokestatic 187, 3) := by decide +kernel
theorem dX7_may_12 : decode cX7_may 12 = .ok (.ifCond .ne 10, 3) := by decide +kernel
theorem dX7_may_15 : decode cX7_may 15 = .ok (.aload_n 0, 1) := by decide +kernel
theorem dX7_may_16 : decode cX7_may 16 = .ok (.ldc 40, 2) := by decide +kernel
theorem dX7_may_18 : decode cX7_may 18 = .ok (.invokevirtual 42, 3) := by decide +kernel
theorem dX7_may_21 : decode cX7_may 21 = .ok (.ireturn, 1) := by decide +kernel
theorem dX7_may_22 : decode cX7_may 22 = .ok (.aload_n 0, 1) := by decide +kernel
theorem dX7_may_23 : decode cX7_may 23 = .ok (.iload_n 1, 1) := by decide +kernel
theorem dX7_may_24 : decode cX7_may 24 = .ok (.iload_n 2, 1) := by decide +kernel
theorem dX7_may_25 : decode cX7_may 25 = .ok (.invokevirtual 184, 3) := by decide +kernel
theorem dX7_may_28 : decode cX7_may 28 = .ok (.ifCond .eq 7, 3) := by decide +kernel
theorem dX7_may_31 : decode cX7_may 31 = .ok (.iconst 2, 1) := by decide +kernel
theorem dX7_may_32 : decode cX7_may 32 = .ok (.goto 17, 3) := by decide +kernel
theorem dX7_may_35 : decode cX7_may 35 = .ok (.aload_n 0, 1) := by decide +kernel
theorem dX7_may_36 : decode cX7_may 36 = .ok (.iload_n 1, 1) := by decide +kernel
theorem dX7_may_37 : decode cX7_may 37 = .ok (.iload_n 2, 1) := by decide +kernel
theorem dX7_may_38 : decode cX7_may 38 = .ok (.invokevirtual 190, 3) := by decide +kernel
theorem dX7_may_41 : decode cX7_may 41 = .ok (.ifCond .eq 7, 3) := by decide +kernel
theorem dX7_may_44 : decode cX7_may 44 = .ok (.iconst 1, 1) := by decide +kernel
theorem dX7_may_45 : decode cX7_may 45 = .ok (.goto 4, 3) := by decide +kernel
theorem dX7_may_48 : decode cX7_may 48 = .ok (.iconst 0, 1) := by decide +kernel
theorem dX7_may_49 : decode cX7_may 49 = .ok (.ireturn, 1) := by decide +kernel
theorem dX7_thing_0 : decode cX7_thing 0 = .ok (.iload_n 1, 1) := by decide +kernel
theorem dX7_thing_1 : decode cX7_thing 1 = .ok (.invokestatic 193, 3) := by decide +kernel
theorem dX7_thing_4 : decode cX7_thing 4 = .ok (.ifCond .eq 23, 3) := by decide +kernel
theorem dX7_thing_7 : decode cX7_thing 7 = .ok (.aload_n 0, 1) := by decide +kernel
theorem dX7_thing_8 : decode cX7_thing 8 = .ok (.iload_n 2, 1) := by decide +kernel
theorem dX7_thing_9 : decode cX7_thing 9 = .ok (.invokevirtual 177, 3) := by decide +kernel
theorem dX7_thing_12 : decode cX7_thing 12 = .ok (.ifCond .eq 15, 3) := by decide +kernel
theorem dX7_thing_15 : decode cX7_thing 15 = .ok (.iload_n 3, 1) := by decide +kernel
theorem dX7_thing_16 : decode cX7_thing 16 = .ok (.i2l, 1) := by decide +kernel
theorem dX7_thing_17 : decode cX7_thing 17 = .ok (.lconst 1, 1) := by decide +kernel
theorem dX7_thing_18 : decode cX7_thing 18 = .ok (.ldc2_w 196, 3) := by decide +kernel
theorem dX7_thing_21 : decode cX7_thing 21 = .ok (.invokestatic 46, 3) := by decide +kernel
theorem dX7_thing_24 : decode cX7_thing 24 = .ok (.ifCond .ne 10, 3) := by decide +kernel
theorem dX7_thing_27 : decode cX7_thing 27 = .ok (.aload_n 0, 1) := by decide +kernel
theorem dX7_thing_28 : decode cX7_thing 28 = .ok (.ldc 40, 2) := by decide +kernel
theorem dX7_thing_30 : decode cX7_thing 30 = .ok (.invokevirtual 42, 3) := by decide +kernel
theorem dX7_thing_33 : decode cX7_thing 33 = .ok (.ireturn, 1) := by decide +kernel
theorem dX7_thing_34 : decode cX7_thing 34 = .ok (.aload_n 0, 1) := by decide +kernel
theorem dX7_thing_35 : decode cX7_thing 35 = .ok (.getfield 9, 3) := by decide +kernel
theorem dX7_thing_38 : decode cX7_thing 38 = .ok (.iconst 3, 1) := by decide +kernel
theorem dX7_thing_39 : decode cX7_thing 39 = .ok (.iaload, 1) := by decide +kernel
theorem dX7_thing_40 : decode cX7_thing 40 = .ok (.bipush 8, 2) := by decide +kernel
theorem dX7_thing_42 : decode cX7_thing 42 = .ok (.if_icmp .ne 10, 3) := by decide +kernel
theorem dX7_thing_45 : decode cX7_thing 45 = .ok (.aload_n 0, 1) := by decide +kernel
theorem dX7_thing_46 : decode cX7_thing 46 = .ok (.ldc 71, 2) := by decide +kernel
theorem dX7_thing_48 : decode cX7_thing 48 = .ok (.invokevirtual 42, 3) := by decide +kernel
theorem dX7_thing_51 : decode cX7_thing 51 = .ok (.ireturn, 1) := by decide +kernel
theorem dX7_thing_52 : decode cX7_thing 52 = .ok (.aload_n 0, 1) := by decide +kernel
theorem dX7_thing_53 : decode cX7_thing 53 = .ok (.getfield 9, 3) := by decide +kernel
theorem dX7_thing_56 : decode cX7_thing 56 = .ok (.iconst 3, 1) := by decide +kernel
theorem dX7_thing_57 : decode cX7_thing 57 = .ok (.iaload, 1) := by decide +kernel
theorem dX7_thing_58 : decode cX7_thing 58 = .ok (.istore 4, 2) := by decide +kernel
theorem dX7_thing_60 : decode cX7_thing 60 = .ok (.aload_n 0, 1) := by decide +kernel
theorem dX7_thing_61 : decode cX7_thing 61 = .ok (.getfield 9, 3) := by decide +kernel
theorem dX7_thing_64 : decode cX7_thing 64 = .ok (.bipush 14, 2) := by decide +kernel
theorem dX7_thing_66 : decode cX7_thing 66 = .ok (.bipush 26, 2) := by decide +kernel
theorem dX7_thing_68 : decode cX7_thing 68 = .ok (.iload 4, 2) := by decide +kernel
theorem dX7_thing_70 : decode cX7_thing 70 = .ok (.imul, 1) := by decide +kernel
theorem dX7_thing_71 : decode cX7_thing 71 = .ok (.iadd, 1) := by decide +kernel
theorem dX7_thing_72 : decode cX7_thing 72 = .ok (.iload_n 1, 1) := by decide +kernel
theorem dX7_thing_73 : decode cX7_thing 73 = .ok (.iastore, 1) := by decide +kernel
theorem dX7_thing_74 : decode cX7_thing 74 = .ok (.aload_n 0, 1) := by decide +kernel
theorem dX7_thing_75 : decode cX7_thing 75 = .ok (.getfield 9, 3) := by decide +kernel
theorem dX7_thing_78 : decode cX7_thing 78 = .ok (.bipush 14, 2) := by decide +kernel
theorem dX7_thing_80 : decode cX7_thing 80 = .ok (.bipush 26, 2) := by decide +kernel
theorem dX7_thing_82 : decode cX7_thing 82 = .ok (.iload 4, 2) := by decide +kernel
theorem dX7_thing_84 : decode cX7_thing 84 = .ok (.imul, 1) := by decide +kernel
theorem dX7_thing_85 : decode cX7_thing 85 = .ok (.iadd, 1) := by decide +kernel
theorem dX7_thing_86 : decode cX7_thing 86 = .ok (.iconst 1, 1) := by decide +kernel
theorem dX7_thing_87 : decode cX7_thing 87 = .ok (.iadd, 1) := by decide +kernel
theorem dX7_thing_88 : decode cX7_thing 88 = .ok (.iconst 1, 1) := by decide +kernel
theorem dX7_thing_89 : decode cX7_thing 89 = .ok (.iastore, 1) := by decide +kernel
theorem dX7_thing_90 : decode cX7_thing 90 = .ok (.aload_n 0, 1) := by decide +kernel
theorem dX7_thing_91 : decode cX7_thing 91 = .ok (.getfield 9, 3) := by decide +kernel
theorem dX7_thing_94 : decode cX7_thing 94 = .ok (.iload 4, 2) := by decide +kernel
theorem dX7_thing_96 : decode cX7_thing 96 = .ok (.iconst 0, 1) := by decide +kernel
theorem dX7_thing_97 : decode cX7_thing 97 = .ok (.iconst 0, 1) := by decide +kernel
theorem dX7_thing_98 : decode cX7_thing 98 = .ok (.invokestatic 54, 3) := by decide +kernel
theorem dX7_thing_101 : decode cX7_thing 101 = .ok (.iload_n 2, 1) := by decide +kernel
theorem dX7_thing_102 : decode cX7_thing 102 = .ok (.iastore, 1) := by decide +kernel
theorem dX7_thing_103 : decode cX7_thing 103 = .ok (.aload_n 0, 1) := by decide +kernel
theorem dX7_thing_104 : decode cX7_thing 104 = .ok (.getfield 9, 3) := by decide +kernel
theorem dX7_thing_107 : decode cX7_thing 107 = .ok (.iload 4, 2) := by decide +kernel
theorem dX7_thing_109 : decode cX7_thing 109 = .ok (.iconst 0, 1) := by decide +kernel
theorem dX7_thing_110 : decode cX7_thing 110 = .ok (.iconst 1, 1) := by decide +kernel
theorem dX7_thing_111 : decode cX7_thing 111 = .ok (.invokestatic 54, 3) := by decide +kernel
theorem dX7_thing_114 : decode cX7_thing 114 = .ok (.iload_n 3, 1) := by decide +kernel
theorem dX7_thing_115 : decode cX7_thing 115 = .ok (.iastore, 1) := by decide +kernel
theorem dX7_thing_116 : decode cX7_thing 116 = .ok (.aload_n 0, 1) := by decide +kernel
theorem dX7_thing_117 : decode cX7_thing 117 = .ok (.getfield 9, 3) := by decide +kernel
theorem dX7_thing_120 : decode cX7_thing 120 = .ok (.iload 4, 2) := by decide +kernel
theorem dX7_thing_122 : decode cX7_thing 122 = .ok (.iconst 0, 1) := by decide +kernel
theorem dX7_thing_123 : decode cX7_thing 123 = .ok (.iconst 2, 1) := by decide +kernel
theorem dX7_thing_124 : decode cX7_thing 124 = .ok (.invokestatic 54, 3) := by decide +kernel
theorem dX7_thing_127 : decode cX7_thing 127 = .ok (.bipush 99, 2) := by decide +kernel
theorem dX7_thing_129 : decode cX7_thing 129 = .ok (.iastore, 1) := by decide +kernel
theorem dX7_thing_130 : decode cX7_thing 130 = .ok (.aload_n 0, 1) := by decide +kernel
theorem dX7_thing_131 : decode cX7_thing 131 = .ok (.getfield 9, 3) := by decide +kernel
theorem dX7_thing_134 : decode cX7_thing 134 = .ok (.iconst 3, 1) := by decide +kernel
theorem dX7_thing_135 : decode cX7_thing 135 = .ok (.dup2, 1) := by decide +kernel
theorem dX7_thing_136 : decode cX7_thing 136 = .ok (.iaload, 1) := by decide +kernel
theorem dX7_thing_137 : decode cX7_thing 137 = .ok (.iconst 1, 1) := by decide +kernel
theorem dX7_thing_138 : decode cX7_thing 138 = .ok (.iadd, 1) := by decide +kernel
theorem dX7_thing_139 : decode cX7_thing 139 = .ok (.iastore, 1) := by decide +kernel
theorem dX7_thing_140 : decode cX7_thing 140 = .ok (.iload 4, 2) := by decide +kernel
theorem dX7_thing_142 : decode cX7_thing 142 = .ok (.ireturn, 1) := by decide +kernel
theorem dX7_step_0 : decode cX7_step 0 = .ok (.aload_n 0, 1) := by decide +kernel
theorem dX7_step_1 : decode cX7_step 1 = .ok (.iload_n 1, 1) := by decide +kernel
theorem dX7_step_2 : decode cX7_step 2 = .ok (.invokevirtual 58, 3) := by decide +kernel
theorem dX7_step_5 : decode cX7_step 5 = .ok (.ifCond .eq 36, 3) := by decide +kernel
theorem dX7_step_8 : decode cX7_step 8 = .ok (.aload_n 0, 1) := by decide +kernel
theorem dX7_step_9 : decode cX7_step 9 = .ok (.iload_n 2, 1) := by decide +kernel
theorem dX7_step_10 : decode cX7_step 10 = .ok (.invokevirtual 177, 3) := by decide +kernel
theorem dX7_step_13 : decode cX7_step 13 = .ok (.ifCond .eq 28, 3) := by decide +kernel
theorem dX7_step_16 : decode cX7_step 16 = .ok (.iload_n 3, 1) := by decide +kernel
theorem dX7_step_17 : decode cX7_step 17 = .ok (.i2l, 1) := by decide +kernel
theorem dX7_step_18 : decode cX7_step 18 = .ok (.lconst 1, 1) := by decide +kernel
theorem dX7_step_19 : decode cX7_step 19 = .ok (.ldc2_w 196, 3) := by decide +kernel
theorem dX7_step_22 : decode cX7_step 22 = .ok (.invokestatic 46, 3) := by decide +kernel
theorem dX7_step_25 : decode cX7_step 25 = .ok (.ifCond .eq 16, 3) := by decide +kernel
theorem dX7_step_28 : decode cX7_step 28 = .ok (.iload 4, 2) := by decide +kernel
theorem dX7_step_30 : decode cX7_step 30 = .ok (.i2l, 1) := by decide +kernel
theorem dX7_step_31 : decode cX7_step 31 = .ok (.lconst 0, 1) := by decide +kernel
theorem dX7_step_32 : decode cX7_step 32 = .ok (.ldc2_w 198, 3) := by decide +kernel
theorem dX7_step_35 : decode cX7_step 35 = .ok (.invokestatic 46, 3) := by decide +kernel
theorem dX7_step_38 : decode cX7_step 38 = .ok (.ifCond .ne 10, 3) := by decide +kernel
theorem dX7_step_41 : decode cX7_step 41 = .ok (.aload_n 0, 1) := by decide +kernel
theorem dX7_step_42 : decode cX7_step 42 = .ok (.ldc 40, 2) := by decide +kernel
theorem dX7_step_44 : decode cX7_step 44 = .ok (.invokevirtual 42, 3) := by decide +kernel
theorem dX7_step_47 : decode cX7_step 47 = .ok (.ireturn, 1) := by decide +kernel
theorem dX7_step_48 : decode cX7_step 48 = .ok (.aload_n 0, 1) := by decide +kernel
theorem dX7_step_49 : decode cX7_step 49 = .ok (.iload_n 1, 1) := by decide +kernel
theorem dX7_step_50 : decode cX7_step 50 = .ok (.invokevirtual 62, 3) := by decide +kernel
theorem dX7_step_53 : decode cX7_step 53 = .ok (.istore 5, 2) := by decide +kernel
theorem dX7_step_55 : decode cX7_step 55 = .ok (.iload 5, 2) := by decide +kernel
theorem dX7_step_57 : decode cX7_step 57 = .ok (.bipush 8, 2) := by decide +kernel
theorem dX7_step_59 : decode cX7_step 59 = .ok (.if_icmp .ne 10, 3) := by decide +kernel
theorem dX7_step_62 : decode cX7_step 62 = .ok (.aload_n 0, 1) := by decide +kernel
theorem dX7_step_63 : decode cX7_step 63 = .ok (.ldc 71, 2) := by decide +kernel
theorem dX7_step_65 : decode cX7_step 65 = .ok (.invokevirtual 42, 3) := by decide +kernel
theorem dX7_step_68 : decode cX7_step 68 = .ok (.ireturn, 1) := by decide +kernel
theorem dX7_step_69 : decode cX7_step 69 = .ok (.aload_n 0, 1) := by decide +kernel
theorem dX7_step_70 : decode cX7_step 70 = .ok (.getfield 9, 3) := by decide +kernel
theorem dX7_step_73 : decode cX7_step 73 = .ok (.iload_n 1, 1) := by decide +kernel
theorem dX7_step_74 : decode cX7_step 74 = .ok (.iload 5, 2) := by decide +kernel
theorem dX7_step_76 : decode cX7_step 76 = .ok (.iconst 0, 1) := by decide +kernel
theorem dX7_step_77 : decode cX7_step 77 = .ok (.invokestatic 54, 3) := by decide +kernel
theorem dX7_step_80 : decode cX7_step 80 = .ok (.iload_n 2, 1) := by decide +kernel
theorem dX7_step_81 : decode cX7_step 81 = .ok (.iastore, 1) := by decide +kernel
theorem dX7_step_82 : decode cX7_step 82 = .ok (.aload_n 0, 1) := by decide +kernel
theorem dX7_step_83 : decode cX7_step 83 = .ok (.getfield 9, 3) := by decide +kernel
theorem dX7_step_86 : decode cX7_step 86 = .ok (.iload_n 1, 1) := by decide +kernel
theorem dX7_step_87 : decode cX7_step 87 = .ok (.iload 5, 2) := by decide +kernel
theorem dX7_step_89 : decode cX7_step 89 = .ok (.iconst 1, 1) := by decide +kernel
theorem dX7_step_90 : decode cX7_step 90 = .ok (.invokestatic 54, 3) := by decide +kernel
theorem dX7_step_93 : decode cX7_step 93 = .ok (.iload_n 3, 1) := by decide +kernel
theorem dX7_step_94 : decode cX7_step 94 = .ok (.iastore, 1) := by decide +kernel
theorem dX7_step_95 : decode cX7_step 95 = .ok (.aload_n 0, 1) := by decide +kernel
theorem dX7_step_96 : decode cX7_step 96 = .ok (.getfield 9, 3) := by decide +kernel
theorem dX7_step_99 : decode cX7_step 99 = .ok (.iload_n 1, 1) := by decide +kernel
theorem dX7_step_100 : decode cX7_step 100 = .ok (.iload 5, 2) := by decide +kernel
theorem dX7_step_102 : decode cX7_step 102 = .ok (.iconst 2, 1) := by decide +kernel
theorem dX7_step_103 : decode cX7_step 103 = .ok (.invokestatic 54, 3) := by decide +kernel
theorem dX7_step_106 : decode cX7_step 106 = .ok (.iload 4, 2) := by decide +kernel
theorem dX7_step_108 : decode cX7_step 108 = .ok (.iastore, 1) := by decide +kernel
theorem dX7_step_109 : decode cX7_step 109 = .ok (.aload_n 0, 1) := by decide +kernel
theorem dX7_step_110 : decode cX7_step 110 = .ok (.getfield 9, 3) := by decide +kernel
theorem dX7_step_113 : decode cX7_step 113 = .ok (.bipush 14, 2) := by decide +kernel
theorem dX7_step_115 : decode cX7_step 115 = .ok (.bipush 26, 2) := by decide +kernel
theorem dX7_step_117 : decode cX7_step 117 = .ok (.iload_n 1, 1) := by decide +kernel
theorem dX7_step_118 : decode cX7_step 118 = .ok (.imul, 1) := by decide +kernel
theorem dX7_step_119 : decode cX7_step 119 = .ok (.iadd, 1) := by decide +kernel
theorem dX7_step_120 : decode cX7_step 120 = .ok (.iconst 1, 1) := by decide +kernel
theorem dX7_step_121 : decode cX7_step 121 = .ok (.iadd, 1) := by decide +kernel
theorem dX7_step_122 : decode cX7_step 122 = .ok (.iload 5, 2) := by decide +kernel
theorem dX7_step_124 : decode cX7_step 124 = .ok (.iconst 1, 1) := by decide +kernel
theorem dX7_step_125 : decode cX7_step 125 = .ok (.iadd, 1) := by decide +kernel
theorem dX7_step_126 : decode cX7_step 126 = .ok (.iastore, 1) := by decide +kernel
theorem dX7_step_127 : decode cX7_step 127 = .ok (.iload 5, 2) := by decide +kernel
theorem dX7_step_129 : decode cX7_step 129 = .ok (.iconst 1, 1) := by decide +kernel
theorem dX7_step_130 : decode cX7_step 130 = .ok (.iadd, 1) := by decide +kernel
theorem dX7_step_131 : decode cX7_step 131 = .ok (.ireturn, 1) := by decide +kernel
theorem dX7_thingOf_0 : decode cX7_thingOf 0 = .ok (.aload_n 0, 1) := by decide +kernel
theorem dX7_thingOf_1 : decode cX7_thingOf 1 = .ok (.iload_n 1, 1) := by decide +kernel
theorem dX7_thingOf_2 : decode cX7_thingOf 2 = .ok (.invokevirtual 58, 3) := by decide +kernel
theorem dX7_thingOf_5 : decode cX7_thingOf 5 = .ok (.ifCond .eq 36, 3) := by decide +kernel
theorem dX7_thingOf_8 : decode cX7_thingOf 8 = .ok (.iload_n 2, 1) := by decide +kernel
theorem dX7_thingOf_9 : decode cX7_thingOf 9 = .ok (.i2l, 1) := by decide +kernel
theorem dX7_thingOf_10 : decode cX7_thingOf 10 = .ok (.ldc2_w 200, 3) := by decide +kernel
theorem dX7_thingOf_13 : decode cX7_thingOf 13 = .ok (.ldc2_w 171, 3) := by decide +kernel
theorem dX7_thingOf_16 : decode cX7_thingOf 16 = .ok (.invokestatic 46, 3) := by decide +kernel
theorem dX7_thingOf_19 : decode cX7_thingOf 19 = .ok (.ifCond .eq 22, 3) := by decide +kernel
theorem dX7_thingOf_22 : decode cX7_thingOf 22 = .ok (.iload_n 2, 1) := by decide +kernel
theorem dX7_thingOf_23 : decode cX7_thingOf 23 = .ok (.iconst (-1), 1) := by decide +kernel
theorem dX7_thingOf_24 : decode cX7_thingOf 24 = .ok (.if_icmp .ne 11, 3) := by decide +kernel
theorem dX7_thingOf_27 : decode cX7_thingOf 27 = .ok (.aload_n 0, 1) := by decide +kernel
theorem dX7_thingOf_28 : decode cX7_thingOf 28 = .ok (.iload_n 1, 1) := by decide +kernel
theorem dX7_thingOf_29 : decode cX7_thingOf 29 = .ok (.invokevirtual 202, 3) := by decide +kernel
theorem dX7_thingOf_32 : decode cX7_thingOf 32 = .ok (.goto 8, 3) := by decide +kernel
theorem dX7_thingOf_35 : decode cX7_thingOf 35 = .ok (.aload_n 0, 1) := by decide +kernel
theorem dX7_thingOf_36 : decode cX7_thingOf 36 = .ok (.iload_n 1, 1) := by decide +kernel
theorem dX7_thingOf_37 : decode cX7_thingOf 37 = .ok (.invokevirtual 62, 3) := by decide +kernel
theorem dX7_thingOf_40 : decode cX7_thingOf 40 = .ok (.ireturn, 1) := by decide +kernel
theorem dX7_thingOf_41 : decode cX7_thingOf 41 = .ok (.aload_n 0, 1) := by decide +kernel
theorem dX7_thingOf_42 : decode cX7_thingOf 42 = .ok (.iload_n 1, 1) := by decide +kernel
theorem dX7_thingOf_43 : decode cX7_thingOf 43 = .ok (.iload_n 2, 1) := by decide +kernel
theorem dX7_thingOf_44 : decode cX7_thingOf 44 = .ok (.invokevirtual 205, 3) := by decide +kernel
theorem dX7_thingOf_47 : decode cX7_thingOf 47 = .ok (.ifCond .eq 25, 3) := by decide +kernel
theorem dX7_thingOf_50 : decode cX7_thingOf 50 = .ok (.iload_n 3, 1) := by decide +kernel
theorem dX7_thingOf_51 : decode cX7_thingOf 51 = .ok (.i2l, 1) := by decide +kernel
theorem dX7_thingOf_52 : decode cX7_thingOf 52 = .ok (.lconst 0, 1) := by decide +kernel
theorem dX7_thingOf_53 : decode cX7_thingOf 53 = .ok (.ldc2_w 208, 3) := by decide +kernel
theorem dX7_thingOf_56 : decode cX7_thingOf 56 = .ok (.invokestatic 46, 3) := by decide +kernel
theorem dX7_thingOf_59 : decode cX7_thingOf 59 = .ok (.ifCond .eq 13, 3) := by decide +kernel
theorem dX7_thingOf_62 : decode cX7_thingOf 62 = .ok (.aload_n 0, 1) := by decide +kernel
theorem dX7_thingOf_63 : decode cX7_thingOf 63 = .ok (.iload_n 1, 1) := by decide +kernel
theorem dX7_thingOf_64 : decode cX7_thingOf 64 = .ok (.iload_n 2, 1) := by decide +kernel
theorem dX7_thingOf_65 : decode cX7_thingOf 65 = .ok (.iload_n 3, 1) := by decide +kernel
theorem dX7_thingOf_66 : decode cX7_thingOf 66 = .ok (.invokevirtual 210, 3) := by decide +kernel
theorem dX7_thingOf_69 : decode cX7_thingOf 69 = .ok (.goto 9, 3) := by decide +kernel
theorem dX7_thingOf_72 : decode cX7_thingOf 72 = .ok (.aload_n 0, 1) := by decide +kernel
theorem dX7_thingOf_73 : decode cX7_thingOf 73 = .ok (.ldc 40, 2) := by decide +kernel
theorem dX7_thingOf_75 : decode cX7_thingOf 75 = .ok (.invokevirtual 42, 3) := by decide +kernel
theorem dX7_thingOf_78 : decode cX7_thingOf 78 = .ok (.ireturn, 1) := by decide +kernel
theorem dX7_turn_0 : decode cX7_turn 0 = .ok (.aload_n 0, 1) := by decide +kernel
theorem dX7_turn_1 : decode cX7_turn 1 = .ok (.iload_n 1, 1) := by decide +kernel
theorem dX7_turn_2 : decode cX7_turn 2 = .ok (.invokevirtual 58, 3) := by decide +kernel
theorem dX7_turn_5 : decode cX7_turn 5 = .ok (.ifCond .eq 25, 3) := by decide +kernel
theorem dX7_turn_8 : decode cX7_turn 8 = .ok (.iload_n 2, 1) := by decide +kernel
theorem dX7_turn_9 : decode cX7_turn 9 = .ok (.invokestatic 193, 3) := by decide +kernel
theorem dX7_turn_12 : decode cX7_turn 12 = .ok (.ifCond .eq 18, 3) := by decide +kernel
theorem dX7_turn_15 : decode cX7_turn 15 = .ok (.aload_n 0, 1) := by decide +kernel
theorem dX7_turn_16 : decode cX7_turn 16 = .ok (.bipush 14, 2) := by decide +kernel
theorem dX7_turn_18 : decode cX7_turn 18 = .ok (.bipush 26, 2) := by decide +kernel
theorem dX7_turn_20 : decode cX7_turn 20 = .ok (.iload_n 1, 1) := by decide +kernel
theorem dX7_turn_21 : decode cX7_turn 21 = .ok (.imul, 1) := by decide +kernel
theorem dX7_turn_22 : decode cX7_turn 22 = .ok (.iadd, 1) := by decide +kernel
theorem dX7_turn_23 : decode cX7_turn 23 = .ok (.iload_n 2, 1) := by decide +kernel
theorem dX7_turn_24 : decode cX7_turn 24 = .ok (.invokevirtual 168, 3) := by decide +kernel
theorem dX7_turn_27 : decode cX7_turn 27 = .ok (.goto 9, 3) := by decide +kernel
theorem dX7_turn_30 : decode cX7_turn 30 = .ok (.aload_n 0, 1) := by decide +kernel
theorem dX7_turn_31 : decode cX7_turn 31 = .ok (.ldc 40, 2) := by decide +kernel
theorem dX7_turn_33 : decode cX7_turn 33 = .ok (.invokevirtual 42, 3) := by decide +kernel
theorem dX7_turn_36 : decode cX7_turn 36 = .ok (.ireturn, 1) := by decide +kernel
theorem dX7_change_0 : decode cX7_change 0 = .ok (.iload_n 3, 1) := by decide +kernel
theorem dX7_change_1 : decode cX7_change 1 = .ok (.ifCond .ne 12, 3) := by decide +kernel
theorem dX7_change_4 : decode cX7_change 4 = .ok (.aload_n 0, 1) := by decide +kernel
theorem dX7_change_5 : decode cX7_change 5 = .ok (.iload 4, 2) := by decide +kernel
theorem dX7_change_7 : decode cX7_change 7 = .ok (.invokevirtual 177, 3) := by decide +kernel
theorem dX7_change_10 : decode cX7_change 10 = .ok (.goto 44, 3) := by decide +kernel
theorem dX7_change_13 : decode cX7_change 13 = .ok (.iload_n 3, 1) := by decide +kernel
theorem dX7_change_14 : decode cX7_change 14 = .ok (.iconst 1, 1) := by decide +kernel
theorem dX7_change_15 : decode cX7_change 15 = .ok (.if_icmp .ne 16, 3) := by decide +kernel
theorem dX7_change_18 : decode cX7_change 18 = .ok (.iload 4, 2) := by decide +kernel
theorem dX7_change_20 : decode cX7_change 20 = .ok (.i2l, 1) := by decide +kernel
theorem dX7_change_21 : decode cX7_change 21 = .ok (.lconst 1, 1) := by decide +kernel
theorem dX7_change_22 : decode cX7_change 22 = .ok (.ldc2_w 196, 3) := by decide +kernel
theorem dX7_change_25 : decode cX7_change 25 = .ok (.invokestatic 46, 3) := by decide +kernel
theorem dX7_change_28 : decode cX7_change 28 = .ok (.goto 26, 3) := by decide +kernel
theorem dX7_change_31 : decode cX7_change 31 = .ok (.iload_n 3, 1) := by decide +kernel
theorem dX7_change_32 : decode cX7_change 32 = .ok (.iconst 2, 1) := by decide +kernel
theorem dX7_change_33 : decode cX7_change 33 = .ok (.if_icmp .ne 20, 3) := by decide +kernel
theorem dX7_change_36 : decode cX7_change 36 = .ok (.iload 4, 2) := by decide +kernel
theorem dX7_change_38 : decode cX7_change 38 = .ok (.i2l, 1) := by decide +kernel
theorem dX7_change_39 : decode cX7_change 39 = .ok (.lconst 0, 1) := by decide +kernel
theorem dX7_change_40 : decode cX7_change 40 = .ok (.ldc2_w 198, 3) := by decide +kernel
theorem dX7_change_43 : decode cX7_change 43 = .ok (.invokestatic 46, 3) := by decide +kernel
theorem dX7_change_46 : decode cX7_change 46 = .ok (.ifCond .eq 7, 3) := by decide +kernel
theorem dX7_change_49 : decode cX7_change 49 = .ok (.iconst 1, 1) := by decide +kernel
theorem dX7_change_50 : decode cX7_change 50 = .ok (.goto 4, 3) := by decide +kernel
theorem dX7_change_53 : decode cX7_change 53 = .ok (.iconst 0, 1) := by decide +kernel
theorem dX7_change_54 : decode cX7_change 54 = .ok (.istore 5, 2) := by decide +kernel
theorem dX7_change_56 : decode cX7_change 56 = .ok (.aload_n 0, 1) := by decide +kernel
theorem dX7_change_57 : decode cX7_change 57 = .ok (.iload_n 1, 1) := by decide +kernel
theorem dX7_change_58 : decode cX7_change 58 = .ok (.iload_n 2, 1) := by decide +kernel
theorem dX7_change_59 : decode cX7_change 59 = .ok (.invokevirtual 205, 3) := by decide +kernel
theorem dX7_change_62 : decode cX7_change 62 = .ok (.ifCond .eq 23, 3) := by decide +kernel
theorem dX7_change_65 : decode cX7_change 65 = .ok (.iload 5, 2) := by decide +kernel
theorem dX7_change_67 : decode cX7_change 67 = .ok (.ifCond .eq 18, 3) := by decide +kernel
theorem dX7_change_70 : decode cX7_change 70 = .ok (.aload_n 0, 1) := by decide +kernel
theorem dX7_change_71 : decode cX7_change 71 = .ok (.iload_n 1, 1) := by decide +kernel
theorem dX7_change_72 : decode cX7_change 72 = .ok (.iload_n 2, 1) := by decide +kernel
theorem dX7_change_73 : decode cX7_change 73 = .ok (.iload_n 3, 1) := by decide +kernel
theorem dX7_change_74 : decode cX7_change 74 = .ok (.invokestatic 54, 3) := by decide +kernel
theorem dX7_change_77 : decode cX7_change 77 = .ok (.iload 4, 2) := by decide +kernel
theorem dX7_change_79 : decode cX7_change 79 = .ok (.invokevirtual 168, 3) := by decide +kernel
theorem dX7_change_82 : decode cX7_change 82 = .ok (.goto 9, 3) := by decide +kernel
theorem dX7_change_85 : decode cX7_change 85 = .ok (.aload_n 0, 1) := by decide +kernel
theorem dX7_change_86 : decode cX7_change 86 = .ok (.ldc 40, 2) := by decide +kernel
theorem dX7_change_88 : decode cX7_change 88 = .ok (.invokevirtual 42, 3) := by decide +kernel
theorem dX7_change_91 : decode cX7_change 91 = .ok (.ireturn, 1) := by decide +kernel
theorem dX7_firstFrom_0 : decode cX7_firstFrom 0 = .ok (.iload_n 2, 1) := by decide +kernel
theorem dX7_firstFrom_1 : decode cX7_firstFrom 1 = .ok (.istore_n 3, 1) := by decide +kernel
theorem dX7_firstFrom_2 : decode cX7_firstFrom 2 = .ok (.iload_n 3, 1) := by decide +kernel
theorem dX7_firstFrom_3 : decode cX7_firstFrom 3 = .ok (.iload_n 2, 1) := by decide +kernel
theorem dX7_firstFrom_4 : decode cX7_firstFrom 4 = .ok (.bipush 12, 2) := by decide +kernel
theorem dX7_firstFrom_6 : decode cX7_firstFrom 6 = .ok (.iadd, 1) := by decide +kernel
theorem dX7_firstFrom_7 : decode cX7_firstFrom 7 = .ok (.if_icmp .ge 20, 3) := by decide +kernel
theorem dX7_firstFrom_10 : decode cX7_firstFrom 10 = .ok (.aload_n 0, 1) := by decide +kernel
theorem dX7_firstFrom_11 : decode cX7_firstFrom 11 = .ok (.iload_n 1, 1) := by decide +kernel
theorem dX7_firstFrom_12 : decode cX7_firstFrom 12 = .ok (.iload_n 3, 1) := by decide +kernel
theorem dX7_firstFrom_13 : decode cX7_firstFrom 13 = .ok (.invokevirtual 184, 3) := by decide +kernel
theorem dX7_firstFrom_16 : decode cX7_firstFrom 16 = .ok (.ifCond .eq 5, 3) := by decide +kernel
theorem dX7_firstFrom_19 : decode cX7_firstFrom 19 = .ok (.iload_n 3, 1) := by decide +kernel
theorem dX7_firstFrom_20 : decode cX7_firstFrom 20 = .ok (.ireturn, 1) := by decide +kernel
theorem dX7_firstFrom_21 : decode cX7_firstFrom 21 = .ok (.iinc 3 1, 3) := by decide +kernel
theorem dX7_firstFrom_24 : decode cX7_firstFrom 24 = .ok (.goto (-22), 3) := by decide +kernel
theorem dX7_firstFrom_27 : decode cX7_firstFrom 27 = .ok (.iconst (-1), 1) := by decide +kernel
theorem dX7_firstFrom_28 : decode cX7_firstFrom 28 = .ok (.ireturn, 1) := by decide +kernel
theorem dX7_firstNear_0 : decode cX7_firstNear 0 = .ok (.iload_n 2, 1) := by decide +kernel
theorem dX7_firstNear_1 : decode cX7_firstNear 1 = .ok (.istore_n 3, 1) := by decide +kernel
theorem dX7_firstNear_2 : decode cX7_firstNear 2 = .ok (.iload_n 3, 1) := by decide +kernel
theorem dX7_firstNear_3 : decode cX7_firstNear 3 = .ok (.iload_n 2, 1) := by decide +kernel
theorem dX7_firstNear_4 : decode cX7_firstNear 4 = .ok (.bipush 12, 2) := by decide +kernel
theorem dX7_firstNear_6 : decode cX7_firstNear 6 = .ok (.iadd, 1) := by decide +kernel
theorem dX7_firstNear_7 : decode cX7_firstNear 7 = .ok (.if_icmp .ge 20, 3) := by decide +kernel
theorem dX7_firstNear_10 : decode cX7_firstNear 10 = .ok (.aload_n 0, 1) := by decide +kernel
theorem dX7_firstNear_11 : decode cX7_firstNear 11 = .ok (.iload_n 1, 1) := by decide +kernel
theorem dX7_firstNear_12 : decode cX7_firstNear 12 = .ok (.iload_n 3, 1) := by decide +kernel
theorem dX7_firstNear_13 : decode cX7_firstNear 13 = .ok (.invokevirtual 190, 3) := by decide +kernel
theorem dX7_firstNear_16 : decode cX7_firstNear 16 = .ok (.ifCond .eq 5, 3) := by decide +kernel
theorem dX7_firstNear_19 : decode cX7_firstNear 19 = .ok (.iload_n 3, 1) := by decide +kernel
theorem dX7_firstNear_20 : decode cX7_firstNear 20 = .ok (.ireturn, 1) := by decide +kernel
theorem dX7_firstNear_21 : decode cX7_firstNear 21 = .ok (.iinc 3 1, 3) := by decide +kernel
theorem dX7_firstNear_24 : decode cX7_firstNear 24 = .ok (.goto (-22), 3) := by decide +kernel
theorem dX7_firstNear_27 : decode cX7_firstNear 27 = .ok (.iconst (-1), 1) := by decide +kernel
theorem dX7_firstNear_28 : decode cX7_firstNear 28 = .ok (.ireturn, 1) := by decide +kernel
theorem dX7_begin_0 : decode cX7_begin 0 = .ok (.iload_n 1, 1) := by decide +kernel
theorem dX7_begin_1 : decode cX7_begin 1 = .ok (.aload_n 0, 1) := by decide +kernel
theorem dX7_begin_2 : decode cX7_begin 2 = .ok (.getfield 9, 3) := by decide +kernel
theorem dX7_begin_5 : decode cX7_begin 5 = .ok (.iconst 0, 1) := by decide +kernel
theorem dX7_begin_6 : decode cX7_begin 6 = .ok (.iaload, 1) := by decide +kernel
theorem dX7_begin_7 : decode cX7_begin 7 = .ok (.iadd, 1) := by decide +kernel
theorem dX7_begin_8 : decode cX7_begin 8 = .ok (.iconst 1, 1) := by decide +kernel
theorem dX7_begin_9 : decode cX7_begin 9 = .ok (.isub, 1) := by decide +kernel
theorem dX7_begin_10 : decode cX7_begin 10 = .ok (.aload_n 0, 1) := by decide +kernel
theorem dX7_begin_11 : decode cX7_begin 11 = .ok (.getfield 9, 3) := by decide +kernel
theorem dX7_begin_14 : decode cX7_begin 14 = .ok (.iconst 0, 1) := by decide +kernel
theorem dX7_begin_15 : decode cX7_begin 15 = .ok (.iaload, 1) := by decide +kernel
theorem dX7_begin_16 : decode cX7_begin 16 = .ok (.idiv, 1) := by decide +kernel
theorem dX7_begin_17 : decode cX7_begin 17 = .ok (.aload_n 0, 1) := by decide +kernel
theorem dX7_begin_18 : decode cX7_begin 18 = .ok (.getfield 9, 3) := by decide +kernel
theorem dX7_begin_21 : decode cX7_begin 21 = .ok (.iconst 0, 1) := by decide +kernel
theorem dX7_begin_22 : decode cX7_begin 22 = .ok (.iaload, 1) := by decide +kernel
theorem dX7_begin_23 : decode cX7_begin 23 = .ok (.imul, 1) := by decide +kernel
theorem dX7_begin_24 : decode cX7_begin 24 = .ok (.ireturn, 1) := by decide +kernel
theorem dX7_lesser_0 : decode cX7_lesser 0 = .ok (.iload_n 0, 1) := by decide +kernel
theorem dX7_lesser_1 : decode cX7_lesser 1 = .ok (.ifCond .ge 7, 3) := by decide +kernel
theorem dX7_lesser_4 : decode cX7_lesser 4 = .ok (.iload_n 1, 1) := by decide +kernel
theorem dX7_lesser_5 : decode cX7_lesser 5 = .ok (.goto 17, 3) := by decide +kernel
theorem dX7_lesser_8 : decode cX7_lesser 8 = .ok (.iload_n 1, 1) := by decide +kernel
theorem dX7_lesser_9 : decode cX7_lesser 9 = .ok (.ifCond .lt 8, 3) := by decide +kernel
theorem dX7_lesser_12 : decode cX7_lesser 12 = .ok (.iload_n 0, 1) := by decide +kernel
theorem dX7_lesser_13 : decode cX7_lesser 13 = .ok (.iload_n 1, 1) := by decide +kernel
theorem dX7_lesser_14 : decode cX7_lesser 14 = .ok (.if_icmp .ge 7, 3) := by decide +kernel
theorem dX7_lesser_17 : decode cX7_lesser 17 = .ok (.iload_n 0, 1) := by decide +kernel
theorem dX7_lesser_18 : decode cX7_lesser 18 = .ok (.goto 4, 3) := by decide +kernel
theorem dX7_lesser_21 : decode cX7_lesser 21 = .ok (.iload_n 1, 1) := by decide +kernel
theorem dX7_lesser_22 : decode cX7_lesser 22 = .ok (.ireturn, 1) := by decide +kernel
theorem dX7_nextOf_0 : decode cX7_nextOf 0 = .ok (.aload_n 0, 1) := by decide +kernel
theorem dX7_nextOf_1 : decode cX7_nextOf 1 = .ok (.iload_n 1, 1) := by decide +kernel
theorem dX7_nextOf_2 : decode cX7_nextOf 2 = .ok (.iload_n 2, 1) := by decide +kernel
theorem dX7_nextOf_3 : decode cX7_nextOf 3 = .ok (.iconst 0, 1) := by decide +kernel
theorem dX7_nextOf_4 : decode cX7_nextOf 4 = .ok (.invokevirtual 210, 3) := by decide +kernel
theorem dX7_nextOf_7 : decode cX7_nextOf 7 = .ok (.istore 4, 2) := by decide +kernel
theorem dX7_nextOf_9 : decode cX7_nextOf 9 = .ok (.aload_n 0, 1) := by decide +kernel
theorem dX7_nextOf_10 : decode cX7_nextOf 10 = .ok (.iload 4, 2) := by decide +kernel
theorem dX7_nextOf_12 : decode cX7_nextOf 12 = .ok (.iload_n 2, 1) := by decide +kernel
theorem dX7_nextOf_13 : decode cX7_nextOf 13 = .ok (.ifCond .ne 7, 3) := by decide +kernel
theorem dX7_nextOf_16 : decode cX7_nextOf 16 = .ok (.iload_n 3, 1) := by decide +kernel
theorem dX7_nextOf_17 : decode cX7_nextOf 17 = .ok (.goto 6, 3) := by decide +kernel
theorem dX7_nextOf_20 : decode cX7_nextOf 20 = .ok (.iload_n 3, 1) := by decide +kernel
theorem dX7_nextOf_21 : decode cX7_nextOf 21 = .ok (.iconst 1, 1) := by decide +kernel
theorem dX7_nextOf_22 : decode cX7_nextOf 22 = .ok (.iadd, 1) := by decide +kernel
theorem dX7_nextOf_23 : decode cX7_nextOf 23 = .ok (.invokevirtual 213, 3) := by decide +kernel
theorem dX7_nextOf_26 : decode cX7_nextOf 26 = .ok (.istore 5, 2) := by decide +kernel
theorem dX7_nextOf_28 : decode cX7_nextOf 28 = .ok (.aload_n 0, 1) := by decide +kernel
theorem dX7_nextOf_29 : decode cX7_nextOf 29 = .ok (.iload 4, 2) := by decide +kernel
theorem dX7_nextOf_31 : decode cX7_nextOf 31 = .ok (.iload_n 3, 1) := by decide +kernel
theorem dX7_nextOf_32 : decode cX7_nextOf 32 = .ok (.invokevirtual 213, 3) := by decide +kernel
theorem dX7_nextOf_35 : decode cX7_nextOf 35 = .ok (.aload_n 0, 1) := by decide +kernel
theorem dX7_nextOf_36 : decode cX7_nextOf 36 = .ok (.iload 4, 2) := by decide +kernel
theorem dX7_nextOf_38 : decode cX7_nextOf 38 = .ok (.iload_n 3, 1) := by decide +kernel
theorem dX7_nextOf_39 : decode cX7_nextOf 39 = .ok (.iconst 1, 1) := by decide +kernel
theorem dX7_nextOf_40 : decode cX7_nextOf 40 = .ok (.iadd, 1) := by decide +kernel
theorem dX7_nextOf_41 : decode cX7_nextOf 41 = .ok (.invokevirtual 216, 3) := by decide +kernel
theorem dX7_nextOf_44 : decode cX7_nextOf 44 = .ok (.invokestatic 219, 3) := by decide +kernel
theorem dX7_nextOf_47 : decode cX7_nextOf 47 = .ok (.istore 6, 2) := by decide +kernel
theorem dX7_nextOf_49 : decode cX7_nextOf 49 = .ok (.aload_n 0, 1) := by decide +kernel
theorem dX7_nextOf_50 : decode cX7_nextOf 50 = .ok (.iload_n 1, 1) := by decide +kernel
theorem dX7_nextOf_51 : decode cX7_nextOf 51 = .ok (.invokevirtual 202, 3) := by decide +kernel
theorem dX7_nextOf_54 : decode cX7_nextOf 54 = .ok (.tableswitch 141 1 6 #[38, 46, 67, 92, 95, 122], 38) := by decide +kernel
theorem dX7_nextOf_92 : decode cX7_nextOf 92 = .ok (.aload_n 0, 1) := by decide +kernel
theorem dX7_nextOf_93 : decode cX7_nextOf 93 = .ok (.iload 4, 2) := by decide +kernel
theorem dX7_nextOf_95 : decode cX7_nextOf 95 = .ok (.iload_n 3, 1) := by decide +kernel
theorem dX7_nextOf_96 : decode cX7_nextOf 96 = .ok (.invokevirtual 213, 3) := by decide +kernel
theorem dX7_nextOf_99 : decode cX7_nextOf 99 = .ok (.ireturn, 1) := by decide +kernel
theorem dX7_nextOf_100 : decode cX7_nextOf 100 = .ok (.iload_n 2, 1) := by decide +kernel
theorem dX7_nextOf_101 : decode cX7_nextOf 101 = .ok (.ifCond .ne 17, 3) := by decide +kernel
theorem dX7_nextOf_104 : decode cX7_nextOf 104 = .ok (.aload_n 0, 1) := by decide +kernel
theorem dX7_nextOf_105 : decode cX7_nextOf 105 = .ok (.iload 4, 2) := by decide +kernel
theorem dX7_nextOf_107 : decode cX7_nextOf 107 = .ok (.aload_n 0, 1) := by decide +kernel
theorem dX7_nextOf_108 : decode cX7_nextOf 108 = .ok (.iload_n 3, 1) := by decide +kernel
theorem dX7_nextOf_109 : decode cX7_nextOf 109 = .ok (.invokevirtual 222, 3) := by decide +kernel
theorem dX7_nextOf_112 : decode cX7_nextOf 112 = .ok (.invokevirtual 213, 3) := by decide +kernel
theorem dX7_nextOf_115 : decode cX7_nextOf 115 = .ok (.goto 5, 3) := by decide +kernel
theorem dX7_nextOf_118 : decode cX7_nextOf 118 = .ok (.iload 5, 2) := by decide +kernel
theorem dX7_nextOf_120 : decode cX7_nextOf 120 = .ok (.ireturn, 1) := by decide +kernel
theorem dX7_nextOf_121 : decode cX7_nextOf 121 = .ok (.iload_n 2, 1) := by decide +kernel
theorem dX7_nextOf_122 : decode cX7_nextOf 122 = .ok (.ifCond .le 21, 3) := by decide +kernel
theorem dX7_nextOf_125 : decode cX7_nextOf 125 = .ok (.aload_n 0, 1) := by decide +kernel
theorem dX7_nextOf_126 : decode cX7_nextOf 126 = .ok (.iload_n 1, 1) := by decide +kernel
theorem dX7_nextOf_127 : decode cX7_nextOf 127 = .ok (.iload_n 2, 1) := by decide +kernel
theorem dX7_nextOf_128 : decode cX7_nextOf 128 = .ok (.iconst 1, 1) := by decide +kernel
theorem dX7_nextOf_129 : decode cX7_nextOf 129 = .ok (.isub, 1) := by decide +kernel
theorem dX7_nextOf_130 : decode cX7_nextOf 130 = .ok (.iconst 0, 1) := by decide +kernel
theorem dX7_nextOf_131 : decode cX7_nextOf 131 = .ok (.invokevirtual 210, 3) := by decide +kernel
theorem dX7_nextOf_134 : decode cX7_nextOf 134 = .ok (.iload 4, 2) := by decide +kernel
theorem dX7_nextOf_136 : decode cX7_nextOf 136 = .ok (.if_icmp .ne 7, 3) := by decide +kernel
theorem dX7_nextOf_139 : decode cX7_nextOf 139 = .ok (.iload_n 3, 1) := by decide +kernel
theorem dX7_nextOf_140 : decode cX7_nextOf 140 = .ok (.goto 5, 3) := by decide +kernel
theorem dX7_nextOf_143 : decode cX7_nextOf 143 = .ok (.iload 5, 2) := by decide +kernel
theorem dX7_nextOf_145 : decode cX7_nextOf 145 = .ok (.ireturn, 1) := by decide +kernel
theorem dX7_nextOf_146 : decode cX7_nextOf 146 = .ok (.iload 6, 2) := by decide +kernel
theorem dX7_nextOf_148 : decode cX7_nextOf 148 = .ok (.ireturn, 1) := by decide +kernel
theorem dX7_nextOf_149 : decode cX7_nextOf 149 = .ok (.iload_n 2, 1) := by decide +kernel
theorem dX7_nextOf_150 : decode cX7_nextOf 150 = .ok (.aload_n 0, 1) := by decide +kernel
theorem dX7_nextOf_151 : decode cX7_nextOf 151 = .ok (.iload_n 1, 1) := by decide +kernel
theorem dX7_nextOf_152 : decode cX7_nextOf 152 = .ok (.invokevirtual 62, 3) := by decide +kernel
theorem dX7_nextOf_155 : decode cX7_nextOf 155 = .ok (.iconst 1, 1) := by decide +kernel
theorem dX7_nextOf_156 : decode cX7_nextOf 156 = .ok (.isub, 1) := by decide +kernel
theorem dX7_nextOf_157 : decode cX7_nextOf 157 = .ok (.if_icmp .ne 16, 3) := by decide +kernel
theorem dX7_nextOf_160 : decode cX7_nextOf 160 = .ok (.iload 6, 2) := by decide +kernel
theorem dX7_nextOf_162 : decode cX7_nextOf 162 = .ok (.aload_n 0, 1) := by decide +kernel
theorem dX7_nextOf_163 : decode cX7_nextOf 163 = .ok (.iload_n 3, 1) := by decide +kernel
theorem dX7_nextOf_164 : decode cX7_nextOf 164 = .ok (.invokevirtual 222, 3) := by decide +kernel
theorem dX7_nextOf_167 : decode cX7_nextOf 167 = .ok (.invokestatic 219, 3) := by decide +kernel
theorem dX7_nextOf_170 : decode cX7_nextOf 170 = .ok (.goto 5, 3) := by decide +kernel
theorem dX7_nextOf_173 : decode cX7_nextOf 173 = .ok (.iload 6, 2) := by decide +kernel
theorem dX7_nextOf_175 : decode cX7_nextOf 175 = .ok (.ireturn, 1) := by decide +kernel
theorem dX7_nextOf_176 : decode cX7_nextOf 176 = .ok (.iload_n 2, 1) := by decide +kernel
theorem dX7_nextOf_177 : decode cX7_nextOf 177 = .ok (.ifCond .ne 8, 3) := by decide +kernel
theorem dX7_nextOf_180 : decode cX7_nextOf 180 = .ok (.iload 5, 2) := by decide +kernel
theorem dX7_nextOf_182 : decode cX7_nextOf 182 = .ok (.goto 12, 3) := by decide +kernel
theorem dX7_nextOf_185 : decode cX7_nextOf 185 = .ok (.aload_n 0, 1) := by decide +kernel
theorem dX7_nextOf_186 : decode cX7_nextOf 186 = .ok (.iload 4, 2) := by decide +kernel
theorem dX7_nextOf_188 : decode cX7_nextOf 188 = .ok (.iload_n 3, 1) := by decide +kernel
theorem dX7_nextOf_189 : decode cX7_nextOf 189 = .ok (.iconst 2, 1) := by decide +kernel
theorem dX7_nextOf_190 : decode cX7_nextOf 190 = .ok (.iadd, 1) := by decide +kernel
theorem dX7_nextOf_191 : decode cX7_nextOf 191 = .ok (.invokevirtual 213, 3) := by decide +kernel
theorem dX7_nextOf_194 : decode cX7_nextOf 194 = .ok (.ireturn, 1) := by decide +kernel
theorem dX7_nextOf_195 : decode cX7_nextOf 195 = .ok (.iload 5, 2) := by decide +kernel
theorem dX7_nextOf_197 : decode cX7_nextOf 197 = .ok (.ireturn, 1) := by decide +kernel
theorem dX7_next_0 : decode cX7_next 0 = .ok (.aload_n 0, 1) := by decide +kernel
theorem dX7_next_1 : decode cX7_next 1 = .ok (.iload_n 1, 1) := by decide +kernel
theorem dX7_next_2 : decode cX7_next 2 = .ok (.iload_n 2, 1) := by decide +kernel
theorem dX7_next_3 : decode cX7_next 3 = .ok (.invokevirtual 205, 3) := by decide +kernel
theorem dX7_next_6 : decode cX7_next 6 = .ok (.ifCond .eq 24, 3) := by decide +kernel
theorem dX7_next_9 : decode cX7_next 9 = .ok (.iload_n 3, 1) := by decide +kernel
theorem dX7_next_10 : decode cX7_next 10 = .ok (.invokestatic 187, 3) := by decide +kernel
theorem dX7_next_13 : decode cX7_next 13 = .ok (.ifCond .eq 17, 3) := by decide +kernel
theorem dX7_next_16 : decode cX7_next 16 = .ok (.aload_n 0, 1) := by decide +kernel
theorem dX7_next_17 : decode cX7_next 17 = .ok (.aload_n 0, 1) := by decide +kernel
theorem dX7_next_18 : decode cX7_next 18 = .ok (.iload_n 1, 1) := by decide +kernel
theorem dX7_next_19 : decode cX7_next 19 = .ok (.iload_n 2, 1) := by decide +kernel
theorem dX7_next_20 : decode cX7_next 20 = .ok (.iload_n 3, 1) := by decide +kernel
theorem dX7_next_21 : decode cX7_next 21 = .ok (.invokevirtual 225, 3) := by decide +kernel
theorem dX7_next_24 : decode cX7_next 24 = .ok (.invokevirtual 228, 3) := by decide +kernel
theorem dX7_next_27 : decode cX7_next 27 = .ok (.goto 9, 3) := by decide +kernel
theorem dX7_next_30 : decode cX7_next 30 = .ok (.aload_n 0, 1) := by decide +kernel
theorem dX7_next_31 : decode cX7_next 31 = .ok (.ldc 40, 2) := by decide +kernel
theorem dX7_next_33 : decode cX7_next 33 = .ok (.invokevirtual 42, 3) := by decide +kernel
theorem dX7_next_36 : decode cX7_next 36 = .ok (.ireturn, 1) := by decide +kernel
theorem dX7_runs_0 : decode cX7_runs 0 = .ok (.iload_n 2, 1) := by decide +kernel
theorem dX7_runs_1 : decode cX7_runs 1 = .ok (.istore_n 3, 1) := by decide +kernel
theorem dX7_runs_2 : decode cX7_runs 2 = .ok (.iconst 0, 1) := by decide +kernel
theorem dX7_runs_3 : decode cX7_runs 3 = .ok (.istore 4, 2) := by decide +kernel
theorem dX7_runs_5 : decode cX7_runs 5 = .ok (.iload 4, 2) := by decide +kernel
theorem dX7_runs_7 : decode cX7_runs 7 = .ok (.aload_n 0, 1) := by decide +kernel
theorem dX7_runs_8 : decode cX7_runs 8 = .ok (.iload_n 1, 1) := by decide +kernel
theorem dX7_runs_9 : decode cX7_runs 9 = .ok (.invokevirtual 62, 3) := by decide +kernel
theorem dX7_runs_12 : decode cX7_runs 12 = .ok (.if_icmp .ge 59, 3) := by decide +kernel
theorem dX7_runs_15 : decode cX7_runs 15 = .ok (.aload_n 0, 1) := by decide +kernel
theorem dX7_runs_16 : decode cX7_runs 16 = .ok (.iload_n 1, 1) := by decide +kernel
theorem dX7_runs_17 : decode cX7_runs 17 = .ok (.iload 4, 2) := by decide +kernel
theorem dX7_runs_19 : decode cX7_runs 19 = .ok (.iload_n 3, 1) := by decide +kernel
theorem dX7_runs_20 : decode cX7_runs 20 = .ok (.invokevirtual 225, 3) := by decide +kernel
theorem dX7_runs_23 : decode cX7_runs 23 = .ok (.istore 5, 2) := by decide +kernel
theorem dX7_runs_25 : decode cX7_runs 25 = .ok (.iload 5, 2) := by decide +kernel
theorem dX7_runs_27 : decode cX7_runs 27 = .ok (.ifCond .lt 23, 3) := by decide +kernel
theorem dX7_runs_30 : decode cX7_runs 30 = .ok (.iload 4, 2) := by decide +kernel
theorem dX7_runs_32 : decode cX7_runs 32 = .ok (.ifCond .le 21, 3) := by decide +kernel
theorem dX7_runs_35 : decode cX7_runs 35 = .ok (.iload 5, 2) := by decide +kernel
theorem dX7_runs_37 : decode cX7_runs 37 = .ok (.iload_n 3, 1) := by decide +kernel
theorem dX7_runs_38 : decode cX7_runs 38 = .ok (.isub, 1) := by decide +kernel
theorem dX7_runs_39 : decode cX7_runs 39 = .ok (.aload_n 0, 1) := by decide +kernel
theorem dX7_runs_40 : decode cX7_runs 40 = .ok (.iload_n 1, 1) := by decide +kernel
theorem dX7_runs_41 : decode cX7_runs 41 = .ok (.iload 4, 2) := by decide +kernel
theorem dX7_runs_43 : decode cX7_runs 43 = .ok (.iconst 2, 1) := by decide +kernel
theorem dX7_runs_44 : decode cX7_runs 44 = .ok (.invokevirtual 210, 3) := by decide +kernel
theorem dX7_runs_47 : decode cX7_runs 47 = .ok (.if_icmp .le 6, 3) := by decide +kernel
theorem dX7_runs_50 : decode cX7_runs 50 = .ok (.iload 4, 2) := by decide +kernel
theorem dX7_runs_52 : decode cX7_runs 52 = .ok (.ireturn, 1) := by decide +kernel
theorem dX7_runs_53 : decode cX7_runs 53 = .ok (.aload_n 0, 1) := by decide +kernel
theorem dX7_runs_54 : decode cX7_runs 54 = .ok (.getfield 25, 3) := by decide +kernel
theorem dX7_runs_57 : decode cX7_runs 57 = .ok (.iload 4, 2) := by decide +kernel
theorem dX7_runs_59 : decode cX7_runs 59 = .ok (.iload 5, 2) := by decide +kernel
theorem dX7_runs_61 : decode cX7_runs 61 = .ok (.iastore, 1) := by decide +kernel
theorem dX7_runs_62 : decode cX7_runs 62 = .ok (.iload 5, 2) := by decide +kernel
theorem dX7_runs_64 : decode cX7_runs 64 = .ok (.istore_n 3, 1) := by decide +kernel
theorem dX7_runs_65 : decode cX7_runs 65 = .ok (.iinc 4 1, 3) := by decide +kernel
theorem dX7_runs_68 : decode cX7_runs 68 = .ok (.goto (-63), 3) := by decide +kernel
theorem dX7_runs_71 : decode cX7_runs 71 = .ok (.iconst (-1), 1) := by decide +kernel
theorem dX7_runs_72 : decode cX7_runs 72 = .ok (.ireturn, 1) := by decide +kernel
theorem dX7_lastDay_0 : decode cX7_lastDay 0 = .ok (.aload_n 0, 1) := by decide +kernel
theorem dX7_lastDay_1 : decode cX7_lastDay 1 = .ok (.getfield 25, 3) := by decide +kernel
theorem dX7_lastDay_4 : decode cX7_lastDay 4 = .ok (.aload_n 0, 1) := by decide +kernel
theorem dX7_lastDay_5 : decode cX7_lastDay 5 = .ok (.iload_n 1, 1) := by decide +kernel
theorem dX7_lastDay_6 : decode cX7_lastDay 6 = .ok (.invokevirtual 62, 3) := by decide +kernel
theorem dX7_lastDay_9 : decode cX7_lastDay 9 = .ok (.iconst 1, 1) := by decide +kernel
theorem dX7_lastDay_10 : decode cX7_lastDay 10 = .ok (.isub, 1) := by decide +kernel
theorem dX7_lastDay_11 : decode cX7_lastDay 11 = .ok (.iaload, 1) := by decide +kernel
theorem dX7_lastDay_12 : decode cX7_lastDay 12 = .ok (.ireturn, 1) := by decide +kernel
theorem dX7_run_0 : decode cX7_run 0 = .ok (.aload_n 0, 1) := by decide +kernel
theorem dX7_run_1 : decode cX7_run 1 = .ok (.iload_n 1, 1) := by decide +kernel
theorem dX7_run_2 : decode cX7_run 2 = .ok (.iload_n 3, 1) := by decide +kernel
theorem dX7_run_3 : decode cX7_run 3 = .ok (.invokevirtual 205, 3) := by decide +kernel
theorem dX7_run_6 : decode cX7_run 6 = .ok (.ifCond .eq 10, 3) := by decide +kernel
theorem dX7_run_9 : decode cX7_run 9 = .ok (.iload_n 2, 1) := by decide +kernel
theorem dX7_run_10 : decode cX7_run 10 = .ok (.invokestatic 187, 3) := by decide +kernel
theorem dX7_run_13 : decode cX7_run 13 = .ok (.ifCond .ne 10, 3) := by decide +kernel
theorem dX7_run_16 : decode cX7_run 16 = .ok (.aload_n 0, 1) := by decide +kernel
theorem dX7_run_17 : decode cX7_run 17 = .ok (.ldc 40, 2) := by decide +kernel
theorem dX7_run_19 : decode cX7_run 19 = .ok (.invokevirtual 42, 3) := by decide +kernel
theorem dX7_run_22 : decode cX7_run 22 = .ok (.ireturn, 1) := by decide +kernel
theorem dX7_run_23 : decode cX7_run 23 = .ok (.aload_n 0, 1) := by decide +kernel
theorem dX7_run_24 : decode cX7_run 24 = .ok (.iload_n 1, 1) := by decide +kernel
theorem dX7_run_25 : decode cX7_run 25 = .ok (.iload_n 2, 1) := by decide +kernel
theorem dX7_run_26 : decode cX7_run 26 = .ok (.invokevirtual 231, 3) := by decide +kernel
theorem dX7_run_29 : decode cX7_run 29 = .ok (.ifCond .lt 12, 3) := by decide +kernel
theorem dX7_run_32 : decode cX7_run 32 = .ok (.aload_n 0, 1) := by decide +kernel
theorem dX7_run_33 : decode cX7_run 33 = .ok (.ldc 41, 2) := by decide +kernel
theorem dX7_run_35 : decode cX7_run 35 = .ok (.invokevirtual 42, 3) := by decide +kernel
theorem dX7_run_38 : decode cX7_run 38 = .ok (.goto 9, 3) := by decide +kernel
theorem dX7_run_41 : decode cX7_run 41 = .ok (.aload_n 0, 1) := by decide +kernel
theorem dX7_run_42 : decode cX7_run 42 = .ok (.getfield 25, 3) := by decide +kernel
theorem dX7_run_45 : decode cX7_run 45 = .ok (.iload_n 3, 1) := by decide +kernel
theorem dX7_run_46 : decode cX7_run 46 = .ok (.iaload, 1) := by decide +kernel
theorem dX7_run_47 : decode cX7_run 47 = .ok (.ireturn, 1) := by decide +kernel
theorem dX7_spoils_0 : decode cX7_spoils 0 = .ok (.aload_n 0, 1) := by decide +kernel
theorem dX7_spoils_1 : decode cX7_spoils 1 = .ok (.iload_n 1, 1) := by decide +kernel
theorem dX7_spoils_2 : decode cX7_spoils 2 = .ok (.invokevirtual 58, 3) := by decide +kernel
theorem dX7_spoils_5 : decode cX7_spoils 5 = .ok (.ifCond .eq 23, 3) := by decide +kernel
theorem dX7_spoils_8 : decode cX7_spoils 8 = .ok (.iload_n 2, 1) := by decide +kernel
theorem dX7_spoils_9 : decode cX7_spoils 9 = .ok (.invokestatic 187, 3) := by decide +kernel
theorem dX7_spoils_12 : decode cX7_spoils 12 = .ok (.ifCond .eq 16, 3) := by decide +kernel
theorem dX7_spoils_15 : decode cX7_spoils 15 = .ok (.aload_n 0, 1) := by decide +kernel
theorem dX7_spoils_16 : decode cX7_spoils 16 = .ok (.aload_n 0, 1) := by decide +kernel
theorem dX7_spoils_17 : decode cX7_spoils 17 = .ok (.iload_n 1, 1) := by decide +kernel
theorem dX7_spoils_18 : decode cX7_spoils 18 = .ok (.iload_n 2, 1) := by decide +kernel
theorem dX7_spoils_19 : decode cX7_spoils 19 = .ok (.invokevirtual 231, 3) := by decide +kernel
theorem dX7_spoils_22 : decode cX7_spoils 22 = .ok (.invokevirtual 228, 3) := by decide +kernel
theorem dX7_spoils_25 : decode cX7_spoils 25 = .ok (.goto 9, 3) := by decide +kernel
theorem dX7_spoils_28 : decode cX7_spoils 28 = .ok (.aload_n 0, 1) := by decide +kernel
theorem dX7_spoils_29 : decode cX7_spoils 29 = .ok (.ldc 40, 2) := by decide +kernel
theorem dX7_spoils_31 : decode cX7_spoils 31 = .ok (.invokevirtual 42, 3) := by decide +kernel
theorem dX7_spoils_34 : decode cX7_spoils 34 = .ok (.ireturn, 1) := by decide +kernel
theorem dX7_beginsAt_0 : decode cX7_beginsAt 0 = .ok (.iload_n 2, 1) := by decide +kernel
theorem dX7_beginsAt_1 : decode cX7_beginsAt 1 = .ok (.istore_n 3, 1) := by decide +kernel
theorem dX7_beginsAt_2 : decode cX7_beginsAt 2 = .ok (.iload_n 3, 1) := by decide +kernel
theorem dX7_beginsAt_3 : decode cX7_beginsAt 3 = .ok (.iload_n 2, 1) := by decide +kernel
theorem dX7_beginsAt_4 : decode cX7_beginsAt 4 = .ok (.sipush 200, 3) := by decide +kernel
theorem dX7_beginsAt_7 : decode cX7_beginsAt 7 = .ok (.iadd, 1) := by decide +kernel
theorem dX7_beginsAt_8 : decode cX7_beginsAt 8 = .ok (.if_icmp .gt 20, 3) := by decide +kernel
theorem dX7_beginsAt_11 : decode cX7_beginsAt 11 = .ok (.aload_n 0, 1) := by decide +kernel
theorem dX7_beginsAt_12 : decode cX7_beginsAt 12 = .ok (.iload_n 1, 1) := by decide +kernel
theorem dX7_beginsAt_13 : decode cX7_beginsAt 13 = .ok (.iload_n 3, 1) := by decide +kernel
theorem dX7_beginsAt_14 : decode cX7_beginsAt 14 = .ok (.invokevirtual 231, 3) := by decide +kernel
theorem dX7_beginsAt_17 : decode cX7_beginsAt 17 = .ok (.ifCond .ge 5, 3) := by decide +kernel
theorem dX7_beginsAt_20 : decode cX7_beginsAt 20 = .ok (.iload_n 3, 1) := by decide +kernel
theorem dX7_beginsAt_21 : decode cX7_beginsAt 21 = .ok (.ireturn, 1) := by decide +kernel
theorem dX7_beginsAt_22 : decode cX7_beginsAt 22 = .ok (.iinc 3 1, 3) := by decide +kernel
theorem dX7_beginsAt_25 : decode cX7_beginsAt 25 = .ok (.goto (-23), 3) := by decide +kernel
theorem dX7_beginsAt_28 : decode cX7_beginsAt 28 = .ok (.iconst (-1), 1) := by decide +kernel
theorem dX7_beginsAt_29 : decode cX7_beginsAt 29 = .ok (.ireturn, 1) := by decide +kernel
theorem dX7_readyAt_0 : decode cX7_readyAt 0 = .ok (.aload_n 0, 1) := by decide +kernel
theorem dX7_readyAt_1 : decode cX7_readyAt 1 = .ok (.iload_n 1, 1) := by decide +kernel
theorem dX7_readyAt_2 : decode cX7_readyAt 2 = .ok (.iload_n 2, 1) := by decide +kernel
theorem dX7_readyAt_3 : decode cX7_readyAt 3 = .ok (.invokevirtual 234, 3) := by decide +kernel
theorem dX7_readyAt_6 : decode cX7_readyAt 6 = .ok (.ifCond .ge 7, 3) := by decide +kernel
theorem dX7_readyAt_9 : decode cX7_readyAt 9 = .ok (.iconst (-1), 1) := by decide +kernel
theorem dX7_readyAt_10 : decode cX7_readyAt 10 = .ok (.goto 8, 3) := by decide +kernel
theorem dX7_readyAt_13 : decode cX7_readyAt 13 = .ok (.aload_n 0, 1) := by decide +kernel
theorem dX7_readyAt_14 : decode cX7_readyAt 14 = .ok (.iload_n 1, 1) := by decide +kernel
theorem dX7_readyAt_15 : decode cX7_readyAt 15 = .ok (.invokevirtual 237, 3) := by decide +kernel
theorem dX7_readyAt_18 : decode cX7_readyAt 18 = .ok (.ireturn, 1) := by decide +kernel
theorem dX7_ready_0 : decode cX7_ready 0 = .ok (.aload_n 0, 1) := by decide +kernel
theorem dX7_ready_1 : decode cX7_ready 1 = .ok (.iload_n 1, 1) := by decide +kernel
theorem dX7_ready_2 : decode cX7_ready 2 = .ok (.invokevirtual 58, 3) := by decide +kernel
theorem dX7_ready_5 : decode cX7_ready 5 = .ok (.ifCond .eq 23, 3) := by decide +kernel
theorem dX7_ready_8 : decode cX7_ready 8 = .ok (.iload_n 2, 1) := by decide +kernel
theorem dX7_ready_9 : decode cX7_ready 9 = .ok (.invokestatic 187, 3) := by decide +kernel
theorem dX7_ready_12 : decode cX7_ready 12 = .ok (.ifCond .eq 16, 3) := by decide +kernel
theorem dX7_ready_15 : decode cX7_ready 15 = .ok (.aload_n 0, 1) := by decide +kernel
theorem dX7_ready_16 : decode cX7_ready 16 = .ok (.aload_n 0, 1) := by decide +kernel
theorem dX7_ready_17 : decode cX7_ready 17 = .ok (.iload_n 1, 1) := by decide +kernel
theorem dX7_ready_18 : decode cX7_ready 18 = .ok (.iload_n 2, 1) := by decide +kernel
theorem dX7_ready_19 : decode cX7_ready 19 = .ok (.invokevirtual 240, 3) := by decide +kernel
theorem dX7_ready_22 : decode cX7_ready 22 = .ok (.invokevirtual 228, 3) := by decide +kernel
theorem dX7_ready_25 : decode cX7_ready 25 = .ok (.goto 9, 3) := by decide +kernel
theorem dX7_ready_28 : decode cX7_ready 28 = .ok (.aload_n 0, 1) := by decide +kernel
theorem dX7_ready_29 : decode cX7_ready 29 = .ok (.ldc 40, 2) := by decide +kernel
theorem dX7_ready_31 : decode cX7_ready 31 = .ok (.invokevirtual 42, 3) := by decide +kernel
theorem dX7_ready_34 : decode cX7_ready 34 = .ok (.ireturn, 1) := by decide +kernel
theorem dX7_begun_0 : decode cX7_begun 0 = .ok (.aload_n 0, 1) := by decide +kernel
theorem dX7_begun_1 : decode cX7_begun 1 = .ok (.iload_n 1, 1) := by decide +kernel
theorem dX7_begun_2 : decode cX7_begun 2 = .ok (.invokevirtual 58, 3) := by decide +kernel
theorem dX7_begun_5 : decode cX7_begun 5 = .ok (.ifCond .eq 23, 3) := by decide +kernel
theorem dX7_begun_8 : decode cX7_begun 8 = .ok (.iload_n 2, 1) := by decide +kernel
theorem dX7_begun_9 : decode cX7_begun 9 = .ok (.invokestatic 187, 3) := by decide +kernel
theorem dX7_begun_12 : decode cX7_begun 12 = .ok (.ifCond .eq 16, 3) := by decide +kernel
theorem dX7_begun_15 : decode cX7_begun 15 = .ok (.aload_n 0, 1) := by decide +kernel
theorem dX7_begun_16 : decode cX7_begun 16 = .ok (.aload_n 0, 1) := by decide +kernel
theorem dX7_begun_17 : decode cX7_begun 17 = .ok (.iload_n 1, 1) := by decide +kernel
theorem dX7_begun_18 : decode cX7_begun 18 = .ok (.iload_n 2, 1) := by decide +kernel
theorem dX7_begun_19 : decode cX7_begun 19 = .ok (.invokevirtual 234, 3) := by decide +kernel
theorem dX7_begun_22 : decode cX7_begun 22 = .ok (.invokevirtual 228, 3) := by decide +kernel
theorem dX7_begun_25 : decode cX7_begun 25 = .ok (.goto 9, 3) := by decide +kernel
theorem dX7_begun_28 : decode cX7_begun 28 = .ok (.aload_n 0, 1) := by decide +kernel
theorem dX7_begun_29 : decode cX7_begun 29 = .ok (.ldc 40, 2) := by decide +kernel
theorem dX7_begun_31 : decode cX7_begun 31 = .ok (.invokevirtual 42, 3) := by decide +kernel
theorem dX7_begun_34 : decode cX7_begun 34 = .ok (.ireturn, 1) := by decide +kernel
theorem dX7_latest_0 : decode cX7_latest 0 = .ok (.aload_n 0, 1) := by decide +kernel
theorem dX7_latest_1 : decode cX7_latest 1 = .ok (.iload_n 1, 1) := by decide +kernel
theorem dX7_latest_2 : decode cX7_latest 2 = .ok (.invokevirtual 58, 3) := by decide +kernel
theorem dX7_latest_5 : decode cX7_latest 5 = .ok (.ifCond .eq 15, 3) := by decide +kernel
theorem dX7_latest_8 : decode cX7_latest 8 = .ok (.iload_n 2, 1) := by decide +kernel
theorem dX7_latest_9 : decode cX7_latest 9 = .ok (.i2l, 1) := by decide +kernel
theorem dX7_latest_10 : decode cX7_latest 10 = .ok (.lconst 0, 1) := by decide +kernel
theorem dX7_latest_11 : decode cX7_latest 11 = .ok (.ldc2_w 243, 3) := by decide +kernel
theorem dX7_latest_14 : decode cX7_latest 14 = .ok (.invokestatic 46, 3) := by decide +kernel
theorem dX7_latest_17 : decode cX7_latest 17 = .ok (.ifCond .ne 10, 3) := by decide +kernel
theorem dX7_latest_20 : decode cX7_latest 20 = .ok (.aload_n 0, 1) := by decide +kernel
theorem dX7_latest_21 : decode cX7_latest 21 = .ok (.ldc 40, 2) := by decide +kernel
theorem dX7_latest_23 : decode cX7_latest 23 = .ok (.invokevirtual 42, 3) := by decide +kernel
theorem dX7_latest_26 : decode cX7_latest 26 = .ok (.ireturn, 1) := by decide +kernel
theorem dX7_latest_27 : decode cX7_latest 27 = .ok (.iconst (-1), 1) := by decide +kernel
theorem dX7_latest_28 : decode cX7_latest 28 = .ok (.istore_n 3, 1) := by decide +kernel
theorem dX7_latest_29 : decode cX7_latest 29 = .ok (.iconst 0, 1) := by decide +kernel
theorem dX7_latest_30 : decode cX7_latest 30 = .ok (.istore 4, 2) := by decide +kernel
theorem dX7_latest_32 : decode cX7_latest 32 = .ok (.iload 4, 2) := by decide +kernel
theorem dX7_latest_34 : decode cX7_latest 34 = .ok (.iload_n 2, 1) := by decide +kernel
theorem dX7_latest_35 : decode cX7_latest 35 = .ok (.if_icmp .gt 35, 3) := by decide +kernel
theorem dX7_latest_38 : decode cX7_latest 38 = .ok (.aload_n 0, 1) := by decide +kernel
theorem dX7_latest_39 : decode cX7_latest 39 = .ok (.iload_n 1, 1) := by decide +kernel
theorem dX7_latest_40 : decode cX7_latest 40 = .ok (.iload 4, 2) := by decide +kernel
theorem dX7_latest_42 : decode cX7_latest 42 = .ok (.invokevirtual 231, 3) := by decide +kernel
theorem dX7_latest_45 : decode cX7_latest 45 = .ok (.ifCond .ge 17, 3) := by decide +kernel
theorem dX7_latest_48 : decode cX7_latest 48 = .ok (.aload_n 0, 1) := by decide +kernel
theorem dX7_latest_49 : decode cX7_latest 49 = .ok (.iload_n 1, 1) := by decide +kernel
theorem dX7_latest_50 : decode cX7_latest 50 = .ok (.invokevirtual 237, 3) := by decide +kernel
theorem dX7_latest_53 : decode cX7_latest 53 = .ok (.iload_n 2, 1) := by decide +kernel
theorem dX7_latest_54 : decode cX7_latest 54 = .ok (.if_icmp .gt 8, 3) := by decide +kernel
theorem dX7_latest_57 : decode cX7_latest 57 = .ok (.iload 4, 2) := by decide +kernel
theorem dX7_latest_59 : decode cX7_latest 59 = .ok (.goto 4, 3) := by decide +kernel
theorem dX7_latest_62 : decode cX7_latest 62 = .ok (.iload_n 3, 1) := by decide +kernel
theorem dX7_latest_63 : decode cX7_latest 63 = .ok (.istore_n 3, 1) := by decide +kernel
theorem dX7_latest_64 : decode cX7_latest 64 = .ok (.iinc 4 1, 3) := by decide +kernel
theorem dX7_latest_67 : decode cX7_latest 67 = .ok (.goto (-35), 3) := by decide +kernel
theorem dX7_latest_70 : decode cX7_latest 70 = .ok (.aload_n 0, 1) := by decide +kernel
theorem dX7_latest_71 : decode cX7_latest 71 = .ok (.iload_n 3, 1) := by decide +kernel
theorem dX7_latest_72 : decode cX7_latest 72 = .ok (.invokevirtual 228, 3) := by decide +kernel
theorem dX7_latest_75 : decode cX7_latest 75 = .ok (.ireturn, 1) := by decide +kernel
theorem dX7_waits_0 : decode cX7_waits 0 = .ok (.aload_n 0, 1) := by decide +kernel
theorem dX7_waits_1 : decode cX7_waits 1 = .ok (.iload_n 1, 1) := by decide +kernel
theorem dX7_waits_2 : decode cX7_waits 2 = .ok (.invokevirtual 58, 3) := by decide +kernel
theorem dX7_waits_5 : decode cX7_waits 5 = .ok (.ifCond .eq 10, 3) := by decide +kernel
theorem dX7_waits_8 : decode cX7_waits 8 = .ok (.iload_n 2, 1) := by decide +kernel
theorem dX7_waits_9 : decode cX7_waits 9 = .ok (.invokestatic 187, 3) := by decide +kernel
theorem dX7_waits_12 : decode cX7_waits 12 = .ok (.ifCond .ne 10, 3) := by decide +kernel
theorem dX7_waits_15 : decode cX7_waits 15 = .ok (.aload_n 0, 1) := by decide +kernel
theorem dX7_waits_16 : decode cX7_waits 16 = .ok (.ldc 40, 2) := by decide +kernel
theorem dX7_waits_18 : decode cX7_waits 18 = .ok (.invokevirtual 42, 3) := by decide +kernel
theorem dX7_waits_21 : decode cX7_waits 21 = .ok (.ireturn, 1) := by decide +kernel
theorem dX7_waits_22 : decode cX7_waits 22 = .ok (.aload_n 0, 1) := by decide +kernel
theorem dX7_waits_23 : decode cX7_waits 23 = .ok (.iload_n 1, 1) := by decide +kernel
theorem dX7_waits_24 : decode cX7_waits 24 = .ok (.iload_n 2, 1) := by decide +kernel
theorem dX7_waits_25 : decode cX7_waits 25 = .ok (.invokevirtual 234, 3) := by decide +kernel
theorem dX7_waits_28 : decode cX7_waits 28 = .ok (.ifCond .ge 10, 3) := by decide +kernel
theorem dX7_waits_31 : decode cX7_waits 31 = .ok (.aload_n 0, 1) := by decide +kernel
theorem dX7_waits_32 : decode cX7_waits 32 = .ok (.ldc 41, 2) := by decide +kernel
theorem dX7_waits_34 : decode cX7_waits 34 = .ok (.invokevirtual 42, 3) := by decide +kernel
theorem dX7_waits_37 : decode cX7_waits 37 = .ok (.ireturn, 1) := by decide +kernel
theorem dX7_waits_38 : decode cX7_waits 38 = .ok (.iconst 0, 1) := by decide +kernel
theorem dX7_waits_39 : decode cX7_waits 39 = .ok (.istore_n 3, 1) := by decide +kernel
theorem dX7_waits_40 : decode cX7_waits 40 = .ok (.iconst 1, 1) := by decide +kernel
theorem dX7_waits_41 : decode cX7_waits 41 = .ok (.istore 4, 2) := by decide +kernel
theorem dX7_waits_43 : decode cX7_waits 43 = .ok (.iload 4, 2) := by decide +kernel
theorem dX7_waits_45 : decode cX7_waits 45 = .ok (.aload_n 0, 1) := by decide +kernel
theorem dX7_waits_46 : decode cX7_waits 46 = .ok (.iload_n 1, 1) := by decide +kernel
theorem dX7_waits_47 : decode cX7_waits 47 = .ok (.invokevirtual 62, 3) := by decide +kernel
theorem dX7_waits_50 : decode cX7_waits 50 = .ok (.if_icmp .ge 52, 3) := by decide +kernel
theorem dX7_waits_53 : decode cX7_waits 53 = .ok (.aload_n 0, 1) := by decide +kernel
theorem dX7_waits_54 : decode cX7_waits 54 = .ok (.getfield 25, 3) := by decide +kernel
theorem dX7_waits_57 : decode cX7_waits 57 = .ok (.iload 4, 2) := by decide +kernel
theorem dX7_waits_59 : decode cX7_waits 59 = .ok (.iaload, 1) := by decide +kernel
theorem dX7_waits_60 : decode cX7_waits 60 = .ok (.aload_n 0, 1) := by decide +kernel
theorem dX7_waits_61 : decode cX7_waits 61 = .ok (.getfield 25, 3) := by decide +kernel
theorem dX7_waits_64 : decode cX7_waits 64 = .ok (.iload 4, 2) := by decide +kernel
theorem dX7_waits_66 : decode cX7_waits 66 = .ok (.iconst 1, 1) := by decide +kernel
theorem dX7_waits_67 : decode cX7_waits 67 = .ok (.isub, 1) := by decide +kernel
theorem dX7_waits_68 : decode cX7_waits 68 = .ok (.iaload, 1) := by decide +kernel
theorem dX7_waits_69 : decode cX7_waits 69 = .ok (.isub, 1) := by decide +kernel
theorem dX7_waits_70 : decode cX7_waits 70 = .ok (.iload_n 3, 1) := by decide +kernel
theorem dX7_waits_71 : decode cX7_waits 71 = .ok (.if_icmp .le 23, 3) := by decide +kernel
theorem dX7_waits_74 : decode cX7_waits 74 = .ok (.aload_n 0, 1) := by decide +kernel
theorem dX7_waits_75 : decode cX7_waits 75 = .ok (.getfield 25, 3) := by decide +kernel
theorem dX7_waits_78 : decode cX7_waits 78 = .ok (.iload 4, 2) := by decide +kernel
theorem dX7_waits_80 : decode cX7_waits 80 = .ok (.iaload, 1) := by decide +kernel
theorem dX7_waits_81 : decode cX7_waits 81 = .ok (.aload_n 0, 1) := by decide +kernel
theorem dX7_waits_82 : decode cX7_waits 82 = .ok (.getfield 25, 3) := by decide +kernel
theorem dX7_waits_85 : decode cX7_waits 85 = .ok (.iload 4, 2) := by decide +kernel
theorem dX7_waits_87 : decode cX7_waits 87 = .ok (.iconst 1, 1) := by decide +kernel
theorem dX7_waits_88 : decode cX7_waits 88 = .ok (.isub, 1) := by decide +kernel
theorem dX7_waits_89 : decode cX7_waits 89 = .ok (.iaload, 1) := by decide +kernel
theorem dX7_waits_90 : decode cX7_waits 90 = .ok (.isub, 1) := by decide +kernel
theorem dX7_waits_91 : decode cX7_waits 91 = .ok (.goto 4, 3) := by decide +kernel
theorem dX7_waits_94 : decode cX7_waits 94 = .ok (.iload_n 3, 1) := by decide +kernel
theorem dX7_waits_95 : decode cX7_waits 95 = .ok (.istore_n 3, 1) := by decide +kernel
theorem dX7_waits_96 : decode cX7_waits 96 = .ok (.iinc 4 1, 3) := by decide +kernel
theorem dX7_waits_99 : decode cX7_waits 99 = .ok (.goto (-56), 3) := by decide +kernel
theorem dX7_waits_102 : decode cX7_waits 102 = .ok (.iload_n 3, 1) := by decide +kernel
theorem dX7_waits_103 : decode cX7_waits 103 = .ok (.ireturn, 1) := by decide +kernel
theorem dX7_order_0 : decode cX7_order 0 = .ok (.aload_n 0, 1) := by decide +kernel
theorem dX7_order_1 : decode cX7_order 1 = .ok (.iload_n 1, 1) := by decide +kernel
theorem dX7_order_2 : decode cX7_order 2 = .ok (.invokevirtual 58, 3) := by decide +kernel
theorem dX7_order_5 : decode cX7_order 5 = .ok (.ifCond .eq 27, 3) := by decide +kernel
theorem dX7_order_8 : decode cX7_order 8 = .ok (.iload_n 2, 1) := by decide +kernel
theorem dX7_order_9 : decode cX7_order 9 = .ok (.i2l, 1) := by decide +kernel
theorem dX7_order_10 : decode cX7_order 10 = .ok (.lconst 0, 1) := by decide +kernel
theorem dX7_order_11 : decode cX7_order 11 = .ok (.ldc2_w 245, 3) := by decide +kernel
theorem dX7_order_14 : decode cX7_order 14 = .ok (.invokestatic 46, 3) := by decide +kernel
theorem dX7_order_17 : decode cX7_order 17 = .ok (.ifCond .eq 15, 3) := by decide +kernel
theorem dX7_order_20 : decode cX7_order 20 = .ok (.iload_n 3, 1) := by decide +kernel
theorem dX7_order_21 : decode cX7_order 21 = .ok (.i2l, 1) := by decide +kernel
theorem dX7_order_22 : decode cX7_order 22 = .ok (.lconst 1, 1) := by decide +kernel
theorem dX7_order_23 : decode cX7_order 23 = .ok (.ldc2_w 198, 3) := by decide +kernel
theorem dX7_order_26 : decode cX7_order 26 = .ok (.invokestatic 46, 3) := by decide +kernel
theorem dX7_order_29 : decode cX7_order 29 = .ok (.ifCond .ne 10, 3) := by decide +kernel
theorem dX7_order_32 : decode cX7_order 32 = .ok (.aload_n 0, 1) := by decide +kernel
theorem dX7_order_33 : decode cX7_order 33 = .ok (.ldc 40, 2) := by decide +kernel
theorem dX7_order_35 : decode cX7_order 35 = .ok (.invokevirtual 42, 3) := by decide +kernel
theorem dX7_order_38 : decode cX7_order 38 = .ok (.ireturn, 1) := by decide +kernel
theorem dX7_order_39 : decode cX7_order 39 = .ok (.aload_n 0, 1) := by decide +kernel
theorem dX7_order_40 : decode cX7_order 40 = .ok (.getfield 9, 3) := by decide +kernel
theorem dX7_order_43 : decode cX7_order 43 = .ok (.iconst 4, 1) := by decide +kernel
theorem dX7_order_44 : decode cX7_order 44 = .ok (.iaload, 1) := by decide +kernel
theorem dX7_order_45 : decode cX7_order 45 = .ok (.iconst 5, 1) := by decide +kernel
theorem dX7_order_46 : decode cX7_order 46 = .ok (.if_icmp .ne 10, 3) := by decide +kernel
theorem dX7_order_49 : decode cX7_order 49 = .ok (.aload_n 0, 1) := by decide +kernel
theorem dX7_order_50 : decode cX7_order 50 = .ok (.ldc 71, 2) := by decide +kernel
theorem dX7_order_52 : decode cX7_order 52 = .ok (.invokevirtual 42, 3) := by decide +kernel
theorem dX7_order_55 : decode cX7_order 55 = .ok (.ireturn, 1) := by decide +kernel
theorem dX7_order_56 : decode cX7_order 56 = .ok (.sipush 222, 3) := by decide +kernel
theorem dX7_order_59 : decode cX7_order 59 = .ok (.iconst 3, 1) := by decide +kernel
theorem dX7_order_60 : decode cX7_order 60 = .ok (.aload_n 0, 1) := by decide +kernel
theorem dX7_order_61 : decode cX7_order 61 = .ok (.getfield 9, 3) := by decide +kernel
theorem dX7_order_64 : decode cX7_order 64 = .ok (.iconst 4, 1) := by decide +kernel
theorem dX7_order_65 : decode cX7_order 65 = .ok (.iaload, 1) := by decide +kernel
theorem dX7_order_66 : decode cX7_order 66 = .ok (.imul, 1) := by decide +kernel
theorem dX7_order_67 : decode cX7_order 67 = .ok (.iadd, 1) := by decide +kernel
theorem dX7_order_68 : decode cX7_order 68 = .ok (.istore 4, 2) := by decide +kernel
theorem dX7_order_70 : decode cX7_order 70 = .ok (.aload_n 0, 1) := by decide +kernel
theorem dX7_order_71 : decode cX7_order 71 = .ok (.getfield 9, 3) := by decide +kernel
theorem dX7_order_74 : decode cX7_order 74 = .ok (.iload 4, 2) := by decide +kernel
theorem dX7_order_76 : decode cX7_order 76 = .ok (.iload_n 1, 1) := by decide +kernel
theorem dX7_order_77 : decode cX7_order 77 = .ok (.iastore, 1) := by decide +kernel
theorem dX7_order_78 : decode cX7_order 78 = .ok (.aload_n 0, 1) := by decide +kernel
theorem dX7_order_79 : decode cX7_order 79 = .ok (.getfield 9, 3) := by decide +kernel
theorem dX7_order_82 : decode cX7_order 82 = .ok (.iload 4, 2) := by decide +kernel
theorem dX7_order_84 : decode cX7_order 84 = .ok (.iconst 1, 1) := by decide +kernel
theorem dX7_order_85 : decode cX7_order 85 = .ok (.iadd, 1) := by decide +kernel
theorem dX7_order_86 : decode cX7_order 86 = .ok (.iload_n 2, 1) := by decide +kernel
theorem dX7_order_87 : decode cX7_order 87 = .ok (.iastore, 1) := by decide +kernel
theorem dX7_order_88 : decode cX7_order 88 = .ok (.aload_n 0, 1) := by decide +kernel
theorem dX7_order_89 : decode cX7_order 89 = .ok (.getfield 9, 3) := by decide +kernel
theorem dX7_order_92 : decode cX7_order 92 = .ok (.iload 4, 2) := by decide +kernel
theorem dX7_order_94 : decode cX7_order 94 = .ok (.iconst 2, 1) := by decide +kernel
theorem dX7_order_95 : decode cX7_order 95 = .ok (.iadd, 1) := by decide +kernel
theorem dX7_order_96 : decode cX7_order 96 = .ok (.iload_n 3, 1) := by decide +kernel
theorem dX7_order_97 : decode cX7_order 97 = .ok (.iastore, 1) := by decide +kernel
theorem dX7_order_98 : decode cX7_order 98 = .ok (.aload_n 0, 1) := by decide +kernel
theorem dX7_order_99 : decode cX7_order 99 = .ok (.getfield 9, 3) := by decide +kernel
theorem dX7_order_102 : decode cX7_order 102 = .ok (.iconst 4, 1) := by decide +kernel
theorem dX7_order_103 : decode cX7_order 103 = .ok (.dup2, 1) := by decide +kernel
theorem dX7_order_104 : decode cX7_order 104 = .ok (.iaload, 1) := by decide +kernel
theorem dX7_order_105 : decode cX7_order 105 = .ok (.iconst 1, 1) := by decide +kernel
theorem dX7_order_106 : decode cX7_order 106 = .ok (.iadd, 1) := by decide +kernel
theorem dX7_order_107 : decode cX7_order 107 = .ok (.iastore, 1) := by decide +kernel
theorem dX7_order_108 : decode cX7_order 108 = .ok (.aload_n 0, 1) := by decide +kernel
theorem dX7_order_109 : decode cX7_order 109 = .ok (.getfield 9, 3) := by decide +kernel
theorem dX7_order_112 : decode cX7_order 112 = .ok (.iconst 4, 1) := by decide +kernel
theorem dX7_order_113 : decode cX7_order 113 = .ok (.iaload, 1) := by decide +kernel
theorem dX7_order_114 : decode cX7_order 114 = .ok (.iconst 1, 1) := by decide +kernel
theorem dX7_order_115 : decode cX7_order 115 = .ok (.isub, 1) := by decide +kernel
theorem dX7_order_116 : decode cX7_order 116 = .ok (.ireturn, 1) := by decide +kernel
theorem dX7_orderOf_0 : decode cX7_orderOf 0 = .ok (.iload_n 1, 1) := by decide +kernel
theorem dX7_orderOf_1 : decode cX7_orderOf 1 = .ok (.i2l, 1) := by decide +kernel
theorem dX7_orderOf_2 : decode cX7_orderOf 2 = .ok (.lconst 0, 1) := by decide +kernel
theorem dX7_orderOf_3 : decode cX7_orderOf 3 = .ok (.aload_n 0, 1) := by decide +kernel
theorem dX7_orderOf_4 : decode cX7_orderOf 4 = .ok (.getfield 9, 3) := by decide +kernel
theorem dX7_orderOf_7 : decode cX7_orderOf 7 = .ok (.iconst 4, 1) := by decide +kernel
theorem dX7_orderOf_8 : decode cX7_orderOf 8 = .ok (.iaload, 1) := by decide +kernel
theorem dX7_orderOf_9 : decode cX7_orderOf 9 = .ok (.iconst 1, 1) := by decide +kernel
theorem dX7_orderOf_10 : decode cX7_orderOf 10 = .ok (.isub, 1) := by decide +kernel
theorem dX7_orderOf_11 : decode cX7_orderOf 11 = .ok (.i2l, 1) := by decide +kernel
theorem dX7_orderOf_12 : decode cX7_orderOf 12 = .ok (.invokestatic 46, 3) := by decide +kernel
theorem dX7_orderOf_15 : decode cX7_orderOf 15 = .ok (.ifCond .eq 32, 3) := by decide +kernel
theorem dX7_orderOf_18 : decode cX7_orderOf 18 = .ok (.iload_n 2, 1) := by decide +kernel
theorem dX7_orderOf_19 : decode cX7_orderOf 19 = .ok (.i2l, 1) := by decide +kernel
theorem dX7_orderOf_20 : decode cX7_orderOf 20 = .ok (.lconst 0, 1) := by decide +kernel
theorem dX7_orderOf_21 : decode cX7_orderOf 21 = .ok (.ldc2_w 208, 3) := by decide +kernel
theorem dX7_orderOf_24 : decode cX7_orderOf 24 = .ok (.invokestatic 46, 3) := by decide +kernel
theorem dX7_orderOf_27 : decode cX7_orderOf 27 = .ok (.ifCond .eq 20, 3) := by decide +kernel
theorem dX7_orderOf_30 : decode cX7_orderOf 30 = .ok (.aload_n 0, 1) := by decide +kernel
theorem dX7_orderOf_31 : decode cX7_orderOf 31 = .ok (.getfield 9, 3) := by decide +kernel
theorem dX7_orderOf_34 : decode cX7_orderOf 34 = .ok (.sipush 222, 3) := by decide +kernel
theorem dX7_orderOf_37 : decode cX7_orderOf 37 = .ok (.iconst 3, 1) := by decide +kernel
theorem dX7_orderOf_38 : decode cX7_orderOf 38 = .ok (.iload_n 1, 1) := by decide +kernel
theorem dX7_orderOf_39 : decode cX7_orderOf 39 = .ok (.imul, 1) := by decide +kernel
theorem dX7_orderOf_40 : decode cX7_orderOf 40 = .ok (.iadd, 1) := by decide +kernel
theorem dX7_orderOf_41 : decode cX7_orderOf 41 = .ok (.iload_n 2, 1) := by decide +kernel
theorem dX7_orderOf_42 : decode cX7_orderOf 42 = .ok (.iadd, 1) := by decide +kernel
theorem dX7_orderOf_43 : decode cX7_orderOf 43 = .ok (.iaload, 1) := by decide +kernel
theorem dX7_orderOf_44 : decode cX7_orderOf 44 = .ok (.goto 9, 3) := by decide +kernel
theorem dX7_orderOf_47 : decode cX7_orderOf 47 = .ok (.aload_n 0, 1) := by decide +kernel
theorem dX7_orderOf_48 : decode cX7_orderOf 48 = .ok (.ldc 40, 2) := by decide +kernel
theorem dX7_orderOf_50 : decode cX7_orderOf 50 = .ok (.invokevirtual 42, 3) := by decide +kernel
theorem dX7_orderOf_53 : decode cX7_orderOf 53 = .ok (.ireturn, 1) := by decide +kernel
theorem dX7_clear_0 : decode cX7_clear 0 = .ok (.aload_n 0, 1) := by decide +kernel
theorem dX7_clear_1 : decode cX7_clear 1 = .ok (.iconst 4, 1) := by decide +kernel
theorem dX7_clear_2 : decode cX7_clear 2 = .ok (.iconst 0, 1) := by decide +kernel
theorem dX7_clear_3 : decode cX7_clear 3 = .ok (.invokevirtual 168, 3) := by decide +kernel
theorem dX7_clear_6 : decode cX7_clear 6 = .ok (.ireturn, 1) := by decide +kernel
theorem dX7_noOrders_0 : decode cX7_noOrders 0 = .ok (.iconst 0, 1) := by decide +kernel
theorem dX7_noOrders_1 : decode cX7_noOrders 1 = .ok (.istore_n 1, 1) := by decide +kernel
theorem dX7_noOrders_2 : decode cX7_noOrders 2 = .ok (.iload_n 1, 1) := by decide +kernel
theorem dX7_noOrders_3 : decode cX7_noOrders 3 = .ok (.sipush 3200, 3) := by decide +kernel
theorem dX7_noOrders_6 : decode cX7_noOrders 6 = .ok (.if_icmp .ge 16, 3) := by decide +kernel
theorem dX7_noOrders_9 : decode cX7_noOrders 9 = .ok (.aload_n 0, 1) := by decide +kernel
theorem dX7_noOrders_10 : decode cX7_noOrders 10 = .ok (.getfield 28, 3) := by decide +kernel
theorem dX7_noOrders_13 : decode cX7_noOrders 13 = .ok (.iload_n 1, 1) := by decide +kernel
theorem dX7_noOrders_14 : decode cX7_noOrders 14 = .ok (.iconst 0, 1) := by decide +kernel
theorem dX7_noOrders_15 : decode cX7_noOrders 15 = .ok (.iastore, 1) := by decide +kernel
theorem dX7_noOrders_16 : decode cX7_noOrders 16 = .ok (.iinc 1 1, 3) := by decide +kernel
theorem dX7_noOrders_19 : decode cX7_noOrders 19 = .ok (.goto (-17), 3) := by decide +kernel
theorem dX7_noOrders_22 : decode cX7_noOrders 22 = .ok (.aload_n 0, 1) := by decide +kernel
theorem dX7_noOrders_23 : decode cX7_noOrders 23 = .ok (.iconst 0, 1) := by decide +kernel
theorem dX7_noOrders_24 : decode cX7_noOrders 24 = .ok (.putfield 247, 3) := by decide +kernel
theorem dX7_noOrders_27 : decode cX7_noOrders 27 = .ok (.aload_n 0, 1) := by decide +kernel
theorem dX7_noOrders_28 : decode cX7_noOrders 28 = .ok (.iconst 0, 1) := by decide +kernel
theorem dX7_noOrders_29 : decode cX7_noOrders 29 = .ok (.putfield 249, 3) := by decide +kernel
theorem dX7_noOrders_32 : decode cX7_noOrders 32 = .ok (.aload_n 0, 1) := by decide +kernel
theorem dX7_noOrders_33 : decode cX7_noOrders 33 = .ok (.iconst (-1), 1) := by decide +kernel
theorem dX7_noOrders_34 : decode cX7_noOrders 34 = .ok (.putfield 252, 3) := by decide +kernel
theorem dX7_noOrders_37 : decode cX7_noOrders 37 = .ok (.return_, 1) := by decide +kernel
theorem dX7_slot_0 : decode cX7_slot 0 = .ok (.sipush 400, 3) := by decide +kernel
theorem dX7_slot_3 : decode cX7_slot 3 = .ok (.iload_n 0, 1) := by decide +kernel
theorem dX7_slot_4 : decode cX7_slot 4 = .ok (.imul, 1) := by decide +kernel
theorem dX7_slot_5 : decode cX7_slot 5 = .ok (.iload_n 1, 1) := by decide +kernel
theorem dX7_slot_6 : decode cX7_slot 6 = .ok (.iadd, 1) := by decide +kernel
theorem dX7_slot_7 : decode cX7_slot 7 = .ok (.ireturn, 1) := by decide +kernel
theorem dX7_gets_0 : decode cX7_gets 0 = .ok (.iconst 0, 1) := by decide +kernel
theorem dX7_gets_1 : decode cX7_gets 1 = .ok (.istore_n 3, 1) := by decide +kernel
theorem dX7_gets_2 : decode cX7_gets 2 = .ok (.iload_n 3, 1) := by decide +kernel
theorem dX7_gets_3 : decode cX7_gets 3 = .ok (.aload_n 0, 1) := by decide +kernel
theorem dX7_gets_4 : decode cX7_gets 4 = .ok (.iload_n 1, 1) := by decide +kernel
theorem dX7_gets_5 : decode cX7_gets 5 = .ok (.invokevirtual 62, 3) := by decide +kernel
theorem dX7_gets_8 : decode cX7_gets 8 = .ok (.if_icmp .ge 42, 3) := by decide +kernel
theorem dX7_gets_11 : decode cX7_gets 11 = .ok (.aload_n 0, 1) := by decide +kernel
theorem dX7_gets_12 : decode cX7_gets 12 = .ok (.getfield 28, 3) := by decide +kernel
theorem dX7_gets_15 : decode cX7_gets 15 = .ok (.aload_n 0, 1) := by decide +kernel
theorem dX7_gets_16 : decode cX7_gets 16 = .ok (.iload_n 1, 1) := by decide +kernel
theorem dX7_gets_17 : decode cX7_gets 17 = .ok (.iload_n 3, 1) := by decide +kernel
theorem dX7_gets_18 : decode cX7_gets 18 = .ok (.iconst 0, 1) := by decide +kernel
theorem dX7_gets_19 : decode cX7_gets 19 = .ok (.invokevirtual 210, 3) := by decide +kernel
theorem dX7_gets_22 : decode cX7_gets 22 = .ok (.aload_n 0, 1) := by decide +kernel
theorem dX7_gets_23 : decode cX7_gets 23 = .ok (.getfield 25, 3) := by decide +kernel
theorem dX7_gets_26 : decode cX7_gets 26 = .ok (.iload_n 3, 1) := by decide +kernel
theorem dX7_gets_27 : decode cX7_gets 27 = .ok (.iaload, 1) := by decide +kernel
theorem dX7_gets_28 : decode cX7_gets 28 = .ok (.invokestatic 255, 3) := by decide +kernel
theorem dX7_gets_31 : decode cX7_gets 31 = .ok (.dup2, 1) := by decide +kernel
theorem dX7_gets_32 : decode cX7_gets 32 = .ok (.iaload, 1) := by decide +kernel
theorem dX7_gets_33 : decode cX7_gets 33 = .ok (.iload_n 2, 1) := by decide +kernel
theorem dX7_gets_34 : decode cX7_gets 34 = .ok (.aload_n 0, 1) := by decide +kernel
theorem dX7_gets_35 : decode cX7_gets 35 = .ok (.iload_n 1, 1) := by decide +kernel
theorem dX7_gets_36 : decode cX7_gets 36 = .ok (.iload_n 3, 1) := by decide +kernel
theorem dX7_gets_37 : decode cX7_gets 37 = .ok (.iconst 1, 1) := by decide +kernel
theorem dX7_gets_38 : decode cX7_gets 38 = .ok (.invokevirtual 210, 3) := by decide +kernel
theorem dX7_gets_41 : decode cX7_gets 41 = .ok (.imul, 1) := by decide +kernel
theorem dX7_gets_42 : decode cX7_gets 42 = .ok (.iadd, 1) := by decide +kernel
theorem dX7_gets_43 : decode cX7_gets 43 = .ok (.iastore, 1) := by decide +kernel
theorem dX7_gets_44 : decode cX7_gets 44 = .ok (.iinc 3 1, 3) := by decide +kernel
theorem dX7_gets_47 : decode cX7_gets 47 = .ok (.goto (-45), 3) := by decide +kernel
theorem dX7_gets_50 : decode cX7_gets 50 = .ok (.return_, 1) := by decide +kernel
theorem dX7_areFree_0 : decode cX7_areFree 0 = .ok (.aload_n 0, 1) := by decide +kernel
theorem dX7_areFree_1 : decode cX7_areFree 1 = .ok (.iload_n 1, 1) := by decide +kernel
theorem dX7_areFree_2 : decode cX7_areFree 2 = .ok (.iconst 1, 1) := by decide +kernel
theorem dX7_areFree_3 : decode cX7_areFree 3 = .ok (.invokevirtual 258, 3) := by decide +kernel
theorem dX7_areFree_6 : decode cX7_areFree 6 = .ok (.iconst 1, 1) := by decide +kernel
theorem dX7_areFree_7 : decode cX7_areFree 7 = .ok (.istore_n 2, 1) := by decide +kernel
theorem dX7_areFree_8 : decode cX7_areFree 8 = .ok (.iconst 0, 1) := by decide +kernel
theorem dX7_areFree_9 : decode cX7_areFree 9 = .ok (.istore_n 3, 1) := by decide +kernel
theorem dX7_areFree_10 : decode cX7_areFree 10 = .ok (.iload_n 3, 1) := by decide +kernel
theorem dX7_areFree_11 : decode cX7_areFree 11 = .ok (.aload_n 0, 1) := by decide +kernel
theorem dX7_areFree_12 : decode cX7_areFree 12 = .ok (.iload_n 1, 1) := by decide +kernel
theorem dX7_areFree_13 : decode cX7_areFree 13 = .ok (.invokevirtual 62, 3) := by decide +kernel
theorem dX7_areFree_16 : decode cX7_areFree 16 = .ok (.if_icmp .ge 45, 3) := by decide +kernel
theorem dX7_areFree_19 : decode cX7_areFree 19 = .ok (.iload_n 2, 1) := by decide +kernel
theorem dX7_areFree_20 : decode cX7_areFree 20 = .ok (.ifCond .eq 33, 3) := by decide +kernel
theorem dX7_areFree_23 : decode cX7_areFree 23 = .ok (.aload_n 0, 1) := by decide +kernel
theorem dX7_areFree_24 : decode cX7_areFree 24 = .ok (.getfield 28, 3) := by decide +kernel
theorem dX7_areFree_27 : decode cX7_areFree 27 = .ok (.aload_n 0, 1) := by decide +kernel
theorem dX7_areFree_28 : decode cX7_areFree 28 = .ok (.iload_n 1, 1) := by decide +kernel
theorem dX7_areFree_29 : decode cX7_areFree 29 = .ok (.iload_n 3, 1) := by decide +kernel
theorem dX7_areFree_30 : decode cX7_areFree 30 = .ok (.iconst 0, 1) := by decide +kernel
theorem dX7_areFree_31 : decode cX7_areFree 31 = .ok (.invokevirtual 210, 3) := by decide +kernel
theorem dX7_areFree_34 : decode cX7_areFree 34 = .ok (.aload_n 0, 1) := by decide +kernel
theorem dX7_areFree_35 : decode cX7_areFree 35 = .ok (.getfield 25, 3) := by decide +kernel
theorem dX7_areFree_38 : decode cX7_areFree 38 = .ok (.iload_n 3, 1) := by decide +kernel
theorem dX7_areFree_39 : decode cX7_areFree 39 = .ok (.iaload, 1) := by decide +kernel
theorem dX7_areFree_40 : decode cX7_areFree 40 = .ok (.invokestatic 255, 3) := by decide +kernel
theorem dX7_areFree_43 : decode cX7_areFree 43 = .ok (.iaload, 1) := by decide +kernel
theorem dX7_areFree_44 : decode cX7_areFree 44 = .ok (.bipush 8, 2) := by decide +kernel
theorem dX7_areFree_46 : decode cX7_areFree 46 = .ok (.if_icmp .gt 7, 3) := by decide +kernel
theorem dX7_areFree_49 : decode cX7_areFree 49 = .ok (.iconst 1, 1) := by decide +kernel
theorem dX7_areFree_50 : decode cX7_areFree 50 = .ok (.goto 4, 3) := by decide +kernel
theorem dX7_areFree_53 : decode cX7_areFree 53 = .ok (.iconst 0, 1) := by decide +kernel
theorem dX7_areFree_54 : decode cX7_areFree 54 = .ok (.istore_n 2, 1) := by decide +kernel
theorem dX7_areFree_55 : decode cX7_areFree 55 = .ok (.iinc 3 1, 3) := by decide +kernel
theorem dX7_areFree_58 : decode cX7_areFree 58 = .ok (.goto (-48), 3) := by decide +kernel
theorem dX7_areFree_61 : decode cX7_areFree 61 = .ok (.aload_n 0, 1) := by decide +kernel
theorem dX7_areFree_62 : decode cX7_areFree 62 = .ok (.iload_n 1, 1) := by decide +kernel
theorem dX7_areFree_63 : decode cX7_areFree 63 = .ok (.iconst (-1), 1) := by decide +kernel
theorem dX7_areFree_64 : decode cX7_areFree 64 = .ok (.invokevirtual 258, 3) := by decide +kernel
theorem dX7_areFree_67 : decode cX7_areFree 67 = .ok (.iload_n 2, 1) := by decide +kernel
theorem dX7_areFree_68 : decode cX7_areFree 68 = .ok (.ireturn, 1) := by decide +kernel
theorem dX7_takesOrder_0 : decode cX7_takesOrder 0 = .ok (.aload_n 0, 1) := by decide +kernel
theorem dX7_takesOrder_1 : decode cX7_takesOrder 1 = .ok (.getfield 9, 3) := by decide +kernel
theorem dX7_takesOrder_4 : decode cX7_takesOrder 4 = .ok (.sipush 222, 3) := by decide +kernel
theorem dX7_takesOrder_7 : decode cX7_takesOrder 7 = .ok (.iconst 3, 1) := by decide +kernel
theorem dX7_takesOrder_8 : decode cX7_takesOrder 8 = .ok (.iload_n 1, 1) := by decide +kernel
theorem dX7_takesOrder_9 : decode cX7_takesOrder 9 = .ok (.imul, 1) := by decide +kernel
theorem dX7_takesOrder_10 : decode cX7_takesOrder 10 = .ok (.iadd, 1) := by decide +kernel
theorem dX7_takesOrder_11 : decode cX7_takesOrder 11 = .ok (.iaload, 1) := by decide +kernel
theorem dX7_takesOrder_12 : decode cX7_takesOrder 12 = .ok (.istore_n 2, 1) := by decide +kernel
theorem dX7_takesOrder_13 : decode cX7_takesOrder 13 = .ok (.iconst 0, 1) := by decide +kernel
theorem dX7_takesOrder_14 : decode cX7_takesOrder 14 = .ok (.istore_n 3, 1) := by decide +kernel
theorem dX7_takesOrder_15 : decode cX7_takesOrder 15 = .ok (.iload_n 3, 1) := by decide +kernel
theorem dX7_takesOrder_16 : decode cX7_takesOrder 16 = .ok (.sipush 200, 3) := by decide +kernel
theorem dX7_takesOrder_19 : decode cX7_takesOrder 19 = .ok (.if_icmp .gt 133, 3) := by decide +kernel
theorem dX7_takesOrder_22 : decode cX7_takesOrder 22 = .ok (.aload_n 0, 1) := by decide +kernel
theorem dX7_takesOrder_23 : decode cX7_takesOrder 23 = .ok (.iload_n 2, 1) := by decide +kernel
theorem dX7_takesOrder_24 : decode cX7_takesOrder 24 = .ok (.iload_n 3, 1) := by decide +kernel
theorem dX7_takesOrder_25 : decode cX7_takesOrder 25 = .ok (.invokevirtual 231, 3) := by decide +kernel
theorem dX7_takesOrder_28 : decode cX7_takesOrder 28 = .ok (.ifCond .ge 118, 3) := by decide +kernel
theorem dX7_takesOrder_31 : decode cX7_takesOrder 31 = .ok (.aload_n 0, 1) := by decide +kernel
theorem dX7_takesOrder_32 : decode cX7_takesOrder 32 = .ok (.iload_n 2, 1) := by decide +kernel
theorem dX7_takesOrder_33 : decode cX7_takesOrder 33 = .ok (.invokevirtual 237, 3) := by decide +kernel
theorem dX7_takesOrder_36 : decode cX7_takesOrder 36 = .ok (.sipush 399, 3) := by decide +kernel
theorem dX7_takesOrder_39 : decode cX7_takesOrder 39 = .ok (.if_icmp .gt 107, 3) := by decide +kernel
theorem dX7_takesOrder_42 : decode cX7_takesOrder 42 = .ok (.aload_n 0, 1) := by decide +kernel
theorem dX7_takesOrder_43 : decode cX7_takesOrder 43 = .ok (.iload_n 2, 1) := by decide +kernel
theorem dX7_takesOrder_44 : decode cX7_takesOrder 44 = .ok (.invokevirtual 262, 3) := by decide +kernel
theorem dX7_takesOrder_47 : decode cX7_takesOrder 47 = .ok (.ifCond .ne 6, 3) := by decide +kernel
theorem dX7_takesOrder_50 : decode cX7_takesOrder 50 = .ok (.goto 96, 3) := by decide +kernel
theorem dX7_takesOrder_53 : decode cX7_takesOrder 53 = .ok (.aload_n 0, 1) := by decide +kernel
theorem dX7_takesOrder_54 : decode cX7_takesOrder 54 = .ok (.iload_n 2, 1) := by decide +kernel
theorem dX7_takesOrder_55 : decode cX7_takesOrder 55 = .ok (.invokevirtual 237, 3) := by decide +kernel
theorem dX7_takesOrder_58 : decode cX7_takesOrder 58 = .ok (.aload_n 0, 1) := by decide +kernel
theorem dX7_takesOrder_59 : decode cX7_takesOrder 59 = .ok (.getfield 9, 3) := by decide +kernel
theorem dX7_takesOrder_62 : decode cX7_takesOrder 62 = .ok (.sipush 222, 3) := by decide +kernel
theorem dX7_takesOrder_65 : decode cX7_takesOrder 65 = .ok (.iconst 3, 1) := by decide +kernel
theorem dX7_takesOrder_66 : decode cX7_takesOrder 66 = .ok (.iload_n 1, 1) := by decide +kernel
theorem dX7_takesOrder_67 : decode cX7_takesOrder 67 = .ok (.imul, 1) := by decide +kernel
theorem dX7_takesOrder_68 : decode cX7_takesOrder 68 = .ok (.iadd, 1) := by decide +kernel
theorem dX7_takesOrder_69 : decode cX7_takesOrder 69 = .ok (.iconst 1, 1) := by decide +kernel
theorem dX7_takesOrder_70 : decode cX7_takesOrder 70 = .ok (.iadd, 1) := by decide +kernel
theorem dX7_takesOrder_71 : decode cX7_takesOrder 71 = .ok (.iaload, 1) := by decide +kernel
theorem dX7_takesOrder_72 : decode cX7_takesOrder 72 = .ok (.if_icmp .le 4, 3) := by decide +kernel
theorem dX7_takesOrder_75 : decode cX7_takesOrder 75 = .ok (.return_, 1) := by decide +kernel
theorem dX7_takesOrder_76 : decode cX7_takesOrder 76 = .ok (.aload_n 0, 1) := by decide +kernel
theorem dX7_takesOrder_77 : decode cX7_takesOrder 77 = .ok (.iload_n 2, 1) := by decide +kernel
theorem dX7_takesOrder_78 : decode cX7_takesOrder 78 = .ok (.iconst 1, 1) := by decide +kernel
theorem dX7_takesOrder_79 : decode cX7_takesOrder 79 = .ok (.invokevirtual 258, 3) := by decide +kernel
theorem dX7_takesOrder_82 : decode cX7_takesOrder 82 = .ok (.aload_n 0, 1) := by decide +kernel
theorem dX7_takesOrder_83 : decode cX7_takesOrder 83 = .ok (.dup, 1) := by decide +kernel
theorem dX7_takesOrder_84 : decode cX7_takesOrder 84 = .ok (.getfield 247, 3) := by decide +kernel
theorem dX7_takesOrder_87 : decode cX7_takesOrder 87 = .ok (.aload_n 0, 1) := by decide +kernel
theorem dX7_takesOrder_88 : decode cX7_takesOrder 88 = .ok (.getfield 9, 3) := by decide +kernel
theorem dX7_takesOrder_91 : decode cX7_takesOrder 91 = .ok (.sipush 222, 3) := by decide +kernel
theorem dX7_takesOrder_94 : decode cX7_takesOrder 94 = .ok (.iconst 3, 1) := by decide +kernel
theorem dX7_takesOrder_95 : decode cX7_takesOrder 95 = .ok (.iload_n 1, 1) := by decide +kernel
theorem dX7_takesOrder_96 : decode cX7_takesOrder 96 = .ok (.imul, 1) := by decide +kernel
theorem dX7_takesOrder_97 : decode cX7_takesOrder 97 = .ok (.iadd, 1) := by decide +kernel
theorem dX7_takesOrder_98 : decode cX7_takesOrder 98 = .ok (.iconst 2, 1) := by decide +kernel
theorem dX7_takesOrder_99 : decode cX7_takesOrder 99 = .ok (.iadd, 1) := by decide +kernel
theorem dX7_takesOrder_100 : decode cX7_takesOrder 100 = .ok (.iaload, 1) := by decide +kernel
theorem dX7_takesOrder_101 : decode cX7_takesOrder 101 = .ok (.iadd, 1) := by decide +kernel
theorem dX7_takesOrder_102 : decode cX7_takesOrder 102 = .ok (.putfield 247, 3) := by decide +kernel
theorem dX7_takesOrder_105 : decode cX7_takesOrder 105 = .ok (.aload_n 0, 1) := by decide +kernel
theorem dX7_takesOrder_106 : decode cX7_takesOrder 106 = .ok (.dup, 1) := by decide +kernel
theorem dX7_takesOrder_107 : decode cX7_takesOrder 107 = .ok (.getfield 249, 3) := by decide +kernel
theorem dX7_takesOrder_110 : decode cX7_takesOrder 110 = .ok (.iconst 1, 1) := by decide +kernel
theorem dX7_takesOrder_111 : decode cX7_takesOrder 111 = .ok (.iload_n 1, 1) := by decide +kernel
theorem dX7_takesOrder_112 : decode cX7_takesOrder 112 = .ok (.ishl, 1) := by decide +kernel
theorem dX7_takesOrder_113 : decode cX7_takesOrder 113 = .ok (.ior, 1) := by decide +kernel
theorem dX7_takesOrder_114 : decode cX7_takesOrder 114 = .ok (.putfield 249, 3) := by decide +kernel
theorem dX7_takesOrder_117 : decode cX7_takesOrder 117 = .ok (.aload_n 0, 1) := by decide +kernel
theorem dX7_takesOrder_118 : decode cX7_takesOrder 118 = .ok (.aload_n 0, 1) := by decide +kernel
theorem dX7_takesOrder_119 : decode cX7_takesOrder 119 = .ok (.iload_n 2, 1) := by decide +kernel
theorem dX7_takesOrder_120 : decode cX7_takesOrder 120 = .ok (.invokevirtual 237, 3) := by decide +kernel
theorem dX7_takesOrder_123 : decode cX7_takesOrder 123 = .ok (.aload_n 0, 1) := by decide +kernel
theorem dX7_takesOrder_124 : decode cX7_takesOrder 124 = .ok (.getfield 252, 3) := by decide +kernel
theorem dX7_takesOrder_127 : decode cX7_takesOrder 127 = .ok (.if_icmp .le 11, 3) := by decide +kernel
theorem dX7_takesOrder_130 : decode cX7_takesOrder 130 = .ok (.aload_n 0, 1) := by decide +kernel
theorem dX7_takesOrder_131 : decode cX7_takesOrder 131 = .ok (.iload_n 2, 1) := by decide +kernel
theorem dX7_takesOrder_132 : decode cX7_takesOrder 132 = .ok (.invokevirtual 237, 3) := by decide +kernel
theorem dX7_takesOrder_135 : decode cX7_takesOrder 135 = .ok (.goto 7, 3) := by decide +kernel
theorem dX7_takesOrder_138 : decode cX7_takesOrder 138 = .ok (.aload_n 0, 1) := by decide +kernel
theorem dX7_takesOrder_139 : decode cX7_takesOrder 139 = .ok (.getfield 252, 3) := by decide +kernel
theorem dX7_takesOrder_142 : decode cX7_takesOrder 142 = .ok (.putfield 252, 3) := by decide +kernel
theorem dX7_takesOrder_145 : decode cX7_takesOrder 145 = .ok (.return_, 1) := by decide +kernel
theorem dX7_takesOrder_146 : decode cX7_takesOrder 146 = .ok (.iinc 3 1, 3) := by decide +kernel
theorem dX7_takesOrder_149 : decode cX7_takesOrder 149 = .ok (.goto (-134), 3) := by decide +kernel
theorem dX7_takesOrder_152 : decode cX7_takesOrder 152 = .ok (.return_, 1) := by decide +kernel
theorem dX7_areOrders_0 : decode cX7_areOrders 0 = .ok (.iload_n 1, 1) := by decide +kernel
theorem dX7_areOrders_1 : decode cX7_areOrders 1 = .ok (.istore_n 3, 1) := by decide +kernel
theorem dX7_areOrders_2 : decode cX7_areOrders 2 = .ok (.iconst 0, 1) := by decide +kernel
theorem dX7_areOrders_3 : decode cX7_areOrders 3 = .ok (.istore 4, 2) := by decide +kernel
theorem dX7_areOrders_5 : decode cX7_areOrders 5 = .ok (.iconst 0, 1) := by decide +kernel
theorem dX7_areOrders_6 : decode cX7_areOrders 6 = .ok (.istore 5, 2) := by decide +kernel
theorem dX7_areOrders_8 : decode cX7_areOrders 8 = .ok (.iload 5, 2) := by decide +kernel
theorem dX7_areOrders_10 : decode cX7_areOrders 10 = .ok (.iload_n 2, 1) := by decide +kernel
theorem dX7_areOrders_11 : decode cX7_areOrders 11 = .ok (.if_icmp .ge 52, 3) := by decide +kernel
theorem dX7_areOrders_14 : decode cX7_areOrders 14 = .ok (.iload_n 3, 1) := by decide +kernel
theorem dX7_areOrders_15 : decode cX7_areOrders 15 = .ok (.bipush 10, 2) := by decide +kernel
theorem dX7_areOrders_17 : decode cX7_areOrders 17 = .ok (.irem, 1) := by decide +kernel
theorem dX7_areOrders_18 : decode cX7_areOrders 18 = .ok (.istore 6, 2) := by decide +kernel
theorem dX7_areOrders_20 : decode cX7_areOrders 20 = .ok (.iload 6, 2) := by decide +kernel
theorem dX7_areOrders_22 : decode cX7_areOrders 22 = .ok (.aload_n 0, 1) := by decide +kernel
theorem dX7_areOrders_23 : decode cX7_areOrders 23 = .ok (.getfield 9, 3) := by decide +kernel
theorem dX7_areOrders_26 : decode cX7_areOrders 26 = .ok (.iconst 4, 1) := by decide +kernel
theorem dX7_areOrders_27 : decode cX7_areOrders 27 = .ok (.iaload, 1) := by decide +kernel
theorem dX7_areOrders_28 : decode cX7_areOrders 28 = .ok (.if_icmp .ge 13, 3) := by decide +kernel
theorem dX7_areOrders_31 : decode cX7_areOrders 31 = .ok (.iload 4, 2) := by decide +kernel
theorem dX7_areOrders_33 : decode cX7_areOrders 33 = .ok (.iload 6, 2) := by decide +kernel
theorem dX7_areOrders_35 : decode cX7_areOrders 35 = .ok (.invokestatic 180, 3) := by decide +kernel
theorem dX7_areOrders_38 : decode cX7_areOrders 38 = .ok (.ifCond .eq 5, 3) := by decide +kernel
theorem dX7_areOrders_41 : decode cX7_areOrders 41 = .ok (.iconst 0, 1) := by decide +kernel
theorem dX7_areOrders_42 : decode cX7_areOrders 42 = .ok (.ireturn, 1) := by decide +kernel
theorem dX7_areOrders_43 : decode cX7_areOrders 43 = .ok (.iload 4, 2) := by decide +kernel
theorem dX7_areOrders_45 : decode cX7_areOrders 45 = .ok (.iconst 1, 1) := by decide +kernel
theorem dX7_areOrders_46 : decode cX7_areOrders 46 = .ok (.iload 6, 2) := by decide +kernel
theorem dX7_areOrders_48 : decode cX7_areOrders 48 = .ok (.ishl, 1) := by decide +kernel
theorem dX7_areOrders_49 : decode cX7_areOrders 49 = .ok (.ior, 1) := by decide +kernel
theorem dX7_areOrders_50 : decode cX7_areOrders 50 = .ok (.istore 4, 2) := by decide +kernel
theorem dX7_areOrders_52 : decode cX7_areOrders 52 = .ok (.iload_n 3, 1) := by decide +kernel
theorem dX7_areOrders_53 : decode cX7_areOrders 53 = .ok (.bipush 10, 2) := by decide +kernel
theorem dX7_areOrders_55 : decode cX7_areOrders 55 = .ok (.idiv, 1) := by decide +kernel
theorem dX7_areOrders_56 : decode cX7_areOrders 56 = .ok (.istore_n 3, 1) := by decide +kernel
theorem dX7_areOrders_57 : decode cX7_areOrders 57 = .ok (.iinc 5 1, 3) := by decide +kernel
theorem dX7_areOrders_60 : decode cX7_areOrders 60 = .ok (.goto (-52), 3) := by decide +kernel
theorem dX7_areOrders_63 : decode cX7_areOrders 63 = .ok (.iload_n 3, 1) := by decide +kernel
theorem dX7_areOrders_64 : decode cX7_areOrders 64 = .ok (.ifCond .ne 7, 3) := by decide +kernel
theorem dX7_areOrders_67 : decode cX7_areOrders 67 = .ok (.iconst 1, 1) := by decide +kernel
theorem dX7_areOrders_68 : decode cX7_areOrders 68 = .ok (.goto 4, 3) := by decide +kernel
theorem dX7_areOrders_71 : decode cX7_areOrders 71 = .ok (.iconst 0, 1) := by decide +kernel
theorem dX7_areOrders_72 : decode cX7_areOrders 72 = .ok (.ireturn, 1) := by decide +kernel
theorem dX7_takesAll_0 : decode cX7_takesAll 0 = .ok (.aload_n 0, 1) := by decide +kernel
theorem dX7_takesAll_1 : decode cX7_takesAll 1 = .ok (.invokevirtual 265, 3) := by decide +kernel
theorem dX7_takesAll_4 : decode cX7_takesAll 4 = .ok (.iconst 1, 1) := by decide +kernel
theorem dX7_takesAll_5 : decode cX7_takesAll 5 = .ok (.istore_n 3, 1) := by decide +kernel
theorem dX7_takesAll_6 : decode cX7_takesAll 6 = .ok (.iconst 1, 1) := by decide +kernel
theorem dX7_takesAll_7 : decode cX7_takesAll 7 = .ok (.istore 4, 2) := by decide +kernel
theorem dX7_takesAll_9 : decode cX7_takesAll 9 = .ok (.iload 4, 2) := by decide +kernel
theorem dX7_takesAll_11 : decode cX7_takesAll 11 = .ok (.iload_n 2, 1) := by decide +kernel
theorem dX7_takesAll_12 : decode cX7_takesAll 12 = .ok (.if_icmp .ge 14, 3) := by decide +kernel
theorem dX7_takesAll_15 : decode cX7_takesAll 15 = .ok (.iload_n 3, 1) := by decide +kernel
theorem dX7_takesAll_16 : decode cX7_takesAll 16 = .ok (.bipush 10, 2) := by decide +kernel
theorem dX7_takesAll_18 : decode cX7_takesAll 18 = .ok (.imul, 1) := by decide +kernel
theorem dX7_takesAll_19 : decode cX7_takesAll 19 = .ok (.istore_n 3, 1) := by decide +kernel
theorem dX7_takesAll_20 : decode cX7_takesAll 20 = .ok (.iinc 4 1, 3) := by decide +kernel
theorem dX7_takesAll_23 : decode cX7_takesAll 23 = .ok (.goto (-14), 3) := by decide +kernel
theorem dX7_takesAll_26 : decode cX7_takesAll 26 = .ok (.iconst 0, 1) := by decide +kernel
theorem dX7_takesAll_27 : decode cX7_takesAll 27 = .ok (.istore 4, 2) := by decide +kernel
theorem dX7_takesAll_29 : decode cX7_takesAll 29 = .ok (.iload 4, 2) := by decide +kernel
theorem dX7_takesAll_31 : decode cX7_takesAll 31 = .ok (.iload_n 2, 1) := by decide +kernel
theorem dX7_takesAll_32 : decode cX7_takesAll 32 = .ok (.if_icmp .ge 24, 3) := by decide +kernel
theorem dX7_takesAll_35 : decode cX7_takesAll 35 = .ok (.aload_n 0, 1) := by decide +kernel
theorem dX7_takesAll_36 : decode cX7_takesAll 36 = .ok (.iload_n 1, 1) := by decide +kernel
theorem dX7_takesAll_37 : decode cX7_takesAll 37 = .ok (.iload_n 3, 1) := by decide +kernel
theorem dX7_takesAll_38 : decode cX7_takesAll 38 = .ok (.idiv, 1) := by decide +kernel
theorem dX7_takesAll_39 : decode cX7_takesAll 39 = .ok (.bipush 10, 2) := by decide +kernel
theorem dX7_takesAll_41 : decode cX7_takesAll 41 = .ok (.irem, 1) := by decide +kernel
theorem dX7_takesAll_42 : decode cX7_takesAll 42 = .ok (.invokevirtual 268, 3) := by decide +kernel
theorem dX7_takesAll_45 : decode cX7_takesAll 45 = .ok (.iload_n 3, 1) := by decide +kernel
theorem dX7_takesAll_46 : decode cX7_takesAll 46 = .ok (.bipush 10, 2) := by decide +kernel
theorem dX7_takesAll_48 : decode cX7_takesAll 48 = .ok (.idiv, 1) := by decide +kernel
theorem dX7_takesAll_49 : decode cX7_takesAll 49 = .ok (.istore_n 3, 1) := by decide +kernel
theorem dX7_takesAll_50 : decode cX7_takesAll 50 = .ok (.iinc 4 1, 3) := by decide +kernel
theorem dX7_takesAll_53 : decode cX7_takesAll 53 = .ok (.goto (-24), 3) := by decide +kernel
theorem dX7_takesAll_56 : decode cX7_takesAll 56 = .ok (.return_, 1) := by decide +kernel
theorem dX7_taken_0 : decode cX7_taken 0 = .ok (.iload_n 1, 1) := by decide +kernel
theorem dX7_taken_1 : decode cX7_taken 1 = .ok (.ifCond .lt 42, 3) := by decide +kernel
theorem dX7_taken_4 : decode cX7_taken 4 = .ok (.iload_n 2, 1) := by decide +kernel
theorem dX7_taken_5 : decode cX7_taken 5 = .ok (.i2l, 1) := by decide +kernel
theorem dX7_taken_6 : decode cX7_taken 6 = .ok (.lconst 0, 1) := by decide +kernel
theorem dX7_taken_7 : decode cX7_taken 7 = .ok (.ldc2_w 271, 3) := by decide +kernel
theorem dX7_taken_10 : decode cX7_taken 10 = .ok (.invokestatic 46, 3) := by decide +kernel
theorem dX7_taken_13 : decode cX7_taken 13 = .ok (.ifCond .eq 30, 3) := by decide +kernel
theorem dX7_taken_16 : decode cX7_taken 16 = .ok (.aload_n 0, 1) := by decide +kernel
theorem dX7_taken_17 : decode cX7_taken 17 = .ok (.iload_n 1, 1) := by decide +kernel
theorem dX7_taken_18 : decode cX7_taken 18 = .ok (.iload_n 2, 1) := by decide +kernel
theorem dX7_taken_19 : decode cX7_taken 19 = .ok (.invokevirtual 273, 3) := by decide +kernel
theorem dX7_taken_22 : decode cX7_taken 22 = .ok (.ifCond .eq 21, 3) := by decide +kernel
theorem dX7_taken_25 : decode cX7_taken 25 = .ok (.iload_n 3, 1) := by decide +kernel
theorem dX7_taken_26 : decode cX7_taken 26 = .ok (.i2l, 1) := by decide +kernel
theorem dX7_taken_27 : decode cX7_taken 27 = .ok (.lconst 0, 1) := by decide +kernel
theorem dX7_taken_28 : decode cX7_taken 28 = .ok (.iconst 2, 1) := by decide +kernel
theorem dX7_taken_29 : decode cX7_taken 29 = .ok (.aload_n 0, 1) := by decide +kernel
theorem dX7_taken_30 : decode cX7_taken 30 = .ok (.getfield 9, 3) := by decide +kernel
theorem dX7_taken_33 : decode cX7_taken 33 = .ok (.iconst 2, 1) := by decide +kernel
theorem dX7_taken_34 : decode cX7_taken 34 = .ok (.iaload, 1) := by decide +kernel
theorem dX7_taken_35 : decode cX7_taken 35 = .ok (.iadd, 1) := by decide +kernel
theorem dX7_taken_36 : decode cX7_taken 36 = .ok (.i2l, 1) := by decide +kernel
theorem dX7_taken_37 : decode cX7_taken 37 = .ok (.invokestatic 46, 3) := by decide +kernel
theorem dX7_taken_40 : decode cX7_taken 40 = .ok (.ifCond .ne 10, 3) := by decide +kernel
theorem dX7_taken_43 : decode cX7_taken 43 = .ok (.aload_n 0, 1) := by decide +kernel
theorem dX7_taken_44 : decode cX7_taken 44 = .ok (.ldc 40, 2) := by decide +kernel
theorem dX7_taken_46 : decode cX7_taken 46 = .ok (.invokevirtual 42, 3) := by decide +kernel
theorem dX7_taken_49 : decode cX7_taken 49 = .ok (.ireturn, 1) := by decide +kernel
theorem dX7_taken_50 : decode cX7_taken 50 = .ok (.aload_n 0, 1) := by decide +kernel
theorem dX7_taken_51 : decode cX7_taken 51 = .ok (.iload_n 1, 1) := by decide +kernel
theorem dX7_taken_52 : decode cX7_taken 52 = .ok (.iload_n 2, 1) := by decide +kernel
theorem dX7_taken_53 : decode cX7_taken 53 = .ok (.invokevirtual 276, 3) := by decide +kernel
theorem dX7_taken_56 : decode cX7_taken 56 = .ok (.iload_n 3, 1) := by decide +kernel
theorem dX7_taken_57 : decode cX7_taken 57 = .ok (.iconst 3, 1) := by decide +kernel
theorem dX7_taken_58 : decode cX7_taken 58 = .ok (.if_icmp .ge 31, 3) := by decide +kernel
theorem dX7_taken_61 : decode cX7_taken 61 = .ok (.iload_n 3, 1) := by decide +kernel
theorem dX7_taken_62 : decode cX7_taken 62 = .ok (.ifCond .ne 10, 3) := by decide +kernel
theorem dX7_taken_65 : decode cX7_taken 65 = .ok (.aload_n 0, 1) := by decide +kernel
theorem dX7_taken_66 : decode cX7_taken 66 = .ok (.getfield 247, 3) := by decide +kernel
theorem dX7_taken_69 : decode cX7_taken 69 = .ok (.goto 19, 3) := by decide +kernel
theorem dX7_taken_72 : decode cX7_taken 72 = .ok (.iload_n 3, 1) := by decide +kernel
theorem dX7_taken_73 : decode cX7_taken 73 = .ok (.iconst 1, 1) := by decide +kernel
theorem dX7_taken_74 : decode cX7_taken 74 = .ok (.if_icmp .ne 10, 3) := by decide +kernel
theorem dX7_taken_77 : decode cX7_taken 77 = .ok (.aload_n 0, 1) := by decide +kernel
theorem dX7_taken_78 : decode cX7_taken 78 = .ok (.getfield 249, 3) := by decide +kernel
theorem dX7_taken_81 : decode cX7_taken 81 = .ok (.goto 7, 3) := by decide +kernel
theorem dX7_taken_84 : decode cX7_taken 84 = .ok (.aload_n 0, 1) := by decide +kernel
theorem dX7_taken_85 : decode cX7_taken 85 = .ok (.getfield 252, 3) := by decide +kernel
theorem dX7_taken_88 : decode cX7_taken 88 = .ok (.ireturn, 1) := by decide +kernel
theorem dX7_taken_89 : decode cX7_taken 89 = .ok (.iconst 0, 1) := by decide +kernel
theorem dX7_taken_90 : decode cX7_taken 90 = .ok (.istore 4, 2) := by decide +kernel
theorem dX7_taken_92 : decode cX7_taken 92 = .ok (.iconst 0, 1) := by decide +kernel
theorem dX7_taken_93 : decode cX7_taken 93 = .ok (.istore 5, 2) := by decide +kernel
theorem dX7_taken_95 : decode cX7_taken 95 = .ok (.iload 5, 2) := by decide +kernel
theorem dX7_taken_97 : decode cX7_taken 97 = .ok (.sipush 400, 3) := by decide +kernel
theorem dX7_taken_100 : decode cX7_taken 100 = .ok (.if_icmp .ge 27, 3) := by decide +kernel
theorem dX7_taken_103 : decode cX7_taken 103 = .ok (.iload 4, 2) := by decide +kernel
theorem dX7_taken_105 : decode cX7_taken 105 = .ok (.aload_n 0, 1) := by decide +kernel
theorem dX7_taken_106 : decode cX7_taken 106 = .ok (.getfield 28, 3) := by decide +kernel
theorem dX7_taken_109 : decode cX7_taken 109 = .ok (.iload_n 3, 1) := by decide +kernel
theorem dX7_taken_110 : decode cX7_taken 110 = .ok (.iconst 3, 1) := by decide +kernel
theorem dX7_taken_111 : decode cX7_taken 111 = .ok (.isub, 1) := by decide +kernel
theorem dX7_taken_112 : decode cX7_taken 112 = .ok (.iload 5, 2) := by decide +kernel
theorem dX7_taken_114 : decode cX7_taken 114 = .ok (.invokestatic 255, 3) := by decide +kernel
theorem dX7_taken_117 : decode cX7_taken 117 = .ok (.iaload, 1) := by decide +kernel
theorem dX7_taken_118 : decode cX7_taken 118 = .ok (.iadd, 1) := by decide +kernel
theorem dX7_taken_119 : decode cX7_taken 119 = .ok (.istore 4, 2) := by decide +kernel
theorem dX7_taken_121 : decode cX7_taken 121 = .ok (.iinc 5 1, 3) := by decide +kernel
theorem dX7_taken_124 : decode cX7_taken 124 = .ok (.goto (-29), 3) := by decide +kernel
theorem dX7_taken_127 : decode cX7_taken 127 = .ok (.iload 4, 2) := by decide +kernel
theorem dX7_taken_129 : decode cX7_taken 129 = .ok (.ireturn, 1) := by decide +kernel
theorem dX7_best_0 : decode cX7_best 0 = .ok (.iload_n 1, 1) := by decide +kernel
theorem dX7_best_1 : decode cX7_best 1 = .ok (.i2l, 1) := by decide +kernel
theorem dX7_best_2 : decode cX7_best 2 = .ok (.lconst 0, 1) := by decide +kernel
theorem dX7_best_3 : decode cX7_best 3 = .ok (.ldc2_w 208, 3) := by decide +kernel
theorem dX7_best_6 : decode cX7_best 6 = .ok (.invokestatic 46, 3) := by decide +kernel
theorem dX7_best_9 : decode cX7_best 9 = .ok (.ifCond .ne 10, 3) := by decide +kernel
theorem dX7_best_12 : decode cX7_best 12 = .ok (.aload_n 0, 1) := by decide +kernel
theorem dX7_best_13 : decode cX7_best 13 = .ok (.ldc 40, 2) := by decide +kernel
theorem dX7_best_15 : decode cX7_best 15 = .ok (.invokevirtual 42, 3) := by decide +kernel
theorem dX7_best_18 : decode cX7_best 18 = .ok (.ireturn, 1) := by decide +kernel
theorem dX7_best_19 : decode cX7_best 19 = .ok (.aload_n 0, 1) := by decide +kernel
theorem dX7_best_20 : decode cX7_best 20 = .ok (.getfield 9, 3) := by decide +kernel
theorem dX7_best_23 : decode cX7_best 23 = .ok (.iconst 4, 1) := by decide +kernel
theorem dX7_best_24 : decode cX7_best 24 = .ok (.iaload, 1) := by decide +kernel
theorem dX7_best_25 : decode cX7_best 25 = .ok (.istore_n 2, 1) := by decide +kernel
theorem dX7_best_26 : decode cX7_best 26 = .ok (.iconst 1, 1) := by decide +kernel
theorem dX7_best_27 : decode cX7_best 27 = .ok (.istore_n 3, 1) := by decide +kernel
theorem dX7_best_28 : decode cX7_best 28 = .ok (.iconst 0, 1) := by decide +kernel
theorem dX7_best_29 : decode cX7_best 29 = .ok (.istore 4, 2) := by decide +kernel
theorem dX7_best_31 : decode cX7_best 31 = .ok (.iload 4, 2) := by decide +kernel
theorem dX7_best_33 : decode cX7_best 33 = .ok (.iload_n 2, 1) := by decide +kernel
theorem dX7_best_34 : decode cX7_best 34 = .ok (.if_icmp .ge 14, 3) := by decide +kernel
theorem dX7_best_37 : decode cX7_best 37 = .ok (.iload_n 3, 1) := by decide +kernel
theorem dX7_best_38 : decode cX7_best 38 = .ok (.bipush 10, 2) := by decide +kernel
theorem dX7_best_40 : decode cX7_best 40 = .ok (.imul, 1) := by decide +kernel
theorem dX7_best_41 : decode cX7_best 41 = .ok (.istore_n 3, 1) := by decide +kernel
theorem dX7_best_42 : decode cX7_best 42 = .ok (.iinc 4 1, 3) := by decide +kernel
theorem dX7_best_45 : decode cX7_best 45 = .ok (.goto (-14), 3) := by decide +kernel
theorem dX7_best_48 : decode cX7_best 48 = .ok (.iconst (-1), 1) := by decide +kernel
theorem dX7_best_49 : decode cX7_best 49 = .ok (.istore 4, 2) := by decide +kernel
theorem dX7_best_51 : decode cX7_best 51 = .ok (.iconst 0, 1) := by decide +kernel
theorem dX7_best_52 : decode cX7_best 52 = .ok (.istore 5, 2) := by decide +kernel
theorem dX7_best_54 : decode cX7_best 54 = .ok (.iconst 0, 1) := by decide +kernel
theorem dX7_best_55 : decode cX7_best 55 = .ok (.istore 6, 2) := by decide +kernel
theorem dX7_best_57 : decode cX7_best 57 = .ok (.iconst 0, 1) := by decide +kernel
theorem dX7_best_58 : decode cX7_best 58 = .ok (.istore 7, 2) := by decide +kernel
theorem dX7_best_60 : decode cX7_best 60 = .ok (.iload 7, 2) := by decide +kernel
theorem dX7_best_62 : decode cX7_best 62 = .ok (.iload_n 3, 1) := by decide +kernel
theorem dX7_best_63 : decode cX7_best 63 = .ok (.if_icmp .ge 57, 3) := by decide +kernel
theorem dX7_best_66 : decode cX7_best 66 = .ok (.aload_n 0, 1) := by decide +kernel
theorem dX7_best_67 : decode cX7_best 67 = .ok (.iload 7, 2) := by decide +kernel
theorem dX7_best_69 : decode cX7_best 69 = .ok (.iload_n 2, 1) := by decide +kernel
theorem dX7_best_70 : decode cX7_best 70 = .ok (.invokevirtual 273, 3) := by decide +kernel
theorem dX7_best_73 : decode cX7_best 73 = .ok (.ifCond .ne 6, 3) := by decide +kernel
theorem dX7_best_76 : decode cX7_best 76 = .ok (.goto 38, 3) := by decide +kernel
theorem dX7_best_79 : decode cX7_best 79 = .ok (.aload_n 0, 1) := by decide +kernel
theorem dX7_best_80 : decode cX7_best 80 = .ok (.iload 7, 2) := by decide +kernel
theorem dX7_best_82 : decode cX7_best 82 = .ok (.iload_n 2, 1) := by decide +kernel
theorem dX7_best_83 : decode cX7_best 83 = .ok (.invokevirtual 276, 3) := by decide +kernel
theorem dX7_best_86 : decode cX7_best 86 = .ok (.aload_n 0, 1) := by decide +kernel
theorem dX7_best_87 : decode cX7_best 87 = .ok (.getfield 247, 3) := by decide +kernel
theorem dX7_best_90 : decode cX7_best 90 = .ok (.iload 4, 2) := by decide +kernel
theorem dX7_best_92 : decode cX7_best 92 = .ok (.if_icmp .gt 6, 3) := by decide +kernel
theorem dX7_best_95 : decode cX7_best 95 = .ok (.goto 19, 3) := by decide +kernel
theorem dX7_best_98 : decode cX7_best 98 = .ok (.aload_n 0, 1) := by decide +kernel
theorem dX7_best_99 : decode cX7_best 99 = .ok (.getfield 247, 3) := by decide +kernel
theorem dX7_best_102 : decode cX7_best 102 = .ok (.istore 4, 2) := by decide +kernel
theorem dX7_best_104 : decode cX7_best 104 = .ok (.iload 7, 2) := by decide +kernel
theorem dX7_best_106 : decode cX7_best 106 = .ok (.istore 5, 2) := by decide +kernel
theorem dX7_best_108 : decode cX7_best 108 = .ok (.aload_n 0, 1) := by decide +kernel
theorem dX7_best_109 : decode cX7_best 109 = .ok (.getfield 249, 3) := by decide +kernel
theorem dX7_best_112 : decode cX7_best 112 = .ok (.istore 6, 2) := by decide +kernel
theorem dX7_best_114 : decode cX7_best 114 = .ok (.iinc 7 1, 3) := by decide +kernel
theorem dX7_best_117 : decode cX7_best 117 = .ok (.goto (-57), 3) := by decide +kernel
theorem dX7_best_120 : decode cX7_best 120 = .ok (.iload_n 1, 1) := by decide +kernel
theorem dX7_best_121 : decode cX7_best 121 = .ok (.ifCond .ne 8, 3) := by decide +kernel
theorem dX7_best_124 : decode cX7_best 124 = .ok (.iload 4, 2) := by decide +kernel
theorem dX7_best_126 : decode cX7_best 126 = .ok (.goto 15, 3) := by decide +kernel
theorem dX7_best_129 : decode cX7_best 129 = .ok (.iload_n 1, 1) := by decide +kernel
theorem dX7_best_130 : decode cX7_best 130 = .ok (.iconst 1, 1) := by decide +kernel
theorem dX7_best_131 : decode cX7_best 131 = .ok (.if_icmp .ne 8, 3) := by decide +kernel
theorem dX7_best_134 : decode cX7_best 134 = .ok (.iload 6, 2) := by decide +kernel
theorem dX7_best_136 : decode cX7_best 136 = .ok (.goto 5, 3) := by decide +kernel
theorem dX7_best_139 : decode cX7_best 139 = .ok (.iload 5, 2) := by decide +kernel
theorem dX7_best_141 : decode cX7_best 141 = .ok (.ireturn, 1) := by decide +kernel
theorem dX7_mostOf_0 : decode cX7_mostOf 0 = .ok (.iconst 0, 1) := by decide +kernel
theorem dX7_mostOf_1 : decode cX7_mostOf 1 = .ok (.istore_n 3, 1) := by decide +kernel
theorem dX7_mostOf_2 : decode cX7_mostOf 2 = .ok (.iconst 0, 1) := by decide +kernel
theorem dX7_mostOf_3 : decode cX7_mostOf 3 = .ok (.istore 4, 2) := by decide +kernel
theorem dX7_mostOf_5 : decode cX7_mostOf 5 = .ok (.iload 4, 2) := by decide +kernel
theorem dX7_mostOf_7 : decode cX7_mostOf 7 = .ok (.aload_n 0, 1) := by decide +kernel
theorem dX7_mostOf_8 : decode cX7_mostOf 8 = .ok (.iload_n 1, 1) := by decide +kernel
theorem dX7_mostOf_9 : decode cX7_mostOf 9 = .ok (.invokevirtual 62, 3) := by decide +kernel
theorem dX7_mostOf_12 : decode cX7_mostOf 12 = .ok (.if_icmp .ge 36, 3) := by decide +kernel
theorem dX7_mostOf_15 : decode cX7_mostOf 15 = .ok (.iload_n 3, 1) := by decide +kernel
theorem dX7_mostOf_16 : decode cX7_mostOf 16 = .ok (.aload_n 0, 1) := by decide +kernel
theorem dX7_mostOf_17 : decode cX7_mostOf 17 = .ok (.iload_n 1, 1) := by decide +kernel
theorem dX7_mostOf_18 : decode cX7_mostOf 18 = .ok (.iload 4, 2) := by decide +kernel
theorem dX7_mostOf_20 : decode cX7_mostOf 20 = .ok (.iconst 0, 1) := by decide +kernel
theorem dX7_mostOf_21 : decode cX7_mostOf 21 = .ok (.invokevirtual 210, 3) := by decide +kernel
theorem dX7_mostOf_24 : decode cX7_mostOf 24 = .ok (.iload_n 2, 1) := by decide +kernel
theorem dX7_mostOf_25 : decode cX7_mostOf 25 = .ok (.if_icmp .ne 14, 3) := by decide +kernel
theorem dX7_mostOf_28 : decode cX7_mostOf 28 = .ok (.aload_n 0, 1) := by decide +kernel
theorem dX7_mostOf_29 : decode cX7_mostOf 29 = .ok (.iload_n 1, 1) := by decide +kernel
theorem dX7_mostOf_30 : decode cX7_mostOf 30 = .ok (.iload 4, 2) := by decide +kernel
theorem dX7_mostOf_32 : decode cX7_mostOf 32 = .ok (.iconst 1, 1) := by decide +kernel
theorem dX7_mostOf_33 : decode cX7_mostOf 33 = .ok (.invokevirtual 210, 3) := by decide +kernel
theorem dX7_mostOf_36 : decode cX7_mostOf 36 = .ok (.goto 4, 3) := by decide +kernel
theorem dX7_mostOf_39 : decode cX7_mostOf 39 = .ok (.iconst 0, 1) := by decide +kernel
theorem dX7_mostOf_40 : decode cX7_mostOf 40 = .ok (.iadd, 1) := by decide +kernel
theorem dX7_mostOf_41 : decode cX7_mostOf 41 = .ok (.istore_n 3, 1) := by decide +kernel
theorem dX7_mostOf_42 : decode cX7_mostOf 42 = .ok (.iinc 4 1, 3) := by decide +kernel
theorem dX7_mostOf_45 : decode cX7_mostOf 45 = .ok (.goto (-40), 3) := by decide +kernel
theorem dX7_mostOf_48 : decode cX7_mostOf 48 = .ok (.iconst 0, 1) := by decide +kernel
theorem dX7_mostOf_49 : decode cX7_mostOf 49 = .ok (.istore 4, 2) := by decide +kernel
theorem dX7_mostOf_51 : decode cX7_mostOf 51 = .ok (.iconst 0, 1) := by decide +kernel
theorem dX7_mostOf_52 : decode cX7_mostOf 52 = .ok (.istore 5, 2) := by decide +kernel
theorem dX7_mostOf_54 : decode cX7_mostOf 54 = .ok (.iload 5, 2) := by decide +kernel
theorem dX7_mostOf_56 : decode cX7_mostOf 56 = .ok (.aload_n 0, 1) := by decide +kernel
theorem dX7_mostOf_57 : decode cX7_mostOf 57 = .ok (.getfield 9, 3) := by decide +kernel
theorem dX7_mostOf_60 : decode cX7_mostOf 60 = .ok (.iconst 0, 1) := by decide +kernel
theorem dX7_mostOf_61 : decode cX7_mostOf 61 = .ok (.iaload, 1) := by decide +kernel
theorem dX7_mostOf_62 : decode cX7_mostOf 62 = .ok (.if_icmp .ge 36, 3) := by decide +kernel
theorem dX7_mostOf_65 : decode cX7_mostOf 65 = .ok (.iload 4, 2) := by decide +kernel
theorem dX7_mostOf_67 : decode cX7_mostOf 67 = .ok (.aload_n 0, 1) := by decide +kernel
theorem dX7_mostOf_68 : decode cX7_mostOf 68 = .ok (.getfield 9, 3) := by decide +kernel
theorem dX7_mostOf_71 : decode cX7_mostOf 71 = .ok (.bipush 6, 2) := by decide +kernel
theorem dX7_mostOf_73 : decode cX7_mostOf 73 = .ok (.iload_n 2, 1) := by decide +kernel
theorem dX7_mostOf_74 : decode cX7_mostOf 74 = .ok (.iadd, 1) := by decide +kernel
theorem dX7_mostOf_75 : decode cX7_mostOf 75 = .ok (.iaload, 1) := by decide +kernel
theorem dX7_mostOf_76 : decode cX7_mostOf 76 = .ok (.iload 5, 2) := by decide +kernel
theorem dX7_mostOf_78 : decode cX7_mostOf 78 = .ok (.invokestatic 180, 3) := by decide +kernel
theorem dX7_mostOf_81 : decode cX7_mostOf 81 = .ok (.ifCond .eq 7, 3) := by decide +kernel
theorem dX7_mostOf_84 : decode cX7_mostOf 84 = .ok (.iconst 1, 1) := by decide +kernel
theorem dX7_mostOf_85 : decode cX7_mostOf 85 = .ok (.goto 4, 3) := by decide +kernel
theorem dX7_mostOf_88 : decode cX7_mostOf 88 = .ok (.iconst 0, 1) := by decide +kernel
theorem dX7_mostOf_89 : decode cX7_mostOf 89 = .ok (.iadd, 1) := by decide +kernel
theorem dX7_mostOf_90 : decode cX7_mostOf 90 = .ok (.istore 4, 2) := by decide +kernel
theorem dX7_mostOf_92 : decode cX7_mostOf 92 = .ok (.iinc 5 1, 3) := by decide +kernel
theorem dX7_mostOf_95 : decode cX7_mostOf 95 = .ok (.goto (-41), 3) := by decide +kernel
theorem dX7_mostOf_98 : decode cX7_mostOf 98 = .ok (.iload_n 3, 1) := by decide +kernel
theorem dX7_mostOf_99 : decode cX7_mostOf 99 = .ok (.ifCond .ne 7, 3) := by decide +kernel
theorem dX7_mostOf_102 : decode cX7_mostOf 102 = .ok (.iconst (-1), 1) := by decide +kernel
theorem dX7_mostOf_103 : decode cX7_mostOf 103 = .ok (.goto 10, 3) := by decide +kernel
theorem dX7_mostOf_106 : decode cX7_mostOf 106 = .ok (.bipush 8, 2) := by decide +kernel
theorem dX7_mostOf_108 : decode cX7_mostOf 108 = .ok (.iload 4, 2) := by decide +kernel
theorem dX7_mostOf_110 : decode cX7_mostOf 110 = .ok (.imul, 1) := by decide +kernel
theorem dX7_mostOf_111 : decode cX7_mostOf 111 = .ok (.iload_n 3, 1) := by decide +kernel
theorem dX7_mostOf_112 : decode cX7_mostOf 112 = .ok (.idiv, 1) := by decide +kernel
theorem dX7_mostOf_113 : decode cX7_mostOf 113 = .ok (.ireturn, 1) := by decide +kernel
theorem dX7_chokesAt_0 : decode cX7_chokesAt 0 = .ok (.iconst (-1), 1) := by decide +kernel
theorem dX7_chokesAt_1 : decode cX7_chokesAt 1 = .ok (.istore_n 2, 1) := by decide +kernel
theorem dX7_chokesAt_2 : decode cX7_chokesAt 2 = .ok (.iconst 0, 1) := by decide +kernel
theorem dX7_chokesAt_3 : decode cX7_chokesAt 3 = .ok (.istore_n 3, 1) := by decide +kernel
theorem dX7_chokesAt_4 : decode cX7_chokesAt 4 = .ok (.iload_n 3, 1) := by decide +kernel
theorem dX7_chokesAt_5 : decode cX7_chokesAt 5 = .ok (.aload_n 0, 1) := by decide +kernel
theorem dX7_chokesAt_6 : decode cX7_chokesAt 6 = .ok (.getfield 9, 3) := by decide +kernel
theorem dX7_chokesAt_9 : decode cX7_chokesAt 9 = .ok (.iconst 2, 1) := by decide +kernel
theorem dX7_chokesAt_10 : decode cX7_chokesAt 10 = .ok (.iaload, 1) := by decide +kernel
theorem dX7_chokesAt_11 : decode cX7_chokesAt 11 = .ok (.if_icmp .ge 39, 3) := by decide +kernel
theorem dX7_chokesAt_14 : decode cX7_chokesAt 14 = .ok (.aload_n 0, 1) := by decide +kernel
theorem dX7_chokesAt_15 : decode cX7_chokesAt 15 = .ok (.iload_n 1, 1) := by decide +kernel
theorem dX7_chokesAt_16 : decode cX7_chokesAt 16 = .ok (.iload_n 3, 1) := by decide +kernel
theorem dX7_chokesAt_17 : decode cX7_chokesAt 17 = .ok (.invokevirtual 279, 3) := by decide +kernel
theorem dX7_chokesAt_20 : decode cX7_chokesAt 20 = .ok (.istore 4, 2) := by decide +kernel
theorem dX7_chokesAt_22 : decode cX7_chokesAt 22 = .ok (.iload 4, 2) := by decide +kernel
theorem dX7_chokesAt_24 : decode cX7_chokesAt 24 = .ok (.ifCond .lt 20, 3) := by decide +kernel
theorem dX7_chokesAt_27 : decode cX7_chokesAt 27 = .ok (.iload_n 2, 1) := by decide +kernel
theorem dX7_chokesAt_28 : decode cX7_chokesAt 28 = .ok (.ifCond .lt 14, 3) := by decide +kernel
theorem dX7_chokesAt_31 : decode cX7_chokesAt 31 = .ok (.iload 4, 2) := by decide +kernel
theorem dX7_chokesAt_33 : decode cX7_chokesAt 33 = .ok (.aload_n 0, 1) := by decide +kernel
theorem dX7_chokesAt_34 : decode cX7_chokesAt 34 = .ok (.iload_n 1, 1) := by decide +kernel
theorem dX7_chokesAt_35 : decode cX7_chokesAt 35 = .ok (.iload_n 2, 1) := by decide +kernel
theorem dX7_chokesAt_36 : decode cX7_chokesAt 36 = .ok (.invokevirtual 279, 3) := by decide +kernel
theorem dX7_chokesAt_39 : decode cX7_chokesAt 39 = .ok (.if_icmp .ge 5, 3) := by decide +kernel
theorem dX7_chokesAt_42 : decode cX7_chokesAt 42 = .ok (.iload_n 3, 1) := by decide +kernel
theorem dX7_chokesAt_43 : decode cX7_chokesAt 43 = .ok (.istore_n 2, 1) := by decide +kernel
theorem dX7_chokesAt_44 : decode cX7_chokesAt 44 = .ok (.iinc 3 1, 3) := by decide +kernel
theorem dX7_chokesAt_47 : decode cX7_chokesAt 47 = .ok (.goto (-43), 3) := by decide +kernel
theorem dX7_chokesAt_50 : decode cX7_chokesAt 50 = .ok (.iload_n 2, 1) := by decide +kernel
theorem dX7_chokesAt_51 : decode cX7_chokesAt 51 = .ok (.ireturn, 1) := by decide +kernel
theorem dX7_most_0 : decode cX7_most 0 = .ok (.aload_n 0, 1) := by decide +kernel
theorem dX7_most_1 : decode cX7_most 1 = .ok (.iload_n 1, 1) := by decide +kernel
theorem dX7_most_2 : decode cX7_most 2 = .ok (.invokevirtual 58, 3) := by decide +kernel
theorem dX7_most_5 : decode cX7_most 5 = .ok (.ifCond .eq 16, 3) := by decide +kernel
theorem dX7_most_8 : decode cX7_most 8 = .ok (.aload_n 0, 1) := by decide +kernel
theorem dX7_most_9 : decode cX7_most 9 = .ok (.iload_n 1, 1) := by decide +kernel
theorem dX7_most_10 : decode cX7_most 10 = .ok (.aload_n 0, 1) := by decide +kernel
theorem dX7_most_11 : decode cX7_most 11 = .ok (.iload_n 1, 1) := by decide +kernel
theorem dX7_most_12 : decode cX7_most 12 = .ok (.invokevirtual 282, 3) := by decide +kernel
theorem dX7_most_15 : decode cX7_most 15 = .ok (.invokevirtual 279, 3) := by decide +kernel
theorem dX7_most_18 : decode cX7_most 18 = .ok (.goto 9, 3) := by decide +kernel
theorem dX7_most_21 : decode cX7_most 21 = .ok (.aload_n 0, 1) := by decide +kernel
theorem dX7_most_22 : decode cX7_most 22 = .ok (.ldc 40, 2) := by decide +kernel
theorem dX7_most_24 : decode cX7_most 24 = .ok (.invokevirtual 42, 3) := by decide +kernel
theorem dX7_most_27 : decode cX7_most 27 = .ok (.ireturn, 1) := by decide +kernel
theorem dX7_chokes_0 : decode cX7_chokes 0 = .ok (.aload_n 0, 1) := by decide +kernel
theorem dX7_chokes_1 : decode cX7_chokes 1 = .ok (.iload_n 1, 1) := by decide +kernel
theorem dX7_chokes_2 : decode cX7_chokes 2 = .ok (.invokevirtual 58, 3) := by decide +kernel
theorem dX7_chokes_5 : decode cX7_chokes 5 = .ok (.ifCond .eq 11, 3) := by decide +kernel
theorem dX7_chokes_8 : decode cX7_chokes 8 = .ok (.aload_n 0, 1) := by decide +kernel
theorem dX7_chokes_9 : decode cX7_chokes 9 = .ok (.iload_n 1, 1) := by decide +kernel
theorem dX7_chokes_10 : decode cX7_chokes 10 = .ok (.invokevirtual 282, 3) := by decide +kernel
theorem dX7_chokes_13 : decode cX7_chokes 13 = .ok (.goto 9, 3) := by decide +kernel
theorem dX7_chokes_16 : decode cX7_chokes 16 = .ok (.aload_n 0, 1) := by decide +kernel
theorem dX7_chokes_17 : decode cX7_chokes 17 = .ok (.ldc 40, 2) := by decide +kernel
theorem dX7_chokes_19 : decode cX7_chokes 19 = .ok (.invokevirtual 42, 3) := by decide +kernel
theorem dX7_chokes_22 : decode cX7_chokes 22 = .ok (.ireturn, 1) := by decide +kernel
theorem dX7_idle_0 : decode cX7_idle 0 = .ok (.iload_n 1, 1) := by decide +kernel
theorem dX7_idle_1 : decode cX7_idle 1 = .ok (.i2l, 1) := by decide +kernel
theorem dX7_idle_2 : decode cX7_idle 2 = .ok (.lconst 0, 1) := by decide +kernel
theorem dX7_idle_3 : decode cX7_idle 3 = .ok (.iconst 1, 1) := by decide +kernel
theorem dX7_idle_4 : decode cX7_idle 4 = .ok (.aload_n 0, 1) := by decide +kernel
theorem dX7_idle_5 : decode cX7_idle 5 = .ok (.getfield 9, 3) := by decide +kernel
theorem dX7_idle_8 : decode cX7_idle 8 = .ok (.iconst 2, 1) := by decide +kernel
theorem dX7_idle_9 : decode cX7_idle 9 = .ok (.iaload, 1) := by decide +kernel
theorem dX7_idle_10 : decode cX7_idle 10 = .ok (.ishl, 1) := by decide +kernel
theorem dX7_idle_11 : decode cX7_idle 11 = .ok (.iconst 1, 1) := by decide +kernel
theorem dX7_idle_12 : decode cX7_idle 12 = .ok (.isub, 1) := by decide +kernel
theorem dX7_idle_13 : decode cX7_idle 13 = .ok (.i2l, 1) := by decide +kernel
theorem dX7_idle_14 : decode cX7_idle 14 = .ok (.invokestatic 46, 3) := by decide +kernel
theorem dX7_idle_17 : decode cX7_idle 17 = .ok (.ifCond .ne 10, 3) := by decide +kernel
theorem dX7_idle_20 : decode cX7_idle 20 = .ok (.aload_n 0, 1) := by decide +kernel
theorem dX7_idle_21 : decode cX7_idle 21 = .ok (.ldc 40, 2) := by decide +kernel
theorem dX7_idle_23 : decode cX7_idle 23 = .ok (.invokevirtual 42, 3) := by decide +kernel
theorem dX7_idle_26 : decode cX7_idle 26 = .ok (.ireturn, 1) := by decide +kernel
theorem dX7_idle_27 : decode cX7_idle 27 = .ok (.iconst 1, 1) := by decide +kernel
theorem dX7_idle_28 : decode cX7_idle 28 = .ok (.aload_n 0, 1) := by decide +kernel
theorem dX7_idle_29 : decode cX7_idle 29 = .ok (.getfield 9, 3) := by decide +kernel
theorem dX7_idle_32 : decode cX7_idle 32 = .ok (.iconst 0, 1) := by decide +kernel
theorem dX7_idle_33 : decode cX7_idle 33 = .ok (.iaload, 1) := by decide +kernel
theorem dX7_idle_34 : decode cX7_idle 34 = .ok (.ishl, 1) := by decide +kernel
theorem dX7_idle_35 : decode cX7_idle 35 = .ok (.iconst 1, 1) := by decide +kernel
theorem dX7_idle_36 : decode cX7_idle 36 = .ok (.isub, 1) := by decide +kernel
theorem dX7_idle_37 : decode cX7_idle 37 = .ok (.istore_n 2, 1) := by decide +kernel
theorem dX7_idle_38 : decode cX7_idle 38 = .ok (.iconst 0, 1) := by decide +kernel
theorem dX7_idle_39 : decode cX7_idle 39 = .ok (.istore_n 3, 1) := by decide +kernel
theorem dX7_idle_40 : decode cX7_idle 40 = .ok (.iload_n 3, 1) := by decide +kernel
theorem dX7_idle_41 : decode cX7_idle 41 = .ok (.aload_n 0, 1) := by decide +kernel
theorem dX7_idle_42 : decode cX7_idle 42 = .ok (.getfield 9, 3) := by decide +kernel
theorem dX7_idle_45 : decode cX7_idle 45 = .ok (.iconst 2, 1) := by decide +kernel
theorem dX7_idle_46 : decode cX7_idle 46 = .ok (.iaload, 1) := by decide +kernel
theorem dX7_idle_47 : decode cX7_idle 47 = .ok (.if_icmp .ge 35, 3) := by decide +kernel
theorem dX7_idle_50 : decode cX7_idle 50 = .ok (.iload_n 2, 1) := by decide +kernel
theorem dX7_idle_51 : decode cX7_idle 51 = .ok (.iload_n 1, 1) := by decide +kernel
theorem dX7_idle_52 : decode cX7_idle 52 = .ok (.iload_n 3, 1) := by decide +kernel
theorem dX7_idle_53 : decode cX7_idle 53 = .ok (.invokestatic 180, 3) := by decide +kernel
theorem dX7_idle_56 : decode cX7_idle 56 = .ok (.ifCond .eq 17, 3) := by decide +kernel
theorem dX7_idle_59 : decode cX7_idle 59 = .ok (.aload_n 0, 1) := by decide +kernel
theorem dX7_idle_60 : decode cX7_idle 60 = .ok (.getfield 9, 3) := by decide +kernel
theorem dX7_idle_63 : decode cX7_idle 63 = .ok (.bipush 6, 2) := by decide +kernel
theorem dX7_idle_65 : decode cX7_idle 65 = .ok (.iload_n 3, 1) := by decide +kernel
theorem dX7_idle_66 : decode cX7_idle 66 = .ok (.iadd, 1) := by decide +kernel
theorem dX7_idle_67 : decode cX7_idle 67 = .ok (.iaload, 1) := by decide +kernel
theorem dX7_idle_68 : decode cX7_idle 68 = .ok (.iconst (-1), 1) := by decide +kernel
theorem dX7_idle_69 : decode cX7_idle 69 = .ok (.ixor, 1) := by decide +kernel
theorem dX7_idle_70 : decode cX7_idle 70 = .ok (.goto 4, 3) := by decide +kernel
theorem dX7_idle_73 : decode cX7_idle 73 = .ok (.iconst (-1), 1) := by decide +kernel
theorem dX7_idle_74 : decode cX7_idle 74 = .ok (.iand, 1) := by decide +kernel
theorem dX7_idle_75 : decode cX7_idle 75 = .ok (.istore_n 2, 1) := by decide +kernel
theorem dX7_idle_76 : decode cX7_idle 76 = .ok (.iinc 3 1, 3) := by decide +kernel
theorem dX7_idle_79 : decode cX7_idle 79 = .ok (.goto (-39), 3) := by decide +kernel
theorem dX7_idle_82 : decode cX7_idle 82 = .ok (.iload_n 2, 1) := by decide +kernel
theorem dX7_idle_83 : decode cX7_idle 83 = .ok (.ireturn, 1) := by decide +kernel
theorem dX7_turnedBy_0 : decode cX7_turnedBy 0 = .ok (.iconst 0, 1) := by decide +kernel
theorem dX7_turnedBy_1 : decode cX7_turnedBy 1 = .ok (.istore_n 3, 1) := by decide +kernel
theorem dX7_turnedBy_2 : decode cX7_turnedBy 2 = .ok (.iconst 0, 1) := by decide +kernel
theorem dX7_turnedBy_3 : decode cX7_turnedBy 3 = .ok (.istore 4, 2) := by decide +kernel
theorem dX7_turnedBy_5 : decode cX7_turnedBy 5 = .ok (.iload 4, 2) := by decide +kernel
theorem dX7_turnedBy_7 : decode cX7_turnedBy 7 = .ok (.aload_n 0, 1) := by decide +kernel
theorem dX7_turnedBy_8 : decode cX7_turnedBy 8 = .ok (.getfield 9, 3) := by decide +kernel
theorem dX7_turnedBy_11 : decode cX7_turnedBy 11 = .ok (.iconst 0, 1) := by decide +kernel
theorem dX7_turnedBy_12 : decode cX7_turnedBy 12 = .ok (.iaload, 1) := by decide +kernel
theorem dX7_turnedBy_13 : decode cX7_turnedBy 13 = .ok (.if_icmp .ge 38, 3) := by decide +kernel
theorem dX7_turnedBy_16 : decode cX7_turnedBy 16 = .ok (.iload_n 3, 1) := by decide +kernel
theorem dX7_turnedBy_17 : decode cX7_turnedBy 17 = .ok (.iload_n 1, 1) := by decide +kernel
theorem dX7_turnedBy_18 : decode cX7_turnedBy 18 = .ok (.iload 4, 2) := by decide +kernel
theorem dX7_turnedBy_20 : decode cX7_turnedBy 20 = .ok (.invokestatic 180, 3) := by decide +kernel
theorem dX7_turnedBy_23 : decode cX7_turnedBy 23 = .ok (.ifCond .eq 19, 3) := by decide +kernel
theorem dX7_turnedBy_26 : decode cX7_turnedBy 26 = .ok (.iconst 1, 1) := by decide +kernel
theorem dX7_turnedBy_27 : decode cX7_turnedBy 27 = .ok (.iload 4, 2) := by decide +kernel
theorem dX7_turnedBy_29 : decode cX7_turnedBy 29 = .ok (.iload_n 2, 1) := by decide +kernel
theorem dX7_turnedBy_30 : decode cX7_turnedBy 30 = .ok (.iadd, 1) := by decide +kernel
theorem dX7_turnedBy_31 : decode cX7_turnedBy 31 = .ok (.aload_n 0, 1) := by decide +kernel
theorem dX7_turnedBy_32 : decode cX7_turnedBy 32 = .ok (.getfield 9, 3) := by decide +kernel
theorem dX7_turnedBy_35 : decode cX7_turnedBy 35 = .ok (.iconst 0, 1) := by decide +kernel
theorem dX7_turnedBy_36 : decode cX7_turnedBy 36 = .ok (.iaload, 1) := by decide +kernel
theorem dX7_turnedBy_37 : decode cX7_turnedBy 37 = .ok (.irem, 1) := by decide +kernel
theorem dX7_turnedBy_38 : decode cX7_turnedBy 38 = .ok (.ishl, 1) := by decide +kernel
theorem dX7_turnedBy_39 : decode cX7_turnedBy 39 = .ok (.goto 4, 3) := by decide +kernel
theorem dX7_turnedBy_42 : decode cX7_turnedBy 42 = .ok (.iconst 0, 1) := by decide +kernel
theorem dX7_turnedBy_43 : decode cX7_turnedBy 43 = .ok (.ior, 1) := by decide +kernel
theorem dX7_turnedBy_44 : decode cX7_turnedBy 44 = .ok (.istore_n 3, 1) := by decide +kernel
theorem dX7_turnedBy_45 : decode cX7_turnedBy 45 = .ok (.iinc 4 1, 3) := by decide +kernel
theorem dX7_turnedBy_48 : decode cX7_turnedBy 48 = .ok (.goto (-43), 3) := by decide +kernel
theorem dX7_turnedBy_51 : decode cX7_turnedBy 51 = .ok (.iload_n 3, 1) := by decide +kernel
theorem dX7_turnedBy_52 : decode cX7_turnedBy 52 = .ok (.ireturn, 1) := by decide +kernel
theorem dX7_turned_0 : decode cX7_turned 0 = .ok (.aload_n 0, 1) := by decide +kernel
theorem dX7_turned_1 : decode cX7_turned 1 = .ok (.iload_n 1, 1) := by decide +kernel
theorem dX7_turned_2 : decode cX7_turned 2 = .ok (.invokevirtual 58, 3) := by decide +kernel
theorem dX7_turned_5 : decode cX7_turned 5 = .ok (.ifCond .ne 10, 3) := by decide +kernel
theorem dX7_turned_8 : decode cX7_turned 8 = .ok (.aload_n 0, 1) := by decide +kernel
theorem dX7_turned_9 : decode cX7_turned 9 = .ok (.ldc 40, 2) := by decide +kernel
theorem dX7_turned_11 : decode cX7_turned 11 = .ok (.invokevirtual 42, 3) := by decide +kernel
theorem dX7_turned_14 : decode cX7_turned 14 = .ok (.ireturn, 1) := by decide +kernel
theorem dX7_turned_15 : decode cX7_turned 15 = .ok (.aload_n 0, 1) := by decide +kernel
theorem dX7_turned_16 : decode cX7_turned 16 = .ok (.iload_n 1, 1) := by decide +kernel
theorem dX7_turned_17 : decode cX7_turned 17 = .ok (.iconst 0, 1) := by decide +kernel
theorem dX7_turned_18 : decode cX7_turned 18 = .ok (.invokevirtual 240, 3) := by decide +kernel
theorem dX7_turned_21 : decode cX7_turned 21 = .ok (.istore_n 2, 1) := by decide +kernel
theorem dX7_turned_22 : decode cX7_turned 22 = .ok (.iconst 0, 1) := by decide +kernel
theorem dX7_turned_23 : decode cX7_turned 23 = .ok (.istore_n 3, 1) := by decide +kernel
theorem dX7_turned_24 : decode cX7_turned 24 = .ok (.iconst 0, 1) := by decide +kernel
theorem dX7_turned_25 : decode cX7_turned 25 = .ok (.istore 4, 2) := by decide +kernel
theorem dX7_turned_27 : decode cX7_turned 27 = .ok (.iload 4, 2) := by decide +kernel
theorem dX7_turned_29 : decode cX7_turned 29 = .ok (.aload_n 0, 1) := by decide +kernel
theorem dX7_turned_30 : decode cX7_turned 30 = .ok (.getfield 9, 3) := by decide +kernel
theorem dX7_turned_33 : decode cX7_turned 33 = .ok (.iconst 2, 1) := by decide +kernel
theorem dX7_turned_34 : decode cX7_turned 34 = .ok (.iaload, 1) := by decide +kernel
theorem dX7_turned_35 : decode cX7_turned 35 = .ok (.if_icmp .ge 109, 3) := by decide +kernel
theorem dX7_turned_38 : decode cX7_turned 38 = .ok (.aload_n 0, 1) := by decide +kernel
theorem dX7_turned_39 : decode cX7_turned 39 = .ok (.getfield 9, 3) := by decide +kernel
theorem dX7_turned_42 : decode cX7_turned 42 = .ok (.bipush 6, 2) := by decide +kernel
theorem dX7_turned_44 : decode cX7_turned 44 = .ok (.iload 4, 2) := by decide +kernel
theorem dX7_turned_46 : decode cX7_turned 46 = .ok (.iadd, 1) := by decide +kernel
theorem dX7_turned_47 : decode cX7_turned 47 = .ok (.iaload, 1) := by decide +kernel
theorem dX7_turned_48 : decode cX7_turned 48 = .ok (.istore 5, 2) := by decide +kernel
theorem dX7_turned_50 : decode cX7_turned 50 = .ok (.iconst 1, 1) := by decide +kernel
theorem dX7_turned_51 : decode cX7_turned 51 = .ok (.istore 6, 2) := by decide +kernel
theorem dX7_turned_53 : decode cX7_turned 53 = .ok (.iload 6, 2) := by decide +kernel
theorem dX7_turned_55 : decode cX7_turned 55 = .ok (.aload_n 0, 1) := by decide +kernel
theorem dX7_turned_56 : decode cX7_turned 56 = .ok (.getfield 9, 3) := by decide +kernel
theorem dX7_turned_59 : decode cX7_turned 59 = .ok (.iconst 0, 1) := by decide +kernel
theorem dX7_turned_60 : decode cX7_turned 60 = .ok (.iaload, 1) := by decide +kernel
theorem dX7_turned_61 : decode cX7_turned 61 = .ok (.if_icmp .ge 65, 3) := by decide +kernel
theorem dX7_turned_64 : decode cX7_turned 64 = .ok (.aload_n 0, 1) := by decide +kernel
theorem dX7_turned_65 : decode cX7_turned 65 = .ok (.getfield 9, 3) := by decide +kernel
theorem dX7_turned_68 : decode cX7_turned 68 = .ok (.bipush 6, 2) := by decide +kernel
theorem dX7_turned_70 : decode cX7_turned 70 = .ok (.iload 4, 2) := by decide +kernel
theorem dX7_turned_72 : decode cX7_turned 72 = .ok (.iadd, 1) := by decide +kernel
theorem dX7_turned_73 : decode cX7_turned 73 = .ok (.aload_n 0, 1) := by decide +kernel
theorem dX7_turned_74 : decode cX7_turned 74 = .ok (.iload 5, 2) := by decide +kernel
theorem dX7_turned_76 : decode cX7_turned 76 = .ok (.iload 6, 2) := by decide +kernel
theorem dX7_turned_78 : decode cX7_turned 78 = .ok (.invokevirtual 285, 3) := by decide +kernel
theorem dX7_turned_81 : decode cX7_turned 81 = .ok (.iastore, 1) := by decide +kernel
theorem dX7_turned_82 : decode cX7_turned 82 = .ok (.aload_n 0, 1) := by decide +kernel
theorem dX7_turned_83 : decode cX7_turned 83 = .ok (.iload_n 1, 1) := by decide +kernel
theorem dX7_turned_84 : decode cX7_turned 84 = .ok (.iconst 0, 1) := by decide +kernel
theorem dX7_turned_85 : decode cX7_turned 85 = .ok (.invokevirtual 240, 3) := by decide +kernel
theorem dX7_turned_88 : decode cX7_turned 88 = .ok (.istore 7, 2) := by decide +kernel
theorem dX7_turned_90 : decode cX7_turned 90 = .ok (.iload 7, 2) := by decide +kernel
theorem dX7_turned_92 : decode cX7_turned 92 = .ok (.ifCond .lt 28, 3) := by decide +kernel
theorem dX7_turned_95 : decode cX7_turned 95 = .ok (.iload_n 2, 1) := by decide +kernel
theorem dX7_turned_96 : decode cX7_turned 96 = .ok (.ifCond .lt 12, 3) := by decide +kernel
theorem dX7_turned_99 : decode cX7_turned 99 = .ok (.iload 7, 2) := by decide +kernel
theorem dX7_turned_101 : decode cX7_turned 101 = .ok (.iload_n 2, 1) := by decide +kernel
theorem dX7_turned_102 : decode cX7_turned 102 = .ok (.if_icmp .lt 6, 3) := by decide +kernel
theorem dX7_turned_105 : decode cX7_turned 105 = .ok (.goto 15, 3) := by decide +kernel
theorem dX7_turned_108 : decode cX7_turned 108 = .ok (.iload 7, 2) := by decide +kernel
theorem dX7_turned_110 : decode cX7_turned 110 = .ok (.istore_n 2, 1) := by decide +kernel
theorem dX7_turned_111 : decode cX7_turned 111 = .ok (.bipush 100, 2) := by decide +kernel
theorem dX7_turned_113 : decode cX7_turned 113 = .ok (.iload 4, 2) := by decide +kernel
theorem dX7_turned_115 : decode cX7_turned 115 = .ok (.imul, 1) := by decide +kernel
theorem dX7_turned_116 : decode cX7_turned 116 = .ok (.iload 6, 2) := by decide +kernel
theorem dX7_turned_118 : decode cX7_turned 118 = .ok (.iadd, 1) := by decide +kernel
theorem dX7_turned_119 : decode cX7_turned 119 = .ok (.istore_n 3, 1) := by decide +kernel
theorem dX7_turned_120 : decode cX7_turned 120 = .ok (.iinc 6 1, 3) := by decide +kernel
theorem dX7_turned_123 : decode cX7_turned 123 = .ok (.goto (-70), 3) := by decide +kernel
theorem dX7_turned_126 : decode cX7_turned 126 = .ok (.aload_n 0, 1) := by decide +kernel
theorem dX7_turned_127 : decode cX7_turned 127 = .ok (.getfield 9, 3) := by decide +kernel
theorem dX7_turned_130 : decode cX7_turned 130 = .ok (.bipush 6, 2) := by decide +kernel
theorem dX7_turned_132 : decode cX7_turned 132 = .ok (.iload 4, 2) := by decide +kernel
theorem dX7_turned_134 : decode cX7_turned 134 = .ok (.iadd, 1) := by decide +kernel
theorem dX7_turned_135 : decode cX7_turned 135 = .ok (.iload 5, 2) := by decide +kernel
theorem dX7_turned_137 : decode cX7_turned 137 = .ok (.iastore, 1) := by decide +kernel
theorem dX7_turned_138 : decode cX7_turned 138 = .ok (.iinc 4 1, 3) := by decide +kernel
theorem dX7_turned_141 : decode cX7_turned 141 = .ok (.goto (-114), 3) := by decide +kernel
theorem dX7_turned_144 : decode cX7_turned 144 = .ok (.iload_n 3, 1) := by decide +kernel
theorem dX7_turned_145 : decode cX7_turned 145 = .ok (.ireturn, 1) := by decide +kernel
theorem dX7_soonest_0 : decode cX7_soonest 0 = .ok (.aload_n 0, 1) := by decide +kernel
theorem dX7_soonest_1 : decode cX7_soonest 1 = .ok (.getfield 9, 3) := by decide +kernel
theorem dX7_soonest_4 : decode cX7_soonest 4 = .ok (.iload_n 3, 1) := by decide +kernel
theorem dX7_soonest_5 : decode cX7_soonest 5 = .ok (.iaload, 1) := by decide +kernel
theorem dX7_soonest_6 : decode cX7_soonest 6 = .ok (.istore 6, 2) := by decide +kernel
theorem dX7_soonest_8 : decode cX7_soonest 8 = .ok (.bipush (-2), 2) := by decide +kernel
theorem dX7_soonest_10 : decode cX7_soonest 10 = .ok (.istore 7, 2) := by decide +kernel
theorem dX7_soonest_12 : decode cX7_soonest 12 = .ok (.iconst 0, 1) := by decide +kernel
theorem dX7_soonest_13 : decode cX7_soonest 13 = .ok (.istore 8, 2) := by decide +kernel
theorem dX7_soonest_15 : decode cX7_soonest 15 = .ok (.iload 4, 2) := by decide +kernel
theorem dX7_soonest_17 : decode cX7_soonest 17 = .ok (.istore 9, 2) := by decide +kernel
theorem dX7_soonest_19 : decode cX7_soonest 19 = .ok (.iload 9, 2) := by decide +kernel
theorem dX7_soonest_21 : decode cX7_soonest 21 = .ok (.iload 5, 2) := by decide +kernel
theorem dX7_soonest_23 : decode cX7_soonest 23 = .ok (.if_icmp .gt 55, 3) := by decide +kernel
theorem dX7_soonest_26 : decode cX7_soonest 26 = .ok (.aload_n 0, 1) := by decide +kernel
theorem dX7_soonest_27 : decode cX7_soonest 27 = .ok (.getfield 9, 3) := by decide +kernel
theorem dX7_soonest_30 : decode cX7_soonest 30 = .ok (.iload_n 3, 1) := by decide +kernel
theorem dX7_soonest_31 : decode cX7_soonest 31 = .ok (.iload 9, 2) := by decide +kernel
theorem dX7_soonest_33 : decode cX7_soonest 33 = .ok (.iastore, 1) := by decide +kernel
theorem dX7_soonest_34 : decode cX7_soonest 34 = .ok (.aload_n 0, 1) := by decide +kernel
theorem dX7_soonest_35 : decode cX7_soonest 35 = .ok (.iload_n 1, 1) := by decide +kernel
theorem dX7_soonest_36 : decode cX7_soonest 36 = .ok (.iload_n 2, 1) := by decide +kernel
theorem dX7_soonest_37 : decode cX7_soonest 37 = .ok (.invokevirtual 240, 3) := by decide +kernel
theorem dX7_soonest_40 : decode cX7_soonest 40 = .ok (.istore 10, 2) := by decide +kernel
theorem dX7_soonest_42 : decode cX7_soonest 42 = .ok (.iload 10, 2) := by decide +kernel
theorem dX7_soonest_44 : decode cX7_soonest 44 = .ok (.ifCond .lt 28, 3) := by decide +kernel
theorem dX7_soonest_47 : decode cX7_soonest 47 = .ok (.iload 7, 2) := by decide +kernel
theorem dX7_soonest_49 : decode cX7_soonest 49 = .ok (.bipush (-2), 2) := by decide +kernel
theorem dX7_soonest_51 : decode cX7_soonest 51 = .ok (.if_icmp .le 13, 3) := by decide +kernel
theorem dX7_soonest_54 : decode cX7_soonest 54 = .ok (.iload 10, 2) := by decide +kernel
theorem dX7_soonest_56 : decode cX7_soonest 56 = .ok (.iload 8, 2) := by decide +kernel
theorem dX7_soonest_58 : decode cX7_soonest 58 = .ok (.if_icmp .lt 6, 3) := by decide +kernel
theorem dX7_soonest_61 : decode cX7_soonest 61 = .ok (.goto 11, 3) := by decide +kernel
theorem dX7_soonest_64 : decode cX7_soonest 64 = .ok (.iload 9, 2) := by decide +kernel
theorem dX7_soonest_66 : decode cX7_soonest 66 = .ok (.istore 7, 2) := by decide +kernel
theorem dX7_soonest_68 : decode cX7_soonest 68 = .ok (.iload 10, 2) := by decide +kernel
theorem dX7_soonest_70 : decode cX7_soonest 70 = .ok (.istore 8, 2) := by decide +kernel
theorem dX7_soonest_72 : decode cX7_soonest 72 = .ok (.iinc 9 1, 3) := by decide +kernel
theorem dX7_soonest_75 : decode cX7_soonest 75 = .ok (.goto (-56), 3) := by decide +kernel
theorem dX7_soonest_78 : decode cX7_soonest 78 = .ok (.aload_n 0, 1) := by decide +kernel
theorem dX7_soonest_79 : decode cX7_soonest 79 = .ok (.getfield 9, 3) := by decide +kernel
theorem dX7_soonest_82 : decode cX7_soonest 82 = .ok (.iload_n 3, 1) := by decide +kernel
theorem dX7_soonest_83 : decode cX7_soonest 83 = .ok (.iload 6, 2) := by decide +kernel
theorem dX7_soonest_85 : decode cX7_soonest 85 = .ok (.iastore, 1) := by decide +kernel
theorem dX7_soonest_86 : decode cX7_soonest 86 = .ok (.iload 7, 2) := by decide +kernel
theorem dX7_soonest_88 : decode cX7_soonest 88 = .ok (.bipush (-2), 2) := by decide +kernel
theorem dX7_soonest_90 : decode cX7_soonest 90 = .ok (.if_icmp .ne 12, 3) := by decide +kernel
theorem dX7_soonest_93 : decode cX7_soonest 93 = .ok (.aload_n 0, 1) := by decide +kernel
theorem dX7_soonest_94 : decode cX7_soonest 94 = .ok (.ldc 41, 2) := by decide +kernel
theorem dX7_soonest_96 : decode cX7_soonest 96 = .ok (.invokevirtual 42, 3) := by decide +kernel
theorem dX7_soonest_99 : decode cX7_soonest 99 = .ok (.goto 5, 3) := by decide +kernel
theorem dX7_soonest_102 : decode cX7_soonest 102 = .ok (.iload 7, 2) := by decide +kernel
theorem dX7_soonest_104 : decode cX7_soonest 104 = .ok (.ireturn, 1) := by decide +kernel
theorem dX7_roundFor_0 : decode cX7_roundFor 0 = .ok (.aload_n 0, 1) := by decide +kernel
theorem dX7_roundFor_1 : decode cX7_roundFor 1 = .ok (.iload_n 1, 1) := by decide +kernel
theorem dX7_roundFor_2 : decode cX7_roundFor 2 = .ok (.invokevirtual 58, 3) := by decide +kernel
theorem dX7_roundFor_5 : decode cX7_roundFor 5 = .ok (.ifCond .eq 23, 3) := by decide +kernel
theorem dX7_roundFor_8 : decode cX7_roundFor 8 = .ok (.iload_n 2, 1) := by decide +kernel
theorem dX7_roundFor_9 : decode cX7_roundFor 9 = .ok (.invokestatic 187, 3) := by decide +kernel
theorem dX7_roundFor_12 : decode cX7_roundFor 12 = .ok (.ifCond .eq 16, 3) := by decide +kernel
theorem dX7_roundFor_15 : decode cX7_roundFor 15 = .ok (.aload_n 0, 1) := by decide +kernel
theorem dX7_roundFor_16 : decode cX7_roundFor 16 = .ok (.iload_n 1, 1) := by decide +kernel
theorem dX7_roundFor_17 : decode cX7_roundFor 17 = .ok (.iload_n 2, 1) := by decide +kernel
theorem dX7_roundFor_18 : decode cX7_roundFor 18 = .ok (.iconst 0, 1) := by decide +kernel
theorem dX7_roundFor_19 : decode cX7_roundFor 19 = .ok (.iconst 1, 1) := by decide +kernel
theorem dX7_roundFor_20 : decode cX7_roundFor 20 = .ok (.bipush 12, 2) := by decide +kernel
theorem dX7_roundFor_22 : decode cX7_roundFor 22 = .ok (.invokevirtual 288, 3) := by decide +kernel
theorem dX7_roundFor_25 : decode cX7_roundFor 25 = .ok (.goto 9, 3) := by decide +kernel
theorem dX7_roundFor_28 : decode cX7_roundFor 28 = .ok (.aload_n 0, 1) := by decide +kernel
theorem dX7_roundFor_29 : decode cX7_roundFor 29 = .ok (.ldc 40, 2) := by decide +kernel
theorem dX7_roundFor_31 : decode cX7_roundFor 31 = .ok (.invokevirtual 42, 3) := by decide +kernel
theorem dX7_roundFor_34 : decode cX7_roundFor 34 = .ok (.ireturn, 1) := by decide +kernel
theorem dX7_nearFor_0 : decode cX7_nearFor 0 = .ok (.aload_n 0, 1) := by decide +kernel
theorem dX7_nearFor_1 : decode cX7_nearFor 1 = .ok (.iload_n 1, 1) := by decide +kernel
theorem dX7_nearFor_2 : decode cX7_nearFor 2 = .ok (.invokevirtual 58, 3) := by decide +kernel
theorem dX7_nearFor_5 : decode cX7_nearFor 5 = .ok (.ifCond .eq 23, 3) := by decide +kernel
theorem dX7_nearFor_8 : decode cX7_nearFor 8 = .ok (.iload_n 2, 1) := by decide +kernel
theorem dX7_nearFor_9 : decode cX7_nearFor 9 = .ok (.invokestatic 187, 3) := by decide +kernel
theorem dX7_nearFor_12 : decode cX7_nearFor 12 = .ok (.ifCond .eq 16, 3) := by decide +kernel
theorem dX7_nearFor_15 : decode cX7_nearFor 15 = .ok (.aload_n 0, 1) := by decide +kernel
theorem dX7_nearFor_16 : decode cX7_nearFor 16 = .ok (.iload_n 1, 1) := by decide +kernel
theorem dX7_nearFor_17 : decode cX7_nearFor 17 = .ok (.iload_n 2, 1) := by decide +kernel
theorem dX7_nearFor_18 : decode cX7_nearFor 18 = .ok (.iconst 1, 1) := by decide +kernel
theorem dX7_nearFor_19 : decode cX7_nearFor 19 = .ok (.iconst (-1), 1) := by decide +kernel
theorem dX7_nearFor_20 : decode cX7_nearFor 20 = .ok (.bipush 11, 2) := by decide +kernel
theorem dX7_nearFor_22 : decode cX7_nearFor 22 = .ok (.invokevirtual 288, 3) := by decide +kernel
theorem dX7_nearFor_25 : decode cX7_nearFor 25 = .ok (.goto 9, 3) := by decide +kernel
theorem dX7_nearFor_28 : decode cX7_nearFor 28 = .ok (.aload_n 0, 1) := by decide +kernel
theorem dX7_nearFor_29 : decode cX7_nearFor 29 = .ok (.ldc 40, 2) := by decide +kernel
theorem dX7_nearFor_31 : decode cX7_nearFor 31 = .ok (.invokevirtual 42, 3) := by decide +kernel
theorem dX7_nearFor_34 : decode cX7_nearFor 34 = .ok (.ireturn, 1) := by decide +kernel
theorem dX7_chance_0 : decode cX7_chance 0 = .ok (.aload_n 0, 1) := by decide +kernel
theorem dX7_chance_1 : decode cX7_chance 1 = .ok (.iload_n 1, 1) := by decide +kernel
theorem dX7_chance_2 : decode cX7_chance 2 = .ok (.invokevirtual 58, 3) := by decide +kernel
theorem dX7_chance_5 : decode cX7_chance 5 = .ok (.ifCond .eq 15, 3) := by decide +kernel
theorem dX7_chance_8 : decode cX7_chance 8 = .ok (.iload_n 2, 1) := by decide +kernel
theorem dX7_chance_9 : decode cX7_chance 9 = .ok (.i2l, 1) := by decide +kernel
theorem dX7_chance_10 : decode cX7_chance 10 = .ok (.lconst 1, 1) := by decide +kernel
theorem dX7_chance_11 : decode cX7_chance 11 = .ok (.ldc2_w 292, 3) := by decide +kernel
theorem dX7_chance_14 : decode cX7_chance 14 = .ok (.invokestatic 46, 3) := by decide +kernel
theorem dX7_chance_17 : decode cX7_chance 17 = .ok (.ifCond .ne 10, 3) := by decide +kernel
theorem dX7_chance_20 : decode cX7_chance 20 = .ok (.aload_n 0, 1) := by decide +kernel
theorem dX7_chance_21 : decode cX7_chance 21 = .ok (.ldc 40, 2) := by decide +kernel
theorem dX7_chance_23 : decode cX7_chance 23 = .ok (.invokevirtual 42, 3) := by decide +kernel
theorem dX7_chance_26 : decode cX7_chance 26 = .ok (.ireturn, 1) := by decide +kernel
theorem dX7_chance_27 : decode cX7_chance 27 = .ok (.iconst 0, 1) := by decide +kernel
theorem dX7_chance_28 : decode cX7_chance 28 = .ok (.istore_n 3, 1) := by decide +kernel
theorem dX7_chance_29 : decode cX7_chance 29 = .ok (.iconst 0, 1) := by decide +kernel
theorem dX7_chance_30 : decode cX7_chance 30 = .ok (.istore 4, 2) := by decide +kernel
theorem dX7_chance_32 : decode cX7_chance 32 = .ok (.iload 4, 2) := by decide +kernel
theorem dX7_chance_34 : decode cX7_chance 34 = .ok (.iload_n 2, 1) := by decide +kernel
theorem dX7_chance_35 : decode cX7_chance 35 = .ok (.if_icmp .ge 57, 3) := by decide +kernel
theorem dX7_chance_38 : decode cX7_chance 38 = .ok (.aload_n 0, 1) := by decide +kernel
theorem dX7_chance_39 : decode cX7_chance 39 = .ok (.getfield 9, 3) := by decide +kernel
theorem dX7_chance_42 : decode cX7_chance 42 = .ok (.iconst 5, 1) := by decide +kernel
theorem dX7_chance_43 : decode cX7_chance 43 = .ok (.aload_n 0, 1) := by decide +kernel
theorem dX7_chance_44 : decode cX7_chance 44 = .ok (.getfield 9, 3) := by decide +kernel
theorem dX7_chance_47 : decode cX7_chance 47 = .ok (.iconst 5, 1) := by decide +kernel
theorem dX7_chance_48 : decode cX7_chance 48 = .ok (.iaload, 1) := by decide +kernel
theorem dX7_chance_49 : decode cX7_chance 49 = .ok (.ldc_w 294, 3) := by decide +kernel
theorem dX7_chance_52 : decode cX7_chance 52 = .ok (.imul, 1) := by decide +kernel
theorem dX7_chance_53 : decode cX7_chance 53 = .ok (.sipush 12345, 3) := by decide +kernel
theorem dX7_chance_56 : decode cX7_chance 56 = .ok (.iadd, 1) := by decide +kernel
theorem dX7_chance_57 : decode cX7_chance 57 = .ok (.iastore, 1) := by decide +kernel
theorem dX7_chance_58 : decode cX7_chance 58 = .ok (.iload_n 3, 1) := by decide +kernel
theorem dX7_chance_59 : decode cX7_chance 59 = .ok (.aload_n 0, 1) := by decide +kernel
theorem dX7_chance_60 : decode cX7_chance 60 = .ok (.iload_n 1, 1) := by decide +kernel
theorem dX7_chance_61 : decode cX7_chance 61 = .ok (.aload_n 0, 1) := by decide +kernel
theorem dX7_chance_62 : decode cX7_chance 62 = .ok (.getfield 9, 3) := by decide +kernel
theorem dX7_chance_65 : decode cX7_chance 65 = .ok (.iconst 5, 1) := by decide +kernel
theorem dX7_chance_66 : decode cX7_chance 66 = .ok (.iaload, 1) := by decide +kernel
theorem dX7_chance_67 : decode cX7_chance 67 = .ok (.bipush 8, 2) := by decide +kernel
theorem dX7_chance_69 : decode cX7_chance 69 = .ok (.iushr, 1) := by decide +kernel
theorem dX7_chance_70 : decode cX7_chance 70 = .ok (.bipush 60, 2) := by decide +kernel
theorem dX7_chance_72 : decode cX7_chance 72 = .ok (.irem, 1) := by decide +kernel
theorem dX7_chance_73 : decode cX7_chance 73 = .ok (.invokevirtual 231, 3) := by decide +kernel
theorem dX7_chance_76 : decode cX7_chance 76 = .ok (.ifCond .ge 7, 3) := by decide +kernel
theorem dX7_chance_79 : decode cX7_chance 79 = .ok (.iconst 1, 1) := by decide +kernel
theorem dX7_chance_80 : decode cX7_chance 80 = .ok (.goto 4, 3) := by decide +kernel
theorem dX7_chance_83 : decode cX7_chance 83 = .ok (.iconst 0, 1) := by decide +kernel
theorem dX7_chance_84 : decode cX7_chance 84 = .ok (.iadd, 1) := by decide +kernel
theorem dX7_chance_85 : decode cX7_chance 85 = .ok (.istore_n 3, 1) := by decide +kernel
theorem dX7_chance_86 : decode cX7_chance 86 = .ok (.iinc 4 1, 3) := by decide +kernel
theorem dX7_chance_89 : decode cX7_chance 89 = .ok (.goto (-57), 3) := by decide +kernel
theorem dX7_chance_92 : decode cX7_chance 92 = .ok (.iload_n 3, 1) := by decide +kernel
theorem dX7_chance_93 : decode cX7_chance 93 = .ok (.ireturn, 1) := by decide +kernel
theorem dX7_seed_0 : decode cX7_seed 0 = .ok (.aload_n 0, 1) := by decide +kernel
theorem dX7_seed_1 : decode cX7_seed 1 = .ok (.iconst 5, 1) := by decide +kernel
theorem dX7_seed_2 : decode cX7_seed 2 = .ok (.iload_n 1, 1) := by decide +kernel
theorem dX7_seed_3 : decode cX7_seed 3 = .ok (.invokevirtual 168, 3) := by decide +kernel
theorem dX7_seed_6 : decode cX7_seed 6 = .ok (.ireturn, 1) := by decide +kernel
theorem dX7_hold_0 : decode cX7_hold 0 = .ok (.iload_n 1, 1) := by decide +kernel
theorem dX7_hold_1 : decode cX7_hold 1 = .ok (.i2l, 1) := by decide +kernel
theorem dX7_hold_2 : decode cX7_hold 2 = .ok (.lconst 0, 1) := by decide +kernel
theorem dX7_hold_3 : decode cX7_hold 3 = .ok (.ldc2_w 295, 3) := by decide +kernel
theorem dX7_hold_6 : decode cX7_hold 6 = .ok (.invokestatic 46, 3) := by decide +kernel
theorem dX7_hold_9 : decode cX7_hold 9 = .ok (.ifCond .eq 16, 3) := by decide +kernel
theorem dX7_hold_12 : decode cX7_hold 12 = .ok (.iload_n 2, 1) := by decide +kernel
theorem dX7_hold_13 : decode cX7_hold 13 = .ok (.iconst (-1), 1) := by decide +kernel
theorem dX7_hold_14 : decode cX7_hold 14 = .ok (.if_icmp .eq 18, 3) := by decide +kernel
theorem dX7_hold_17 : decode cX7_hold 17 = .ok (.aload_n 0, 1) := by decide +kernel
theorem dX7_hold_18 : decode cX7_hold 18 = .ok (.iload_n 2, 1) := by decide +kernel
theorem dX7_hold_19 : decode cX7_hold 19 = .ok (.invokevirtual 58, 3) := by decide +kernel
theorem dX7_hold_22 : decode cX7_hold 22 = .ok (.ifCond .ne 10, 3) := by decide +kernel
theorem dX7_hold_25 : decode cX7_hold 25 = .ok (.aload_n 0, 1) := by decide +kernel
theorem dX7_hold_26 : decode cX7_hold 26 = .ok (.ldc 40, 2) := by decide +kernel
theorem dX7_hold_28 : decode cX7_hold 28 = .ok (.invokevirtual 42, 3) := by decide +kernel
theorem dX7_hold_31 : decode cX7_hold 31 = .ok (.ireturn, 1) := by decide +kernel
theorem dX7_hold_32 : decode cX7_hold 32 = .ok (.aload_n 0, 1) := by decide +kernel
theorem dX7_hold_33 : decode cX7_hold 33 = .ok (.getfield 9, 3) := by decide +kernel
theorem dX7_hold_36 : decode cX7_hold 36 = .ok (.sipush 237, 3) := by decide +kernel
theorem dX7_hold_39 : decode cX7_hold 39 = .ok (.iload_n 1, 1) := by decide +kernel
theorem dX7_hold_40 : decode cX7_hold 40 = .ok (.iadd, 1) := by decide +kernel
theorem dX7_hold_41 : decode cX7_hold 41 = .ok (.iload_n 2, 1) := by decide +kernel
theorem dX7_hold_42 : decode cX7_hold 42 = .ok (.iastore, 1) := by decide +kernel
theorem dX7_hold_43 : decode cX7_hold 43 = .ok (.iconst 1, 1) := by decide +kernel
theorem dX7_hold_44 : decode cX7_hold 44 = .ok (.ireturn, 1) := by decide +kernel
theorem dX7_above_0 : decode cX7_above 0 = .ok (.iload_n 0, 1) := by decide +kernel
theorem dX7_above_1 : decode cX7_above 1 = .ok (.tableswitch 51 0 6 #[43, 51, 51, 51, 45, 47, 49], 43) := by decide +kernel
theorem dX7_above_44 : decode cX7_above 44 = .ok (.iconst (-1), 1) := by decide +kernel
theorem dX7_above_45 : decode cX7_above 45 = .ok (.ireturn, 1) := by decide +kernel
theorem dX7_above_46 : decode cX7_above 46 = .ok (.iconst 1, 1) := by decide +kernel
theorem dX7_above_47 : decode cX7_above 47 = .ok (.ireturn, 1) := by decide +kernel
theorem dX7_above_48 : decode cX7_above 48 = .ok (.iconst 4, 1) := by decide +kernel
theorem dX7_above_49 : decode cX7_above 49 = .ok (.ireturn, 1) := by decide +kernel
theorem dX7_above_50 : decode cX7_above 50 = .ok (.iconst 3, 1) := by decide +kernel
theorem dX7_above_51 : decode cX7_above 51 = .ok (.ireturn, 1) := by decide +kernel
theorem dX7_above_52 : decode cX7_above 52 = .ok (.iconst 0, 1) := by decide +kernel
theorem dX7_above_53 : decode cX7_above 53 = .ok (.ireturn, 1) := by decide +kernel
theorem dX7_as_0 : decode cX7_as 0 = .ok (.iload_n 1, 1) := by decide +kernel
theorem dX7_as_1 : decode cX7_as 1 = .ok (.i2l, 1) := by decide +kernel
theorem dX7_as_2 : decode cX7_as 2 = .ok (.lconst 0, 1) := by decide +kernel
theorem dX7_as_3 : decode cX7_as 3 = .ok (.ldc2_w 295, 3) := by decide +kernel
theorem dX7_as_6 : decode cX7_as 6 = .ok (.invokestatic 46, 3) := by decide +kernel
theorem dX7_as_9 : decode cX7_as 9 = .ok (.ifCond .eq 10, 3) := by decide +kernel
theorem dX7_as_12 : decode cX7_as 12 = .ok (.iload_n 2, 1) := by decide +kernel
theorem dX7_as_13 : decode cX7_as 13 = .ok (.invokestatic 193, 3) := by decide +kernel
theorem dX7_as_16 : decode cX7_as 16 = .ok (.ifCond .ne 10, 3) := by decide +kernel
theorem dX7_as_19 : decode cX7_as 19 = .ok (.aload_n 0, 1) := by decide +kernel
theorem dX7_as_20 : decode cX7_as 20 = .ok (.ldc 40, 2) := by decide +kernel
theorem dX7_as_22 : decode cX7_as 22 = .ok (.invokevirtual 42, 3) := by decide +kernel
theorem dX7_as_25 : decode cX7_as 25 = .ok (.ireturn, 1) := by decide +kernel
theorem dX7_as_26 : decode cX7_as 26 = .ok (.aload_n 0, 1) := by decide +kernel
theorem dX7_as_27 : decode cX7_as 27 = .ok (.getfield 9, 3) := by decide +kernel
theorem dX7_as_30 : decode cX7_as 30 = .ok (.sipush 237, 3) := by decide +kernel
theorem dX7_as_33 : decode cX7_as 33 = .ok (.iload_n 1, 1) := by decide +kernel
theorem dX7_as_34 : decode cX7_as 34 = .ok (.iadd, 1) := by decide +kernel
theorem dX7_as_35 : decode cX7_as 35 = .ok (.iaload, 1) := by decide +kernel
theorem dX7_as_36 : decode cX7_as 36 = .ok (.istore_n 3, 1) := by decide +kernel
theorem dX7_as_37 : decode cX7_as 37 = .ok (.iload_n 3, 1) := by decide +kernel
theorem dX7_as_38 : decode cX7_as 38 = .ok (.ifCond .ge 11, 3) := by decide +kernel
theorem dX7_as_41 : decode cX7_as 41 = .ok (.aload_n 0, 1) := by decide +kernel
theorem dX7_as_42 : decode cX7_as 42 = .ok (.ldc_w 297, 3) := by decide +kernel
theorem dX7_as_45 : decode cX7_as 45 = .ok (.invokevirtual 42, 3) := by decide +kernel
theorem dX7_as_48 : decode cX7_as 48 = .ok (.ireturn, 1) := by decide +kernel
theorem dX7_as_49 : decode cX7_as 49 = .ok (.aload_n 0, 1) := by decide +kernel
theorem dX7_as_50 : decode cX7_as 50 = .ok (.iload_n 3, 1) := by decide +kernel
theorem dX7_as_51 : decode cX7_as 51 = .ok (.invokevirtual 202, 3) := by decide +kernel
theorem dX7_as_54 : decode cX7_as 54 = .ok (.istore 4, 2) := by decide +kernel
theorem dX7_as_56 : decode cX7_as 56 = .ok (.iload 4, 2) := by decide +kernel
theorem dX7_as_58 : decode cX7_as 58 = .ok (.ifCond .lt 21, 3) := by decide +kernel
theorem dX7_as_61 : decode cX7_as 61 = .ok (.iload 4, 2) := by decide +kernel
theorem dX7_as_63 : decode cX7_as 63 = .ok (.iload_n 2, 1) := by decide +kernel
theorem dX7_as_64 : decode cX7_as 64 = .ok (.if_icmp .ne 5, 3) := by decide +kernel
theorem dX7_as_67 : decode cX7_as 67 = .ok (.iload_n 3, 1) := by decide +kernel
theorem dX7_as_68 : decode cX7_as 68 = .ok (.ireturn, 1) := by decide +kernel
theorem dX7_as_69 : decode cX7_as 69 = .ok (.iload 4, 2) := by decide +kernel
theorem dX7_as_71 : decode cX7_as 71 = .ok (.invokestatic 298, 3) := by decide +kernel
theorem dX7_as_74 : decode cX7_as 74 = .ok (.istore 4, 2) := by decide +kernel
theorem dX7_as_76 : decode cX7_as 76 = .ok (.goto (-20), 3) := by decide +kernel
theorem dX7_as_79 : decode cX7_as 79 = .ok (.aload_n 0, 1) := by decide +kernel
theorem dX7_as_80 : decode cX7_as 80 = .ok (.ldc_w 301, 3) := by decide +kernel
theorem dX7_as_83 : decode cX7_as 83 = .ok (.invokevirtual 42, 3) := by decide +kernel
theorem dX7_as_86 : decode cX7_as 86 = .ok (.ireturn, 1) := by decide +kernel
theorem dX7_isSheet_0 : decode cX7_isSheet 0 = .ok (.iload_n 0, 1) := by decide +kernel
theorem dX7_isSheet_1 : decode cX7_isSheet 1 = .ok (.i2l, 1) := by decide +kernel
theorem dX7_isSheet_2 : decode cX7_isSheet 2 = .ok (.lconst 0, 1) := by decide +kernel
theorem dX7_isSheet_3 : decode cX7_isSheet 3 = .ok (.ldc2_w 302, 3) := by decide +kernel
theorem dX7_isSheet_6 : decode cX7_isSheet 6 = .ok (.invokestatic 46, 3) := by decide +kernel
theorem dX7_isSheet_9 : decode cX7_isSheet 9 = .ok (.ireturn, 1) := by decide +kernel
theorem dX7_sheet_0 : decode cX7_sheet 0 = .ok (.iload_n 1, 1) := by decide +kernel
theorem dX7_sheet_1 : decode cX7_sheet 1 = .ok (.invokestatic 304, 3) := by decide +kernel
theorem dX7_sheet_4 : decode cX7_sheet 4 = .ok (.ifCond .eq 25, 3) := by decide +kernel
theorem dX7_sheet_7 : decode cX7_sheet 7 = .ok (.iload_n 2, 1) := by decide +kernel
theorem dX7_sheet_8 : decode cX7_sheet 8 = .ok (.ifCond .eq 28, 3) := by decide +kernel
theorem dX7_sheet_11 : decode cX7_sheet 11 = .ok (.iload_n 2, 1) := by decide +kernel
theorem dX7_sheet_12 : decode cX7_sheet 12 = .ok (.bipush 8, 2) := by decide +kernel
theorem dX7_sheet_14 : decode cX7_sheet 14 = .ok (.if_icmp .eq 22, 3) := by decide +kernel
theorem dX7_sheet_17 : decode cX7_sheet 17 = .ok (.iload_n 2, 1) := by decide +kernel
theorem dX7_sheet_18 : decode cX7_sheet 18 = .ok (.bipush 16, 2) := by decide +kernel
theorem dX7_sheet_20 : decode cX7_sheet 20 = .ok (.if_icmp .eq 16, 3) := by decide +kernel
theorem dX7_sheet_23 : decode cX7_sheet 23 = .ok (.iload_n 2, 1) := by decide +kernel
theorem dX7_sheet_24 : decode cX7_sheet 24 = .ok (.bipush 32, 2) := by decide +kernel
theorem dX7_sheet_26 : decode cX7_sheet 26 = .ok (.if_icmp .eq 10, 3) := by decide +kernel
theorem dX7_sheet_29 : decode cX7_sheet 29 = .ok (.aload_n 0, 1) := by decide +kernel
theorem dX7_sheet_30 : decode cX7_sheet 30 = .ok (.ldc 40, 2) := by decide +kernel
theorem dX7_sheet_32 : decode cX7_sheet 32 = .ok (.invokevirtual 42, 3) := by decide +kernel
theorem dX7_sheet_35 : decode cX7_sheet 35 = .ok (.ireturn, 1) := by decide +kernel
theorem dX7_sheet_36 : decode cX7_sheet 36 = .ok (.iload_n 3, 1) := by decide +kernel
theorem dX7_sheet_37 : decode cX7_sheet 37 = .ok (.ifCond .ge 11, 3) := by decide +kernel
theorem dX7_sheet_40 : decode cX7_sheet 40 = .ok (.aload_n 0, 1) := by decide +kernel
theorem dX7_sheet_41 : decode cX7_sheet 41 = .ok (.ldc_w 307, 3) := by decide +kernel
theorem dX7_sheet_44 : decode cX7_sheet 44 = .ok (.invokevirtual 42, 3) := by decide +kernel
theorem dX7_sheet_47 : decode cX7_sheet 47 = .ok (.ireturn, 1) := by decide +kernel
theorem dX7_sheet_48 : decode cX7_sheet 48 = .ok (.iload_n 3, 1) := by decide +kernel
theorem dX7_sheet_49 : decode cX7_sheet 49 = .ok (.bipush 40, 2) := by decide +kernel
theorem dX7_sheet_51 : decode cX7_sheet 51 = .ok (.if_icmp .le 10, 3) := by decide +kernel
theorem dX7_sheet_54 : decode cX7_sheet 54 = .ok (.aload_n 0, 1) := by decide +kernel
theorem dX7_sheet_55 : decode cX7_sheet 55 = .ok (.ldc 40, 2) := by decide +kernel
theorem dX7_sheet_57 : decode cX7_sheet 57 = .ok (.invokevirtual 42, 3) := by decide +kernel
theorem dX7_sheet_60 : decode cX7_sheet 60 = .ok (.ireturn, 1) := by decide +kernel
theorem dX7_sheet_61 : decode cX7_sheet 61 = .ok (.aload_n 0, 1) := by decide +kernel
theorem dX7_sheet_62 : decode cX7_sheet 62 = .ok (.getfield 31, 3) := by decide +kernel
theorem dX7_sheet_65 : decode cX7_sheet 65 = .ok (.iload_n 1, 1) := by decide +kernel
theorem dX7_sheet_66 : decode cX7_sheet 66 = .ok (.iload_n 2, 1) := by decide +kernel
theorem dX7_sheet_67 : decode cX7_sheet 67 = .ok (.iastore, 1) := by decide +kernel
theorem dX7_sheet_68 : decode cX7_sheet 68 = .ok (.aload_n 0, 1) := by decide +kernel
theorem dX7_sheet_69 : decode cX7_sheet 69 = .ok (.getfield 34, 3) := by decide +kernel
theorem dX7_sheet_72 : decode cX7_sheet 72 = .ok (.iload_n 1, 1) := by decide +kernel
theorem dX7_sheet_73 : decode cX7_sheet 73 = .ok (.iload_n 2, 1) := by decide +kernel
theorem dX7_sheet_74 : decode cX7_sheet 74 = .ok (.ifCond .ne 7, 3) := by decide +kernel
theorem dX7_sheet_77 : decode cX7_sheet 77 = .ok (.iconst 0, 1) := by decide +kernel
theorem dX7_sheet_78 : decode cX7_sheet 78 = .ok (.goto 4, 3) := by decide +kernel
theorem dX7_sheet_81 : decode cX7_sheet 81 = .ok (.iload_n 3, 1) := by decide +kernel
theorem dX7_sheet_82 : decode cX7_sheet 82 = .ok (.iastore, 1) := by decide +kernel
theorem dX7_sheet_83 : decode cX7_sheet 83 = .ok (.iconst 0, 1) := by decide +kernel
theorem dX7_sheet_84 : decode cX7_sheet 84 = .ok (.istore 4, 2) := by decide +kernel
theorem dX7_sheet_86 : decode cX7_sheet 86 = .ok (.iload 4, 2) := by decide +kernel
theorem dX7_sheet_88 : decode cX7_sheet 88 = .ok (.bipush 40, 2) := by decide +kernel
theorem dX7_sheet_90 : decode cX7_sheet 90 = .ok (.if_icmp .ge 22, 3) := by decide +kernel
theorem dX7_sheet_93 : decode cX7_sheet 93 = .ok (.aload_n 0, 1) := by decide +kernel
theorem dX7_sheet_94 : decode cX7_sheet 94 = .ok (.getfield 37, 3) := by decide +kernel
theorem dX7_sheet_97 : decode cX7_sheet 97 = .ok (.bipush 40, 2) := by decide +kernel
theorem dX7_sheet_99 : decode cX7_sheet 99 = .ok (.iload_n 1, 1) := by decide +kernel
theorem dX7_sheet_100 : decode cX7_sheet 100 = .ok (.imul, 1) := by decide +kernel
theorem dX7_sheet_101 : decode cX7_sheet 101 = .ok (.iload 4, 2) := by decide +kernel
theorem dX7_sheet_103 : decode cX7_sheet 103 = .ok (.iadd, 1) := by decide +kernel
theorem dX7_sheet_104 : decode cX7_sheet 104 = .ok (.iconst 0, 1) := by decide +kernel
theorem dX7_sheet_105 : decode cX7_sheet 105 = .ok (.iastore, 1) := by decide +kernel
theorem dX7_sheet_106 : decode cX7_sheet 106 = .ok (.iinc 4 1, 3) := by decide +kernel
theorem dX7_sheet_109 : decode cX7_sheet 109 = .ok (.goto (-23), 3) := by decide +kernel
theorem dX7_sheet_112 : decode cX7_sheet 112 = .ok (.aload_n 0, 1) := by decide +kernel
theorem dX7_sheet_113 : decode cX7_sheet 113 = .ok (.getfield 34, 3) := by decide +kernel
theorem dX7_sheet_116 : decode cX7_sheet 116 = .ok (.iload_n 1, 1) := by decide +kernel
theorem dX7_sheet_117 : decode cX7_sheet 117 = .ok (.iaload, 1) := by decide +kernel
theorem dX7_sheet_118 : decode cX7_sheet 118 = .ok (.ireturn, 1) := by decide +kernel
theorem dX7_write_0 : decode cX7_write 0 = .ok (.iload_n 1, 1) := by decide +kernel
theorem dX7_write_1 : decode cX7_write 1 = .ok (.invokestatic 304, 3) := by decide +kernel
theorem dX7_write_4 : decode cX7_write 4 = .ok (.ifCond .ne 10, 3) := by decide +kernel
theorem dX7_write_7 : decode cX7_write 7 = .ok (.aload_n 0, 1) := by decide +kernel
theorem dX7_write_8 : decode cX7_write 8 = .ok (.ldc 40, 2) := by decide +kernel
theorem dX7_write_10 : decode cX7_write 10 = .ok (.invokevirtual 42, 3) := by decide +kernel
theorem dX7_write_13 : decode cX7_write 13 = .ok (.ireturn, 1) := by decide +kernel
theorem dX7_write_14 : decode cX7_write 14 = .ok (.aload_n 0, 1) := by decide +kernel
theorem dX7_write_15 : decode cX7_write 15 = .ok (.getfield 31, 3) := by decide +kernel
theorem dX7_write_18 : decode cX7_write 18 = .ok (.iload_n 1, 1) := by decide +kernel
theorem dX7_write_19 : decode cX7_write 19 = .ok (.iaload, 1) := by decide +kernel
theorem dX7_write_20 : decode cX7_write 20 = .ok (.ifCond .ne 11, 3) := by decide +kernel
theorem dX7_write_23 : decode cX7_write 23 = .ok (.aload_n 0, 1) := by decide +kernel
theorem dX7_write_24 : decode cX7_write 24 = .ok (.ldc_w 297, 3) := by decide +kernel
theorem dX7_write_27 : decode cX7_write 27 = .ok (.invokevirtual 42, 3) := by decide +kernel
theorem dX7_write_30 : decode cX7_write 30 = .ok (.ireturn, 1) := by decide +kernel
theorem dX7_write_31 : decode cX7_write 31 = .ok (.iload_n 2, 1) := by decide +kernel
theorem dX7_write_32 : decode cX7_write 32 = .ok (.i2l, 1) := by decide +kernel
theorem dX7_write_33 : decode cX7_write 33 = .ok (.lconst 0, 1) := by decide +kernel
theorem dX7_write_34 : decode cX7_write 34 = .ok (.aload_n 0, 1) := by decide +kernel
theorem dX7_write_35 : decode cX7_write 35 = .ok (.getfield 34, 3) := by decide +kernel
theorem dX7_write_38 : decode cX7_write 38 = .ok (.iload_n 1, 1) := by decide +kernel
theorem dX7_write_39 : decode cX7_write 39 = .ok (.iaload, 1) := by decide +kernel
theorem dX7_write_40 : decode cX7_write 40 = .ok (.iconst 1, 1) := by decide +kernel
theorem dX7_write_41 : decode cX7_write 41 = .ok (.isub, 1) := by decide +kernel
theorem dX7_write_42 : decode cX7_write 42 = .ok (.i2l, 1) := by decide +kernel
theorem dX7_write_43 : decode cX7_write 43 = .ok (.invokestatic 46, 3) := by decide +kernel
theorem dX7_write_46 : decode cX7_write 46 = .ok (.ifCond .ne 10, 3) := by decide +kernel
theorem dX7_write_49 : decode cX7_write 49 = .ok (.aload_n 0, 1) := by decide +kernel
theorem dX7_write_50 : decode cX7_write 50 = .ok (.ldc 40, 2) := by decide +kernel
theorem dX7_write_52 : decode cX7_write 52 = .ok (.invokevirtual 42, 3) := by decide +kernel
theorem dX7_write_55 : decode cX7_write 55 = .ok (.ireturn, 1) := by decide +kernel
theorem dX7_write_56 : decode cX7_write 56 = .ok (.aload_n 0, 1) := by decide +kernel
theorem dX7_write_57 : decode cX7_write 57 = .ok (.getfield 37, 3) := by decide +kernel
theorem dX7_write_60 : decode cX7_write 60 = .ok (.bipush 40, 2) := by decide +kernel
theorem dX7_write_62 : decode cX7_write 62 = .ok (.iload_n 1, 1) := by decide +kernel
theorem dX7_write_63 : decode cX7_write 63 = .ok (.imul, 1) := by decide +kernel
theorem dX7_write_64 : decode cX7_write 64 = .ok (.iload_n 2, 1) := by decide +kernel
theorem dX7_write_65 : decode cX7_write 65 = .ok (.iadd, 1) := by decide +kernel
theorem dX7_write_66 : decode cX7_write 66 = .ok (.aload_n 0, 1) := by decide +kernel
theorem dX7_write_67 : decode cX7_write 67 = .ok (.getfield 31, 3) := by decide +kernel
theorem dX7_write_70 : decode cX7_write 70 = .ok (.iload_n 1, 1) := by decide +kernel
theorem dX7_write_71 : decode cX7_write 71 = .ok (.iaload, 1) := by decide +kernel
theorem dX7_write_72 : decode cX7_write 72 = .ok (.bipush 8, 2) := by decide +kernel
theorem dX7_write_74 : decode cX7_write 74 = .ok (.if_icmp .ne 8, 3) := by decide +kernel
theorem dX7_write_77 : decode cX7_write 77 = .ok (.iload_n 3, 1) := by decide +kernel
theorem dX7_write_78 : decode cX7_write 78 = .ok (.i2b, 1) := by decide +kernel
theorem dX7_write_79 : decode cX7_write 79 = .ok (.goto 20, 3) := by decide +kernel
theorem dX7_write_82 : decode cX7_write 82 = .ok (.aload_n 0, 1) := by decide +kernel
theorem dX7_write_83 : decode cX7_write 83 = .ok (.getfield 31, 3) := by decide +kernel
theorem dX7_write_86 : decode cX7_write 86 = .ok (.iload_n 1, 1) := by decide +kernel
theorem dX7_write_87 : decode cX7_write 87 = .ok (.iaload, 1) := by decide +kernel
theorem dX7_write_88 : decode cX7_write 88 = .ok (.bipush 16, 2) := by decide +kernel
theorem dX7_write_90 : decode cX7_write 90 = .ok (.if_icmp .ne 8, 3) := by decide +kernel
theorem dX7_write_93 : decode cX7_write 93 = .ok (.iload_n 3, 1) := by decide +kernel
theorem dX7_write_94 : decode cX7_write 94 = .ok (.i2s, 1) := by decide +kernel
theorem dX7_write_95 : decode cX7_write 95 = .ok (.goto 4, 3) := by decide +kernel
theorem dX7_write_98 : decode cX7_write 98 = .ok (.iload_n 3, 1) := by decide +kernel
theorem dX7_write_99 : decode cX7_write 99 = .ok (.iastore, 1) := by decide +kernel
theorem dX7_write_100 : decode cX7_write 100 = .ok (.iconst 1, 1) := by decide +kernel
theorem dX7_write_101 : decode cX7_write 101 = .ok (.ireturn, 1) := by decide +kernel
theorem dX7_copy_0 : decode cX7_copy 0 = .ok (.iload_n 1, 1) := by decide +kernel
theorem dX7_copy_1 : decode cX7_copy 1 = .ok (.invokestatic 304, 3) := by decide +kernel
theorem dX7_copy_4 : decode cX7_copy 4 = .ok (.ifCond .eq 10, 3) := by decide +kernel
theorem dX7_copy_7 : decode cX7_copy 7 = .ok (.iload_n 3, 1) := by decide +kernel
theorem dX7_copy_8 : decode cX7_copy 8 = .ok (.invokestatic 304, 3) := by decide +kernel
theorem dX7_copy_11 : decode cX7_copy 11 = .ok (.ifCond .ne 10, 3) := by decide +kernel
theorem dX7_copy_14 : decode cX7_copy 14 = .ok (.aload_n 0, 1) := by decide +kernel
theorem dX7_copy_15 : decode cX7_copy 15 = .ok (.ldc 40, 2) := by decide +kernel
theorem dX7_copy_17 : decode cX7_copy 17 = .ok (.invokevirtual 42, 3) := by decide +kernel
theorem dX7_copy_20 : decode cX7_copy 20 = .ok (.ireturn, 1) := by decide +kernel
theorem dX7_copy_21 : decode cX7_copy 21 = .ok (.aload_n 0, 1) := by decide +kernel
theorem dX7_copy_22 : decode cX7_copy 22 = .ok (.getfield 31, 3) := by decide +kernel
theorem dX7_copy_25 : decode cX7_copy 25 = .ok (.iload_n 1, 1) := by decide +kernel
theorem dX7_copy_26 : decode cX7_copy 26 = .ok (.iaload, 1) := by decide +kernel
theorem dX7_copy_27 : decode cX7_copy 27 = .ok (.ifCond .eq 12, 3) := by decide +kernel
theorem dX7_copy_30 : decode cX7_copy 30 = .ok (.aload_n 0, 1) := by decide +kernel
theorem dX7_copy_31 : decode cX7_copy 31 = .ok (.getfield 31, 3) := by decide +kernel
theorem dX7_copy_34 : decode cX7_copy 34 = .ok (.iload_n 3, 1) := by decide +kernel
theorem dX7_copy_35 : decode cX7_copy 35 = .ok (.iaload, 1) := by decide +kernel
theorem dX7_copy_36 : decode cX7_copy 36 = .ok (.ifCond .ne 11, 3) := by decide +kernel
theorem dX7_copy_39 : decode cX7_copy 39 = .ok (.aload_n 0, 1) := by decide +kernel
theorem dX7_copy_40 : decode cX7_copy 40 = .ok (.ldc_w 297, 3) := by decide +kernel
theorem dX7_copy_43 : decode cX7_copy 43 = .ok (.invokevirtual 42, 3) := by decide +kernel
theorem dX7_copy_46 : decode cX7_copy 46 = .ok (.ireturn, 1) := by decide +kernel
theorem dX7_copy_47 : decode cX7_copy 47 = .ok (.aload_n 0, 1) := by decide +kernel
theorem dX7_copy_48 : decode cX7_copy 48 = .ok (.getfield 31, 3) := by decide +kernel
theorem dX7_copy_51 : decode cX7_copy 51 = .ok (.iload_n 1, 1) := by decide +kernel
theorem dX7_copy_52 : decode cX7_copy 52 = .ok (.iaload, 1) := by decide +kernel
theorem dX7_copy_53 : decode cX7_copy 53 = .ok (.aload_n 0, 1) := by decide +kernel
theorem dX7_copy_54 : decode cX7_copy 54 = .ok (.getfield 31, 3) := by decide +kernel
theorem dX7_copy_57 : decode cX7_copy 57 = .ok (.iload_n 3, 1) := by decide +kernel
theorem dX7_copy_58 : decode cX7_copy 58 = .ok (.iaload, 1) := by decide +kernel
theorem dX7_copy_59 : decode cX7_copy 59 = .ok (.if_icmp .eq 11, 3) := by decide +kernel
theorem dX7_copy_62 : decode cX7_copy 62 = .ok (.aload_n 0, 1) := by decide +kernel
theorem dX7_copy_63 : decode cX7_copy 63 = .ok (.ldc_w 301, 3) := by decide +kernel
theorem dX7_copy_66 : decode cX7_copy 66 = .ok (.invokevirtual 42, 3) := by decide +kernel
theorem dX7_copy_69 : decode cX7_copy 69 = .ok (.ireturn, 1) := by decide +kernel
theorem dX7_copy_70 : decode cX7_copy 70 = .ok (.iload 5, 2) := by decide +kernel
theorem dX7_copy_72 : decode cX7_copy 72 = .ok (.ifCond .lt 39, 3) := by decide +kernel
theorem dX7_copy_75 : decode cX7_copy 75 = .ok (.iload_n 2, 1) := by decide +kernel
theorem dX7_copy_76 : decode cX7_copy 76 = .ok (.ifCond .lt 35, 3) := by decide +kernel
theorem dX7_copy_79 : decode cX7_copy 79 = .ok (.iload 4, 2) := by decide +kernel
theorem dX7_copy_81 : decode cX7_copy 81 = .ok (.ifCond .lt 30, 3) := by decide +kernel
theorem dX7_copy_84 : decode cX7_copy 84 = .ok (.iload 5, 2) := by decide +kernel
theorem dX7_copy_86 : decode cX7_copy 86 = .ok (.aload_n 0, 1) := by decide +kernel
theorem dX7_copy_87 : decode cX7_copy 87 = .ok (.getfield 34, 3) := by decide +kernel
theorem dX7_copy_90 : decode cX7_copy 90 = .ok (.iload_n 1, 1) := by decide +kernel
theorem dX7_copy_91 : decode cX7_copy 91 = .ok (.iaload, 1) := by decide +kernel
theorem dX7_copy_92 : decode cX7_copy 92 = .ok (.iload_n 2, 1) := by decide +kernel
theorem dX7_copy_93 : decode cX7_copy 93 = .ok (.isub, 1) := by decide +kernel
theorem dX7_copy_94 : decode cX7_copy 94 = .ok (.if_icmp .gt 17, 3) := by decide +kernel
theorem dX7_copy_97 : decode cX7_copy 97 = .ok (.iload 5, 2) := by decide +kernel
theorem dX7_copy_99 : decode cX7_copy 99 = .ok (.aload_n 0, 1) := by decide +kernel
theorem dX7_copy_100 : decode cX7_copy 100 = .ok (.getfield 34, 3) := by decide +kernel
theorem dX7_copy_103 : decode cX7_copy 103 = .ok (.iload_n 3, 1) := by decide +kernel
theorem dX7_copy_104 : decode cX7_copy 104 = .ok (.iaload, 1) := by decide +kernel
theorem dX7_copy_105 : decode cX7_copy 105 = .ok (.iload 4, 2) := by decide +kernel
theorem dX7_copy_107 : decode cX7_copy 107 = .ok (.isub, 1) := by decide +kernel
theorem dX7_copy_108 : decode cX7_copy 108 = .ok (.if_icmp .le 10, 3) := by decide +kernel
theorem dX7_copy_111 : decode cX7_copy 111 = .ok (.aload_n 0, 1) := by decide +kernel
theorem dX7_copy_112 : decode cX7_copy 112 = .ok (.ldc 40, 2) := by decide +kernel
theorem dX7_copy_114 : decode cX7_copy 114 = .ok (.invokevirtual 42, 3) := by decide +kernel
theorem dX7_copy_117 : decode cX7_copy 117 = .ok (.ireturn, 1) := by decide +kernel
theorem dX7_copy_118 : decode cX7_copy 118 = .ok (.iload_n 1, 1) := by decide +kernel
theorem dX7_copy_119 : decode cX7_copy 119 = .ok (.iload_n 3, 1) := by decide +kernel
theorem dX7_copy_120 : decode cX7_copy 120 = .ok (.if_icmp .ne 13, 3) := by decide +kernel
theorem dX7_copy_123 : decode cX7_copy 123 = .ok (.iload_n 2, 1) := by decide +kernel
theorem dX7_copy_124 : decode cX7_copy 124 = .ok (.iload 4, 2) := by decide +kernel
theorem dX7_copy_126 : decode cX7_copy 126 = .ok (.if_icmp .ge 7, 3) := by decide +kernel
theorem dX7_copy_129 : decode cX7_copy 129 = .ok (.iconst 1, 1) := by decide +kernel
theorem dX7_copy_130 : decode cX7_copy 130 = .ok (.goto 4, 3) := by decide +kernel
theorem dX7_copy_133 : decode cX7_copy 133 = .ok (.iconst 0, 1) := by decide +kernel
theorem dX7_copy_134 : decode cX7_copy 134 = .ok (.istore 6, 2) := by decide +kernel
theorem dX7_copy_136 : decode cX7_copy 136 = .ok (.iconst 0, 1) := by decide +kernel
theorem dX7_copy_137 : decode cX7_copy 137 = .ok (.istore 7, 2) := by decide +kernel
theorem dX7_copy_139 : decode cX7_copy 139 = .ok (.iload 7, 2) := by decide +kernel
theorem dX7_copy_141 : decode cX7_copy 141 = .ok (.iload 5, 2) := by decide +kernel
theorem dX7_copy_143 : decode cX7_copy 143 = .ok (.if_icmp .ge 57, 3) := by decide +kernel
theorem dX7_copy_146 : decode cX7_copy 146 = .ok (.iload 6, 2) := by decide +kernel
theorem dX7_copy_148 : decode cX7_copy 148 = .ok (.ifCond .eq 13, 3) := by decide +kernel
theorem dX7_copy_151 : decode cX7_copy 151 = .ok (.iload 5, 2) := by decide +kernel
theorem dX7_copy_153 : decode cX7_copy 153 = .ok (.iconst 1, 1) := by decide +kernel
theorem dX7_copy_154 : decode cX7_copy 154 = .ok (.isub, 1) := by decide +kernel
theorem dX7_copy_155 : decode cX7_copy 155 = .ok (.iload 7, 2) := by decide +kernel
theorem dX7_copy_157 : decode cX7_copy 157 = .ok (.isub, 1) := by decide +kernel
theorem dX7_copy_158 : decode cX7_copy 158 = .ok (.goto 5, 3) := by decide +kernel
theorem dX7_copy_161 : decode cX7_copy 161 = .ok (.iload 7, 2) := by decide +kernel
theorem dX7_copy_163 : decode cX7_copy 163 = .ok (.istore 8, 2) := by decide +kernel
theorem dX7_copy_165 : decode cX7_copy 165 = .ok (.aload_n 0, 1) := by decide +kernel
theorem dX7_copy_166 : decode cX7_copy 166 = .ok (.getfield 37, 3) := by decide +kernel
theorem dX7_copy_169 : decode cX7_copy 169 = .ok (.bipush 40, 2) := by decide +kernel
theorem dX7_copy_171 : decode cX7_copy 171 = .ok (.iload_n 3, 1) := by decide +kernel
theorem dX7_copy_172 : decode cX7_copy 172 = .ok (.imul, 1) := by decide +kernel
theorem dX7_copy_173 : decode cX7_copy 173 = .ok (.iload 4, 2) := by decide +kernel
theorem dX7_copy_175 : decode cX7_copy 175 = .ok (.iadd, 1) := by decide +kernel
theorem dX7_copy_176 : decode cX7_copy 176 = .ok (.iload 8, 2) := by decide +kernel
theorem dX7_copy_178 : decode cX7_copy 178 = .ok (.iadd, 1) := by decide +kernel
theorem dX7_copy_179 : decode cX7_copy 179 = .ok (.aload_n 0, 1) := by decide +kernel
theorem dX7_copy_180 : decode cX7_copy 180 = .ok (.getfield 37, 3) := by decide +kernel
theorem dX7_copy_183 : decode cX7_copy 183 = .ok (.bipush 40, 2) := by decide +kernel
theorem dX7_copy_185 : decode cX7_copy 185 = .ok (.iload_n 1, 1) := by decide +kernel
theorem dX7_copy_186 : decode cX7_copy 186 = .ok (.imul, 1) := by decide +kernel
theorem dX7_copy_187 : decode cX7_copy 187 = .ok (.iload_n 2, 1) := by decide +kernel
theorem dX7_copy_188 : decode cX7_copy 188 = .ok (.iadd, 1) := by decide +kernel
theorem dX7_copy_189 : decode cX7_copy 189 = .ok (.iload 8, 2) := by decide +kernel
theorem dX7_copy_191 : decode cX7_copy 191 = .ok (.iadd, 1) := by decide +kernel
theorem dX7_copy_192 : decode cX7_copy 192 = .ok (.iaload, 1) := by decide +kernel
theorem dX7_copy_193 : decode cX7_copy 193 = .ok (.iastore, 1) := by decide +kernel
theorem dX7_copy_194 : decode cX7_copy 194 = .ok (.iinc 7 1, 3) := by decide +kernel
theorem dX7_copy_197 : decode cX7_copy 197 = .ok (.goto (-58), 3) := by decide +kernel
theorem dX7_copy_200 : decode cX7_copy 200 = .ok (.iload 5, 2) := by decide +kernel
theorem dX7_copy_202 : decode cX7_copy 202 = .ok (.ireturn, 1) := by decide +kernel
theorem dX7_load_0 : decode cX7_load 0 = .ok (.iload_n 1, 1) := by decide +kernel
theorem dX7_load_1 : decode cX7_load 1 = .ok (.invokestatic 304, 3) := by decide +kernel
theorem dX7_load_4 : decode cX7_load 4 = .ok (.ifCond .ne 10, 3) := by decide +kernel
theorem dX7_load_7 : decode cX7_load 7 = .ok (.aload_n 0, 1) := by decide +kernel
theorem dX7_load_8 : decode cX7_load 8 = .ok (.ldc 40, 2) := by decide +kernel
theorem dX7_load_10 : decode cX7_load 10 = .ok (.invokevirtual 42, 3) := by decide +kernel
theorem dX7_load_13 : decode cX7_load 13 = .ok (.ireturn, 1) := by decide +kernel
theorem dX7_load_14 : decode cX7_load 14 = .ok (.aload_n 0, 1) := by decide +kernel
theorem dX7_load_15 : decode cX7_load 15 = .ok (.getfield 31, 3) := by decide +kernel
theorem dX7_load_18 : decode cX7_load 18 = .ok (.iload_n 1, 1) := by decide +kernel
theorem dX7_load_19 : decode cX7_load 19 = .ok (.iaload, 1) := by decide +kernel
theorem dX7_load_20 : decode cX7_load 20 = .ok (.ifCond .ne 11, 3) := by decide +kernel
theorem dX7_load_23 : decode cX7_load 23 = .ok (.aload_n 0, 1) := by decide +kernel
theorem dX7_load_24 : decode cX7_load 24 = .ok (.ldc_w 297, 3) := by decide +kernel
theorem dX7_load_27 : decode cX7_load 27 = .ok (.invokevirtual 42, 3) := by decide +kernel
theorem dX7_load_30 : decode cX7_load 30 = .ok (.ireturn, 1) := by decide +kernel
theorem dX7_load_31 : decode cX7_load 31 = .ok (.iconst 0, 1) := by decide +kernel
theorem dX7_load_32 : decode cX7_load 32 = .ok (.istore_n 2, 1) := by decide +kernel
theorem dX7_load_33 : decode cX7_load 33 = .ok (.iload_n 2, 1) := by decide +kernel
theorem dX7_load_34 : decode cX7_load 34 = .ok (.aload_n 0, 1) := by decide +kernel
theorem dX7_load_35 : decode cX7_load 35 = .ok (.getfield 34, 3) := by decide +kernel
theorem dX7_load_38 : decode cX7_load 38 = .ok (.iload_n 1, 1) := by decide +kernel
theorem dX7_load_39 : decode cX7_load 39 = .ok (.iaload, 1) := by decide +kernel
theorem dX7_load_40 : decode cX7_load 40 = .ok (.if_icmp .ge 61, 3) := by decide +kernel
theorem dX7_load_43 : decode cX7_load 43 = .ok (.iload_n 2, 1) := by decide +kernel
theorem dX7_load_44 : decode cX7_load 44 = .ok (.aload_n 0, 1) := by decide +kernel
theorem dX7_load_45 : decode cX7_load 45 = .ok (.getfield 9, 3) := by decide +kernel
theorem dX7_load_48 : decode cX7_load 48 = .ok (.iconst 2, 1) := by decide +kernel
theorem dX7_load_49 : decode cX7_load 49 = .ok (.iaload, 1) := by decide +kernel
theorem dX7_load_50 : decode cX7_load 50 = .ok (.if_icmp .ge 51, 3) := by decide +kernel
theorem dX7_load_53 : decode cX7_load 53 = .ok (.aload_n 0, 1) := by decide +kernel
theorem dX7_load_54 : decode cX7_load 54 = .ok (.getfield 37, 3) := by decide +kernel
theorem dX7_load_57 : decode cX7_load 57 = .ok (.bipush 40, 2) := by decide +kernel
theorem dX7_load_59 : decode cX7_load 59 = .ok (.iload_n 1, 1) := by decide +kernel
theorem dX7_load_60 : decode cX7_load 60 = .ok (.imul, 1) := by decide +kernel
theorem dX7_load_61 : decode cX7_load 61 = .ok (.iload_n 2, 1) := by decide +kernel
theorem dX7_load_62 : decode cX7_load 62 = .ok (.iadd, 1) := by decide +kernel
theorem dX7_load_63 : decode cX7_load 63 = .ok (.iaload, 1) := by decide +kernel
theorem dX7_load_64 : decode cX7_load 64 = .ok (.i2l, 1) := by decide +kernel
theorem dX7_load_65 : decode cX7_load 65 = .ok (.lconst 0, 1) := by decide +kernel
theorem dX7_load_66 : decode cX7_load 66 = .ok (.ldc2_w 175, 3) := by decide +kernel
theorem dX7_load_69 : decode cX7_load 69 = .ok (.invokestatic 46, 3) := by decide +kernel
theorem dX7_load_72 : decode cX7_load 72 = .ok (.ifCond .eq 29, 3) := by decide +kernel
theorem dX7_load_75 : decode cX7_load 75 = .ok (.aload_n 0, 1) := by decide +kernel
theorem dX7_load_76 : decode cX7_load 76 = .ok (.getfield 9, 3) := by decide +kernel
theorem dX7_load_79 : decode cX7_load 79 = .ok (.bipush 6, 2) := by decide +kernel
theorem dX7_load_81 : decode cX7_load 81 = .ok (.iload_n 2, 1) := by decide +kernel
theorem dX7_load_82 : decode cX7_load 82 = .ok (.iadd, 1) := by decide +kernel
theorem dX7_load_83 : decode cX7_load 83 = .ok (.aload_n 0, 1) := by decide +kernel
theorem dX7_load_84 : decode cX7_load 84 = .ok (.getfield 37, 3) := by decide +kernel
theorem dX7_load_87 : decode cX7_load 87 = .ok (.bipush 40, 2) := by decide +kernel
theorem dX7_load_89 : decode cX7_load 89 = .ok (.iload_n 1, 1) := by decide +kernel
theorem dX7_load_90 : decode cX7_load 90 = .ok (.imul, 1) := by decide +kernel
theorem dX7_load_91 : decode cX7_load 91 = .ok (.iload_n 2, 1) := by decide +kernel
theorem dX7_load_92 : decode cX7_load 92 = .ok (.iadd, 1) := by decide +kernel
theorem dX7_load_93 : decode cX7_load 93 = .ok (.iaload, 1) := by decide +kernel
theorem dX7_load_94 : decode cX7_load 94 = .ok (.iastore, 1) := by decide +kernel
theorem dX7_load_95 : decode cX7_load 95 = .ok (.iinc 2 1, 3) := by decide +kernel
theorem dX7_load_98 : decode cX7_load 98 = .ok (.goto (-65), 3) := by decide +kernel
theorem dX7_load_101 : decode cX7_load 101 = .ok (.iload_n 2, 1) := by decide +kernel
theorem dX7_load_102 : decode cX7_load 102 = .ok (.ireturn, 1) := by decide +kernel
theorem dX7_isRight_0 : decode cX7_isRight 0 = .ok (.iload_n 3, 1) := by decide +kernel
theorem dX7_isRight_1 : decode cX7_isRight 1 = .ok (.ifCond .lt 14, 3) := by decide +kernel
theorem dX7_isRight_4 : decode cX7_isRight 4 = .ok (.iload_n 2, 1) := by decide +kernel
theorem dX7_isRight_5 : decode cX7_isRight 5 = .ok (.ifCond .ne 12, 3) := by decide +kernel
theorem dX7_isRight_8 : decode cX7_isRight 8 = .ok (.iload_n 3, 1) := by decide +kernel
theorem dX7_isRight_9 : decode cX7_isRight 9 = .ok (.invokestatic 187, 3) := by decide +kernel
theorem dX7_isRight_12 : decode cX7_isRight 12 = .ok (.ifCond .ne 5, 3) := by decide +kernel
theorem dX7_isRight_15 : decode cX7_isRight 15 = .ok (.iconst 0, 1) := by decide +kernel
theorem dX7_isRight_16 : decode cX7_isRight 16 = .ok (.ireturn, 1) := by decide +kernel
theorem dX7_isRight_17 : decode cX7_isRight 17 = .ok (.aload_n 0, 1) := by decide +kernel
theorem dX7_isRight_18 : decode cX7_isRight 18 = .ok (.iload_n 1, 1) := by decide +kernel
theorem dX7_isRight_19 : decode cX7_isRight 19 = .ok (.iload_n 2, 1) := by decide +kernel
theorem dX7_isRight_20 : decode cX7_isRight 20 = .ok (.iload 4, 2) := by decide +kernel
theorem dX7_isRight_22 : decode cX7_isRight 22 = .ok (.invokevirtual 225, 3) := by decide +kernel
theorem dX7_isRight_25 : decode cX7_isRight 25 = .ok (.iload_n 3, 1) := by decide +kernel
theorem dX7_isRight_26 : decode cX7_isRight 26 = .ok (.if_icmp .ne 25, 3) := by decide +kernel
theorem dX7_isRight_29 : decode cX7_isRight 29 = .ok (.iload_n 2, 1) := by decide +kernel
theorem dX7_isRight_30 : decode cX7_isRight 30 = .ok (.ifCond .eq 17, 3) := by decide +kernel
theorem dX7_isRight_33 : decode cX7_isRight 33 = .ok (.iload_n 3, 1) := by decide +kernel
theorem dX7_isRight_34 : decode cX7_isRight 34 = .ok (.iload 4, 2) := by decide +kernel
theorem dX7_isRight_36 : decode cX7_isRight 36 = .ok (.isub, 1) := by decide +kernel
theorem dX7_isRight_37 : decode cX7_isRight 37 = .ok (.aload_n 0, 1) := by decide +kernel
theorem dX7_isRight_38 : decode cX7_isRight 38 = .ok (.iload_n 1, 1) := by decide +kernel
theorem dX7_isRight_39 : decode cX7_isRight 39 = .ok (.iload_n 2, 1) := by decide +kernel
theorem dX7_isRight_40 : decode cX7_isRight 40 = .ok (.iconst 2, 1) := by decide +kernel
theorem dX7_isRight_41 : decode cX7_isRight 41 = .ok (.invokevirtual 210, 3) := by decide +kernel
theorem dX7_isRight_44 : decode cX7_isRight 44 = .ok (.if_icmp .gt 7, 3) := by decide +kernel
theorem dX7_isRight_47 : decode cX7_isRight 47 = .ok (.iconst 1, 1) := by decide +kernel
theorem dX7_isRight_48 : decode cX7_isRight 48 = .ok (.goto 4, 3) := by decide +kernel
theorem dX7_isRight_51 : decode cX7_isRight 51 = .ok (.iconst 0, 1) := by decide +kernel
theorem dX7_isRight_52 : decode cX7_isRight 52 = .ok (.ireturn, 1) := by decide +kernel
theorem dX7_judge_0 : decode cX7_judge 0 = .ok (.iload_n 1, 1) := by decide +kernel
theorem dX7_judge_1 : decode cX7_judge 1 = .ok (.invokestatic 304, 3) := by decide +kernel
theorem dX7_judge_4 : decode cX7_judge 4 = .ok (.ifCond .ne 10, 3) := by decide +kernel
theorem dX7_judge_7 : decode cX7_judge 7 = .ok (.aload_n 0, 1) := by decide +kernel
theorem dX7_judge_8 : decode cX7_judge 8 = .ok (.ldc 40, 2) := by decide +kernel
theorem dX7_judge_10 : decode cX7_judge 10 = .ok (.invokevirtual 42, 3) := by decide +kernel
theorem dX7_judge_13 : decode cX7_judge 13 = .ok (.ireturn, 1) := by decide +kernel
theorem dX7_judge_14 : decode cX7_judge 14 = .ok (.aload_n 0, 1) := by decide +kernel
theorem dX7_judge_15 : decode cX7_judge 15 = .ok (.getfield 31, 3) := by decide +kernel
theorem dX7_judge_18 : decode cX7_judge 18 = .ok (.iload_n 1, 1) := by decide +kernel
theorem dX7_judge_19 : decode cX7_judge 19 = .ok (.iaload, 1) := by decide +kernel
theorem dX7_judge_20 : decode cX7_judge 20 = .ok (.ifCond .ne 11, 3) := by decide +kernel
theorem dX7_judge_23 : decode cX7_judge 23 = .ok (.aload_n 0, 1) := by decide +kernel
theorem dX7_judge_24 : decode cX7_judge 24 = .ok (.ldc_w 297, 3) := by decide +kernel
theorem dX7_judge_27 : decode cX7_judge 27 = .ok (.invokevirtual 42, 3) := by decide +kernel
theorem dX7_judge_30 : decode cX7_judge 30 = .ok (.ireturn, 1) := by decide +kernel
theorem dX7_judge_31 : decode cX7_judge 31 = .ok (.aload_n 0, 1) := by decide +kernel
theorem dX7_judge_32 : decode cX7_judge 32 = .ok (.iload_n 2, 1) := by decide +kernel
theorem dX7_judge_33 : decode cX7_judge 33 = .ok (.invokevirtual 58, 3) := by decide +kernel
theorem dX7_judge_36 : decode cX7_judge 36 = .ok (.ifCond .ne 10, 3) := by decide +kernel
theorem dX7_judge_39 : decode cX7_judge 39 = .ok (.aload_n 0, 1) := by decide +kernel
theorem dX7_judge_40 : decode cX7_judge 40 = .ok (.ldc 40, 2) := by decide +kernel
theorem dX7_judge_42 : decode cX7_judge 42 = .ok (.invokevirtual 42, 3) := by decide +kernel
theorem dX7_judge_45 : decode cX7_judge 45 = .ok (.ireturn, 1) := by decide +kernel
theorem dX7_judge_46 : decode cX7_judge 46 = .ok (.iconst 0, 1) := by decide +kernel
theorem dX7_judge_47 : decode cX7_judge 47 = .ok (.istore_n 3, 1) := by decide +kernel
theorem dX7_judge_48 : decode cX7_judge 48 = .ok (.iload_n 3, 1) := by decide +kernel
theorem dX7_judge_49 : decode cX7_judge 49 = .ok (.aload_n 0, 1) := by decide +kernel
theorem dX7_judge_50 : decode cX7_judge 50 = .ok (.getfield 34, 3) := by decide +kernel
theorem dX7_judge_53 : decode cX7_judge 53 = .ok (.iload_n 1, 1) := by decide +kernel
theorem dX7_judge_54 : decode cX7_judge 54 = .ok (.iaload, 1) := by decide +kernel
theorem dX7_judge_55 : decode cX7_judge 55 = .ok (.if_icmp .ge 59, 3) := by decide +kernel
theorem dX7_judge_58 : decode cX7_judge 58 = .ok (.iload_n 3, 1) := by decide +kernel
theorem dX7_judge_59 : decode cX7_judge 59 = .ok (.aload_n 0, 1) := by decide +kernel
theorem dX7_judge_60 : decode cX7_judge 60 = .ok (.iload_n 2, 1) := by decide +kernel
theorem dX7_judge_61 : decode cX7_judge 61 = .ok (.invokevirtual 62, 3) := by decide +kernel
theorem dX7_judge_64 : decode cX7_judge 64 = .ok (.if_icmp .ge 50, 3) := by decide +kernel
theorem dX7_judge_67 : decode cX7_judge 67 = .ok (.aload_n 0, 1) := by decide +kernel
theorem dX7_judge_68 : decode cX7_judge 68 = .ok (.iload_n 2, 1) := by decide +kernel
theorem dX7_judge_69 : decode cX7_judge 69 = .ok (.iload_n 3, 1) := by decide +kernel
theorem dX7_judge_70 : decode cX7_judge 70 = .ok (.aload_n 0, 1) := by decide +kernel
theorem dX7_judge_71 : decode cX7_judge 71 = .ok (.getfield 37, 3) := by decide +kernel
theorem dX7_judge_74 : decode cX7_judge 74 = .ok (.bipush 40, 2) := by decide +kernel
theorem dX7_judge_76 : decode cX7_judge 76 = .ok (.iload_n 1, 1) := by decide +kernel
theorem dX7_judge_77 : decode cX7_judge 77 = .ok (.imul, 1) := by decide +kernel
theorem dX7_judge_78 : decode cX7_judge 78 = .ok (.iload_n 3, 1) := by decide +kernel
theorem dX7_judge_79 : decode cX7_judge 79 = .ok (.iadd, 1) := by decide +kernel
theorem dX7_judge_80 : decode cX7_judge 80 = .ok (.iaload, 1) := by decide +kernel
theorem dX7_judge_81 : decode cX7_judge 81 = .ok (.aload_n 0, 1) := by decide +kernel
theorem dX7_judge_82 : decode cX7_judge 82 = .ok (.getfield 37, 3) := by decide +kernel
theorem dX7_judge_85 : decode cX7_judge 85 = .ok (.bipush 40, 2) := by decide +kernel
theorem dX7_judge_87 : decode cX7_judge 87 = .ok (.iload_n 1, 1) := by decide +kernel
theorem dX7_judge_88 : decode cX7_judge 88 = .ok (.imul, 1) := by decide +kernel
theorem dX7_judge_89 : decode cX7_judge 89 = .ok (.iload_n 3, 1) := by decide +kernel
theorem dX7_judge_90 : decode cX7_judge 90 = .ok (.ifCond .ne 7, 3) := by decide +kernel
theorem dX7_judge_93 : decode cX7_judge 93 = .ok (.iconst 0, 1) := by decide +kernel
theorem dX7_judge_94 : decode cX7_judge 94 = .ok (.goto 6, 3) := by decide +kernel
theorem dX7_judge_97 : decode cX7_judge 97 = .ok (.iload_n 3, 1) := by decide +kernel
theorem dX7_judge_98 : decode cX7_judge 98 = .ok (.iconst 1, 1) := by decide +kernel
theorem dX7_judge_99 : decode cX7_judge 99 = .ok (.isub, 1) := by decide +kernel
theorem dX7_judge_100 : decode cX7_judge 100 = .ok (.iadd, 1) := by decide +kernel
theorem dX7_judge_101 : decode cX7_judge 101 = .ok (.iaload, 1) := by decide +kernel
theorem dX7_judge_102 : decode cX7_judge 102 = .ok (.invokevirtual 308, 3) := by decide +kernel
theorem dX7_judge_105 : decode cX7_judge 105 = .ok (.ifCond .eq 9, 3) := by decide +kernel
theorem dX7_judge_108 : decode cX7_judge 108 = .ok (.iinc 3 1, 3) := by decide +kernel
theorem dX7_judge_111 : decode cX7_judge 111 = .ok (.goto (-63), 3) := by decide +kernel
theorem dX7_judge_114 : decode cX7_judge 114 = .ok (.iload_n 3, 1) := by decide +kernel
theorem dX7_judge_115 : decode cX7_judge 115 = .ok (.aload_n 0, 1) := by decide +kernel
theorem dX7_judge_116 : decode cX7_judge 116 = .ok (.getfield 34, 3) := by decide +kernel
theorem dX7_judge_119 : decode cX7_judge 119 = .ok (.iload_n 1, 1) := by decide +kernel
theorem dX7_judge_120 : decode cX7_judge 120 = .ok (.iaload, 1) := by decide +kernel
theorem dX7_judge_121 : decode cX7_judge 121 = .ok (.if_icmp .ne 16, 3) := by decide +kernel
theorem dX7_judge_124 : decode cX7_judge 124 = .ok (.iload_n 3, 1) := by decide +kernel
theorem dX7_judge_125 : decode cX7_judge 125 = .ok (.aload_n 0, 1) := by decide +kernel
theorem dX7_judge_126 : decode cX7_judge 126 = .ok (.iload_n 2, 1) := by decide +kernel
theorem dX7_judge_127 : decode cX7_judge 127 = .ok (.invokevirtual 62, 3) := by decide +kernel
theorem dX7_judge_130 : decode cX7_judge 130 = .ok (.if_icmp .ne 7, 3) := by decide +kernel
theorem dX7_judge_133 : decode cX7_judge 133 = .ok (.iconst 0, 1) := by decide +kernel
theorem dX7_judge_134 : decode cX7_judge 134 = .ok (.goto 6, 3) := by decide +kernel
theorem dX7_judge_137 : decode cX7_judge 137 = .ok (.iconst 1, 1) := by decide +kernel
theorem dX7_judge_138 : decode cX7_judge 138 = .ok (.iload_n 3, 1) := by decide +kernel
theorem dX7_judge_139 : decode cX7_judge 139 = .ok (.iadd, 1) := by decide +kernel
theorem dX7_judge_140 : decode cX7_judge 140 = .ok (.ireturn, 1) := by decide +kernel
theorem dX7_image_0 : decode cX7_image 0 = .ok (.iconst 0, 1) := by decide +kernel
theorem dX7_image_1 : decode cX7_image 1 = .ok (.istore_n 1, 1) := by decide +kernel
theorem dX7_image_2 : decode cX7_image 2 = .ok (.iload_n 1, 1) := by decide +kernel
theorem dX7_image_3 : decode cX7_image 3 = .ok (.sipush 247, 3) := by decide +kernel
theorem dX7_image_6 : decode cX7_image 6 = .ok (.if_icmp .ge 21, 3) := by decide +kernel
theorem dX7_image_9 : decode cX7_image 9 = .ok (.aload_n 0, 1) := by decide +kernel
theorem dX7_image_10 : decode cX7_image 10 = .ok (.getfield 13, 3) := by decide +kernel
theorem dX7_image_13 : decode cX7_image 13 = .ok (.iload_n 1, 1) := by decide +kernel
theorem dX7_image_14 : decode cX7_image 14 = .ok (.aload_n 0, 1) := by decide +kernel
theorem dX7_image_15 : decode cX7_image 15 = .ok (.getfield 9, 3) := by decide +kernel
theorem dX7_image_18 : decode cX7_image 18 = .ok (.iload_n 1, 1) := by decide +kernel
theorem dX7_image_19 : decode cX7_image 19 = .ok (.iaload, 1) := by decide +kernel
theorem dX7_image_20 : decode cX7_image 20 = .ok (.iastore, 1) := by decide +kernel
theorem dX7_image_21 : decode cX7_image 21 = .ok (.iinc 1 1, 3) := by decide +kernel
theorem dX7_image_24 : decode cX7_image 24 = .ok (.goto (-22), 3) := by decide +kernel
theorem dX7_image_27 : decode cX7_image 27 = .ok (.aload_n 0, 1) := by decide +kernel
theorem dX7_image_28 : decode cX7_image 28 = .ok (.iconst 1, 1) := by decide +kernel
theorem dX7_image_29 : decode cX7_image 29 = .ok (.putfield 312, 3) := by decide +kernel
theorem dX7_image_32 : decode cX7_image 32 = .ok (.iconst 1, 1) := by decide +kernel
theorem dX7_image_33 : decode cX7_image 33 = .ok (.ireturn, 1) := by decide +kernel
theorem dX7_undo_0 : decode cX7_undo 0 = .ok (.aload_n 0, 1) := by decide +kernel
theorem dX7_undo_1 : decode cX7_undo 1 = .ok (.getfield 312, 3) := by decide +kernel
theorem dX7_undo_4 : decode cX7_undo 4 = .ok (.ifCond .ne 10, 3) := by decide +kernel
theorem dX7_undo_7 : decode cX7_undo 7 = .ok (.aload_n 0, 1) := by decide +kernel
theorem dX7_undo_8 : decode cX7_undo 8 = .ok (.ldc 41, 2) := by decide +kernel
theorem dX7_undo_10 : decode cX7_undo 10 = .ok (.invokevirtual 42, 3) := by decide +kernel
theorem dX7_undo_13 : decode cX7_undo 13 = .ok (.ireturn, 1) := by decide +kernel
theorem dX7_undo_14 : decode cX7_undo 14 = .ok (.iconst 0, 1) := by decide +kernel
theorem dX7_undo_15 : decode cX7_undo 15 = .ok (.istore_n 1, 1) := by decide +kernel
theorem dX7_undo_16 : decode cX7_undo 16 = .ok (.iload_n 1, 1) := by decide +kernel
theorem dX7_undo_17 : decode cX7_undo 17 = .ok (.sipush 247, 3) := by decide +kernel
theorem dX7_undo_20 : decode cX7_undo 20 = .ok (.if_icmp .ge 21, 3) := by decide +kernel
theorem dX7_undo_23 : decode cX7_undo 23 = .ok (.aload_n 0, 1) := by decide +kernel
theorem dX7_undo_24 : decode cX7_undo 24 = .ok (.getfield 9, 3) := by decide +kernel
theorem dX7_undo_27 : decode cX7_undo 27 = .ok (.iload_n 1, 1) := by decide +kernel
theorem dX7_undo_28 : decode cX7_undo 28 = .ok (.aload_n 0, 1) := by decide +kernel
theorem dX7_undo_29 : decode cX7_undo 29 = .ok (.getfield 13, 3) := by decide +kernel
theorem dX7_undo_32 : decode cX7_undo 32 = .ok (.iload_n 1, 1) := by decide +kernel
theorem dX7_undo_33 : decode cX7_undo 33 = .ok (.iaload, 1) := by decide +kernel
theorem dX7_undo_34 : decode cX7_undo 34 = .ok (.iastore, 1) := by decide +kernel
theorem dX7_undo_35 : decode cX7_undo 35 = .ok (.iinc 1 1, 3) := by decide +kernel
theorem dX7_undo_38 : decode cX7_undo 38 = .ok (.goto (-22), 3) := by decide +kernel
theorem dX7_undo_41 : decode cX7_undo 41 = .ok (.aload_n 0, 1) := by decide +kernel
theorem dX7_undo_42 : decode cX7_undo 42 = .ok (.getfield 9, 3) := by decide +kernel
theorem dX7_undo_45 : decode cX7_undo 45 = .ok (.iconst 3, 1) := by decide +kernel
theorem dX7_undo_46 : decode cX7_undo 46 = .ok (.iaload, 1) := by decide +kernel
theorem dX7_undo_47 : decode cX7_undo 47 = .ok (.ireturn, 1) := by decide +kernel
theorem dX7_tear_0 : decode cX7_tear 0 = .ok (.aload_n 0, 1) := by decide +kernel
theorem dX7_tear_1 : decode cX7_tear 1 = .ok (.getfield 312, 3) := by decide +kernel
theorem dX7_tear_4 : decode cX7_tear 4 = .ok (.ifCond .eq 7, 3) := by decide +kernel
theorem dX7_tear_7 : decode cX7_tear 7 = .ok (.iconst 1, 1) := by decide +kernel
theorem dX7_tear_8 : decode cX7_tear 8 = .ok (.goto 4, 3) := by decide +kernel
theorem dX7_tear_11 : decode cX7_tear 11 = .ok (.iconst 0, 1) := by decide +kernel
theorem dX7_tear_12 : decode cX7_tear 12 = .ok (.istore_n 1, 1) := by decide +kernel
theorem dX7_tear_13 : decode cX7_tear 13 = .ok (.aload_n 0, 1) := by decide +kernel
theorem dX7_tear_14 : decode cX7_tear 14 = .ok (.iconst 0, 1) := by decide +kernel
theorem dX7_tear_15 : decode cX7_tear 15 = .ok (.putfield 312, 3) := by decide +kernel
theorem dX7_tear_18 : decode cX7_tear 18 = .ok (.iload_n 1, 1) := by decide +kernel
theorem dX7_tear_19 : decode cX7_tear 19 = .ok (.ireturn, 1) := by decide +kernel
theorem dX7_count_0 : decode cX7_count 0 = .ok (.iconst 0, 1) := by decide +kernel
theorem dX7_count_1 : decode cX7_count 1 = .ok (.istore_n 2, 1) := by decide +kernel
theorem dX7_count_2 : decode cX7_count 2 = .ok (.iload_n 1, 1) := by decide +kernel
theorem dX7_count_3 : decode cX7_count 3 = .ok (.tableswitch 101 0 7 #[45, 45, 45, 45, 45, 52, 57, 64], 45) := by decide +kernel
theorem dX7_count_48 : decode cX7_count 48 = .ok (.aload_n 0, 1) := by decide +kernel
theorem dX7_count_49 : decode cX7_count 49 = .ok (.getfield 9, 3) := by decide +kernel
theorem dX7_count_52 : decode cX7_count 52 = .ok (.iload_n 1, 1) := by decide +kernel
theorem dX7_count_53 : decode cX7_count 53 = .ok (.iaload, 1) := by decide +kernel
theorem dX7_count_54 : decode cX7_count 54 = .ok (.ireturn, 1) := by decide +kernel
theorem dX7_count_55 : decode cX7_count 55 = .ok (.aload_n 0, 1) := by decide +kernel
theorem dX7_count_56 : decode cX7_count 56 = .ok (.getfield 67, 3) := by decide +kernel
theorem dX7_count_59 : decode cX7_count 59 = .ok (.ireturn, 1) := by decide +kernel
theorem dX7_count_60 : decode cX7_count 60 = .ok (.aload_n 0, 1) := by decide +kernel
theorem dX7_count_61 : decode cX7_count 61 = .ok (.getfield 9, 3) := by decide +kernel
theorem dX7_count_64 : decode cX7_count 64 = .ok (.iconst 5, 1) := by decide +kernel
theorem dX7_count_65 : decode cX7_count 65 = .ok (.iaload, 1) := by decide +kernel
theorem dX7_count_66 : decode cX7_count 66 = .ok (.ireturn, 1) := by decide +kernel
theorem dX7_count_67 : decode cX7_count 67 = .ok (.iconst 0, 1) := by decide +kernel
theorem dX7_count_68 : decode cX7_count 68 = .ok (.istore_n 3, 1) := by decide +kernel
theorem dX7_count_69 : decode cX7_count 69 = .ok (.iload_n 3, 1) := by decide +kernel
theorem dX7_count_70 : decode cX7_count 70 = .ok (.bipush 10, 2) := by decide +kernel
theorem dX7_count_72 : decode cX7_count 72 = .ok (.if_icmp .ge 30, 3) := by decide +kernel
theorem dX7_count_75 : decode cX7_count 75 = .ok (.iload_n 2, 1) := by decide +kernel
theorem dX7_count_76 : decode cX7_count 76 = .ok (.aload_n 0, 1) := by decide +kernel
theorem dX7_count_77 : decode cX7_count 77 = .ok (.getfield 9, 3) := by decide +kernel
theorem dX7_count_80 : decode cX7_count 80 = .ok (.sipush 237, 3) := by decide +kernel
theorem dX7_count_83 : decode cX7_count 83 = .ok (.iload_n 3, 1) := by decide +kernel
theorem dX7_count_84 : decode cX7_count 84 = .ok (.iadd, 1) := by decide +kernel
theorem dX7_count_85 : decode cX7_count 85 = .ok (.iaload, 1) := by decide +kernel
theorem dX7_count_86 : decode cX7_count 86 = .ok (.ifCond .ge 7, 3) := by decide +kernel
theorem dX7_count_89 : decode cX7_count 89 = .ok (.iconst 0, 1) := by decide +kernel
theorem dX7_count_90 : decode cX7_count 90 = .ok (.goto 4, 3) := by decide +kernel
theorem dX7_count_93 : decode cX7_count 93 = .ok (.iconst 1, 1) := by decide +kernel
theorem dX7_count_94 : decode cX7_count 94 = .ok (.iadd, 1) := by decide +kernel
theorem dX7_count_95 : decode cX7_count 95 = .ok (.istore_n 2, 1) := by decide +kernel
theorem dX7_count_96 : decode cX7_count 96 = .ok (.iinc 3 1, 3) := by decide +kernel
theorem dX7_count_99 : decode cX7_count 99 = .ok (.goto (-30), 3) := by decide +kernel
theorem dX7_count_102 : decode cX7_count 102 = .ok (.iload_n 2, 1) := by decide +kernel
theorem dX7_count_103 : decode cX7_count 103 = .ok (.ireturn, 1) := by decide +kernel
theorem dX7_count_104 : decode cX7_count 104 = .ok (.aload_n 0, 1) := by decide +kernel
theorem dX7_count_105 : decode cX7_count 105 = .ok (.ldc 40, 2) := by decide +kernel
theorem dX7_count_107 : decode cX7_count 107 = .ok (.invokevirtual 42, 3) := by decide +kernel
theorem dX7_count_110 : decode cX7_count 110 = .ok (.ireturn, 1) := by decide +kernel
theorem dX7_status_0 : decode cX7_status 0 = .ok (.iload_n 1, 1) := by decide +kernel
theorem dX7_status_1 : decode cX7_status 1 = .ok (.i2l, 1) := by decide +kernel
theorem dX7_status_2 : decode cX7_status 2 = .ok (.ldc2_w 171, 3) := by decide +kernel
theorem dX7_status_5 : decode cX7_status 5 = .ok (.ldc2_w 52, 3) := by decide +kernel
theorem dX7_status_8 : decode cX7_status 8 = .ok (.invokestatic 46, 3) := by decide +kernel
theorem dX7_status_11 : decode cX7_status 11 = .ok (.ifCond .ne 10, 3) := by decide +kernel
theorem dX7_status_14 : decode cX7_status 14 = .ok (.aload_n 0, 1) := by decide +kernel
theorem dX7_status_15 : decode cX7_status 15 = .ok (.ldc 40, 2) := by decide +kernel
theorem dX7_status_17 : decode cX7_status 17 = .ok (.invokevirtual 42, 3) := by decide +kernel
theorem dX7_status_20 : decode cX7_status 20 = .ok (.ireturn, 1) := by decide +kernel
theorem dX7_status_21 : decode cX7_status 21 = .ok (.iconst 0, 1) := by decide +kernel
theorem dX7_status_22 : decode cX7_status 22 = .ok (.istore_n 2, 1) := by decide +kernel
theorem dX7_status_23 : decode cX7_status 23 = .ok (.iconst 0, 1) := by decide +kernel
theorem dX7_status_24 : decode cX7_status 24 = .ok (.istore_n 3, 1) := by decide +kernel
theorem dX7_status_25 : decode cX7_status 25 = .ok (.iload_n 3, 1) := by decide +kernel
theorem dX7_status_26 : decode cX7_status 26 = .ok (.bipush 7, 2) := by decide +kernel
theorem dX7_status_28 : decode cX7_status 28 = .ok (.if_icmp .ge 31, 3) := by decide +kernel
theorem dX7_status_31 : decode cX7_status 31 = .ok (.iload_n 2, 1) := by decide +kernel
theorem dX7_status_32 : decode cX7_status 32 = .ok (.iload_n 1, 1) := by decide +kernel
theorem dX7_status_33 : decode cX7_status 33 = .ok (.ifCond .lt 8, 3) := by decide +kernel
theorem dX7_status_36 : decode cX7_status 36 = .ok (.iload_n 1, 1) := by decide +kernel
theorem dX7_status_37 : decode cX7_status 37 = .ok (.iload_n 3, 1) := by decide +kernel
theorem dX7_status_38 : decode cX7_status 38 = .ok (.if_icmp .ne 12, 3) := by decide +kernel
theorem dX7_status_41 : decode cX7_status 41 = .ok (.aload_n 0, 1) := by decide +kernel
theorem dX7_status_42 : decode cX7_status 42 = .ok (.getfield 16, 3) := by decide +kernel
theorem dX7_status_45 : decode cX7_status 45 = .ok (.iload_n 3, 1) := by decide +kernel
theorem dX7_status_46 : decode cX7_status 46 = .ok (.iaload, 1) := by decide +kernel
theorem dX7_status_47 : decode cX7_status 47 = .ok (.goto 4, 3) := by decide +kernel
theorem dX7_status_50 : decode cX7_status 50 = .ok (.iconst 0, 1) := by decide +kernel
theorem dX7_status_51 : decode cX7_status 51 = .ok (.iadd, 1) := by decide +kernel
theorem dX7_status_52 : decode cX7_status 52 = .ok (.istore_n 2, 1) := by decide +kernel
theorem dX7_status_53 : decode cX7_status 53 = .ok (.iinc 3 1, 3) := by decide +kernel
theorem dX7_status_56 : decode cX7_status 56 = .ok (.goto (-31), 3) := by decide +kernel
theorem dX7_status_59 : decode cX7_status 59 = .ok (.iload_n 2, 1) := by decide +kernel
theorem dX7_status_60 : decode cX7_status 60 = .ok (.ireturn, 1) := by decide +kernel
