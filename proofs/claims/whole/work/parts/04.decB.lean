theorem dX5_init_0 : decode cX5_init 0 = .ok (.aload_n 0, 1) := by decide +kernel
theorem dX5_init_1 : decode cX5_init 1 = .ok (.invokespecial 3, 3) := by decide +kernel
theorem dX5_init_4 : decode cX5_init 4 = .ok (.aload_n 0, 1) := by decide +kernel
theorem dX5_init_5 : decode cX5_init 5 = .ok (.bipush 7, 2) := by decide +kernel
theorem dX5_init_7 : decode cX5_init 7 = .ok (.putfield 9, 3) := by decide +kernel
theorem dX5_init_10 : decode cX5_init 10 = .ok (.aload_n 0, 1) := by decide +kernel
theorem dX5_init_11 : decode cX5_init 11 = .ok (.iconst (-1), 1) := by decide +kernel
theorem dX5_init_12 : decode cX5_init 12 = .ok (.putfield 15, 3) := by decide +kernel
theorem dX5_init_15 : decode cX5_init 15 = .ok (.aload_n 0, 1) := by decide +kernel
theorem dX5_init_16 : decode cX5_init 16 = .ok (.iconst 1, 1) := by decide +kernel
theorem dX5_init_17 : decode cX5_init 17 = .ok (.putfield 18, 3) := by decide +kernel
theorem dX5_init_20 : decode cX5_init 20 = .ok (.aload_n 0, 1) := by decide +kernel
theorem dX5_init_21 : decode cX5_init 21 = .ok (.iconst 0, 1) := by decide +kernel
theorem dX5_init_22 : decode cX5_init 22 = .ok (.putfield 21, 3) := by decide +kernel
theorem dX5_init_25 : decode cX5_init 25 = .ok (.aload_n 0, 1) := by decide +kernel
theorem dX5_init_26 : decode cX5_init 26 = .ok (.iconst 0, 1) := by decide +kernel
theorem dX5_init_27 : decode cX5_init 27 = .ok (.putfield 24, 3) := by decide +kernel
theorem dX5_init_30 : decode cX5_init 30 = .ok (.aload_n 0, 1) := by decide +kernel
theorem dX5_init_31 : decode cX5_init 31 = .ok (.iconst 0, 1) := by decide +kernel
theorem dX5_init_32 : decode cX5_init 32 = .ok (.putfield 27, 3) := by decide +kernel
theorem dX5_init_35 : decode cX5_init 35 = .ok (.aload_n 0, 1) := by decide +kernel
theorem dX5_init_36 : decode cX5_init 36 = .ok (.bipush 8, 2) := by decide +kernel
theorem dX5_init_38 : decode cX5_init 38 = .ok (.newarray .int, 2) := by decide +kernel
theorem dX5_init_40 : decode cX5_init 40 = .ok (.putfield 30, 3) := by decide +kernel
theorem dX5_init_43 : decode cX5_init 43 = .ok (.aload_n 0, 1) := by decide +kernel
theorem dX5_init_44 : decode cX5_init 44 = .ok (.bipush 8, 2) := by decide +kernel
theorem dX5_init_46 : decode cX5_init 46 = .ok (.newarray .int, 2) := by decide +kernel
theorem dX5_init_48 : decode cX5_init 48 = .ok (.putfield 34, 3) := by decide +kernel
theorem dX5_init_51 : decode cX5_init 51 = .ok (.aload_n 0, 1) := by decide +kernel
theorem dX5_init_52 : decode cX5_init 52 = .ok (.bipush 8, 2) := by decide +kernel
theorem dX5_init_54 : decode cX5_init 54 = .ok (.newarray .int, 2) := by decide +kernel
theorem dX5_init_56 : decode cX5_init 56 = .ok (.putfield 37, 3) := by decide +kernel
theorem dX5_init_59 : decode cX5_init 59 = .ok (.aload_n 0, 1) := by decide +kernel
theorem dX5_init_60 : decode cX5_init 60 = .ok (.sipush 192, 3) := by decide +kernel
theorem dX5_init_63 : decode cX5_init 63 = .ok (.newarray .int, 2) := by decide +kernel
theorem dX5_init_65 : decode cX5_init 65 = .ok (.putfield 40, 3) := by decide +kernel
theorem dX5_init_68 : decode cX5_init 68 = .ok (.aload_n 0, 1) := by decide +kernel
theorem dX5_init_69 : decode cX5_init 69 = .ok (.bipush 15, 2) := by decide +kernel
theorem dX5_init_71 : decode cX5_init 71 = .ok (.newarray .int, 2) := by decide +kernel
theorem dX5_init_73 : decode cX5_init 73 = .ok (.putfield 43, 3) := by decide +kernel
theorem dX5_init_76 : decode cX5_init 76 = .ok (.aload_n 0, 1) := by decide +kernel
theorem dX5_init_77 : decode cX5_init 77 = .ok (.bipush 10, 2) := by decide +kernel
theorem dX5_init_79 : decode cX5_init 79 = .ok (.newarray .int, 2) := by decide +kernel
theorem dX5_init_81 : decode cX5_init 81 = .ok (.putfield 46, 3) := by decide +kernel
theorem dX5_init_84 : decode cX5_init 84 = .ok (.iconst 0, 1) := by decide +kernel
theorem dX5_init_85 : decode cX5_init 85 = .ok (.istore_n 1, 1) := by decide +kernel
theorem dX5_init_86 : decode cX5_init 86 = .ok (.iload_n 1, 1) := by decide +kernel
theorem dX5_init_87 : decode cX5_init 87 = .ok (.bipush 10, 2) := by decide +kernel
theorem dX5_init_89 : decode cX5_init 89 = .ok (.if_icmp .ge 16, 3) := by decide +kernel
theorem dX5_init_92 : decode cX5_init 92 = .ok (.aload_n 0, 1) := by decide +kernel
theorem dX5_init_93 : decode cX5_init 93 = .ok (.getfield 46, 3) := by decide +kernel
theorem dX5_init_96 : decode cX5_init 96 = .ok (.iload_n 1, 1) := by decide +kernel
theorem dX5_init_97 : decode cX5_init 97 = .ok (.iconst (-1), 1) := by decide +kernel
theorem dX5_init_98 : decode cX5_init 98 = .ok (.iastore, 1) := by decide +kernel
theorem dX5_init_99 : decode cX5_init 99 = .ok (.iinc 1 1, 3) := by decide +kernel
theorem dX5_init_102 : decode cX5_init 102 = .ok (.goto (-16), 3) := by decide +kernel
theorem dX5_init_105 : decode cX5_init 105 = .ok (.return_, 1) := by decide +kernel
theorem dX5_takeFrom_0 : decode cX5_takeFrom 0 = .ok (.aload_n 0, 1) := by decide +kernel
theorem dX5_takeFrom_1 : decode cX5_takeFrom 1 = .ok (.aload_n 1, 1) := by decide +kernel
theorem dX5_takeFrom_2 : decode cX5_takeFrom 2 = .ok (.getfield 9, 3) := by decide +kernel
theorem dX5_takeFrom_5 : decode cX5_takeFrom 5 = .ok (.putfield 9, 3) := by decide +kernel
theorem dX5_takeFrom_8 : decode cX5_takeFrom 8 = .ok (.aload_n 0, 1) := by decide +kernel
theorem dX5_takeFrom_9 : decode cX5_takeFrom 9 = .ok (.aload_n 1, 1) := by decide +kernel
theorem dX5_takeFrom_10 : decode cX5_takeFrom 10 = .ok (.getfield 15, 3) := by decide +kernel
theorem dX5_takeFrom_13 : decode cX5_takeFrom 13 = .ok (.putfield 15, 3) := by decide +kernel
theorem dX5_takeFrom_16 : decode cX5_takeFrom 16 = .ok (.aload_n 0, 1) := by decide +kernel
theorem dX5_takeFrom_17 : decode cX5_takeFrom 17 = .ok (.aload_n 1, 1) := by decide +kernel
theorem dX5_takeFrom_18 : decode cX5_takeFrom 18 = .ok (.getfield 18, 3) := by decide +kernel
theorem dX5_takeFrom_21 : decode cX5_takeFrom 21 = .ok (.putfield 18, 3) := by decide +kernel
theorem dX5_takeFrom_24 : decode cX5_takeFrom 24 = .ok (.aload_n 0, 1) := by decide +kernel
theorem dX5_takeFrom_25 : decode cX5_takeFrom 25 = .ok (.aload_n 1, 1) := by decide +kernel
theorem dX5_takeFrom_26 : decode cX5_takeFrom 26 = .ok (.getfield 21, 3) := by decide +kernel
theorem dX5_takeFrom_29 : decode cX5_takeFrom 29 = .ok (.putfield 21, 3) := by decide +kernel
theorem dX5_takeFrom_32 : decode cX5_takeFrom 32 = .ok (.aload_n 0, 1) := by decide +kernel
theorem dX5_takeFrom_33 : decode cX5_takeFrom 33 = .ok (.aload_n 1, 1) := by decide +kernel
theorem dX5_takeFrom_34 : decode cX5_takeFrom 34 = .ok (.getfield 24, 3) := by decide +kernel
theorem dX5_takeFrom_37 : decode cX5_takeFrom 37 = .ok (.putfield 24, 3) := by decide +kernel
theorem dX5_takeFrom_40 : decode cX5_takeFrom 40 = .ok (.aload_n 0, 1) := by decide +kernel
theorem dX5_takeFrom_41 : decode cX5_takeFrom 41 = .ok (.aload_n 1, 1) := by decide +kernel
theorem dX5_takeFrom_42 : decode cX5_takeFrom 42 = .ok (.getfield 27, 3) := by decide +kernel
theorem dX5_takeFrom_45 : decode cX5_takeFrom 45 = .ok (.putfield 27, 3) := by decide +kernel
theorem dX5_takeFrom_48 : decode cX5_takeFrom 48 = .ok (.aload_n 1, 1) := by decide +kernel
theorem dX5_takeFrom_49 : decode cX5_takeFrom 49 = .ok (.getfield 30, 3) := by decide +kernel
theorem dX5_takeFrom_52 : decode cX5_takeFrom 52 = .ok (.iconst 0, 1) := by decide +kernel
theorem dX5_takeFrom_53 : decode cX5_takeFrom 53 = .ok (.aload_n 0, 1) := by decide +kernel
theorem dX5_takeFrom_54 : decode cX5_takeFrom 54 = .ok (.getfield 30, 3) := by decide +kernel
theorem dX5_takeFrom_57 : decode cX5_takeFrom 57 = .ok (.iconst 0, 1) := by decide +kernel
theorem dX5_takeFrom_58 : decode cX5_takeFrom 58 = .ok (.bipush 8, 2) := by decide +kernel
theorem dX5_takeFrom_60 : decode cX5_takeFrom 60 = .ok (.invokestatic 49, 3) := by decide +kernel
theorem dX5_takeFrom_63 : decode cX5_takeFrom 63 = .ok (.aload_n 1, 1) := by decide +kernel
theorem dX5_takeFrom_64 : decode cX5_takeFrom 64 = .ok (.getfield 34, 3) := by decide +kernel
theorem dX5_takeFrom_67 : decode cX5_takeFrom 67 = .ok (.iconst 0, 1) := by decide +kernel
theorem dX5_takeFrom_68 : decode cX5_takeFrom 68 = .ok (.aload_n 0, 1) := by decide +kernel
theorem dX5_takeFrom_69 : decode cX5_takeFrom 69 = .ok (.getfield 34, 3) := by decide +kernel
theorem dX5_takeFrom_72 : decode cX5_takeFrom 72 = .ok (.iconst 0, 1) := by decide +kernel
theorem dX5_takeFrom_73 : decode cX5_takeFrom 73 = .ok (.bipush 8, 2) := by decide +kernel
theorem dX5_takeFrom_75 : decode cX5_takeFrom 75 = .ok (.invokestatic 49, 3) := by decide +kernel
theorem dX5_takeFrom_78 : decode cX5_takeFrom 78 = .ok (.aload_n 1, 1) := by decide +kernel
theorem dX5_takeFrom_79 : decode cX5_takeFrom 79 = .ok (.getfield 37, 3) := by decide +kernel
theorem dX5_takeFrom_82 : decode cX5_takeFrom 82 = .ok (.iconst 0, 1) := by decide +kernel
theorem dX5_takeFrom_83 : decode cX5_takeFrom 83 = .ok (.aload_n 0, 1) := by decide +kernel
theorem dX5_takeFrom_84 : decode cX5_takeFrom 84 = .ok (.getfield 37, 3) := by decide +kernel
theorem dX5_takeFrom_87 : decode cX5_takeFrom 87 = .ok (.iconst 0, 1) := by decide +kernel
theorem dX5_takeFrom_88 : decode cX5_takeFrom 88 = .ok (.bipush 8, 2) := by decide +kernel
theorem dX5_takeFrom_90 : decode cX5_takeFrom 90 = .ok (.invokestatic 49, 3) := by decide +kernel
theorem dX5_takeFrom_93 : decode cX5_takeFrom 93 = .ok (.aload_n 1, 1) := by decide +kernel
theorem dX5_takeFrom_94 : decode cX5_takeFrom 94 = .ok (.getfield 40, 3) := by decide +kernel
theorem dX5_takeFrom_97 : decode cX5_takeFrom 97 = .ok (.iconst 0, 1) := by decide +kernel
theorem dX5_takeFrom_98 : decode cX5_takeFrom 98 = .ok (.aload_n 0, 1) := by decide +kernel
theorem dX5_takeFrom_99 : decode cX5_takeFrom 99 = .ok (.getfield 40, 3) := by decide +kernel
theorem dX5_takeFrom_102 : decode cX5_takeFrom 102 = .ok (.iconst 0, 1) := by decide +kernel
theorem dX5_takeFrom_103 : decode cX5_takeFrom 103 = .ok (.sipush 192, 3) := by decide +kernel
theorem dX5_takeFrom_106 : decode cX5_takeFrom 106 = .ok (.invokestatic 49, 3) := by decide +kernel
theorem dX5_takeFrom_109 : decode cX5_takeFrom 109 = .ok (.aload_n 1, 1) := by decide +kernel
theorem dX5_takeFrom_110 : decode cX5_takeFrom 110 = .ok (.getfield 43, 3) := by decide +kernel
theorem dX5_takeFrom_113 : decode cX5_takeFrom 113 = .ok (.iconst 0, 1) := by decide +kernel
theorem dX5_takeFrom_114 : decode cX5_takeFrom 114 = .ok (.aload_n 0, 1) := by decide +kernel
theorem dX5_takeFrom_115 : decode cX5_takeFrom 115 = .ok (.getfield 43, 3) := by decide +kernel
theorem dX5_takeFrom_118 : decode cX5_takeFrom 118 = .ok (.iconst 0, 1) := by decide +kernel
theorem dX5_takeFrom_119 : decode cX5_takeFrom 119 = .ok (.bipush 15, 2) := by decide +kernel
theorem dX5_takeFrom_121 : decode cX5_takeFrom 121 = .ok (.invokestatic 49, 3) := by decide +kernel
theorem dX5_takeFrom_124 : decode cX5_takeFrom 124 = .ok (.aload_n 1, 1) := by decide +kernel
theorem dX5_takeFrom_125 : decode cX5_takeFrom 125 = .ok (.getfield 46, 3) := by decide +kernel
theorem dX5_takeFrom_128 : decode cX5_takeFrom 128 = .ok (.iconst 0, 1) := by decide +kernel
theorem dX5_takeFrom_129 : decode cX5_takeFrom 129 = .ok (.aload_n 0, 1) := by decide +kernel
theorem dX5_takeFrom_130 : decode cX5_takeFrom 130 = .ok (.getfield 46, 3) := by decide +kernel
theorem dX5_takeFrom_133 : decode cX5_takeFrom 133 = .ok (.iconst 0, 1) := by decide +kernel
theorem dX5_takeFrom_134 : decode cX5_takeFrom 134 = .ok (.bipush 10, 2) := by decide +kernel
theorem dX5_takeFrom_136 : decode cX5_takeFrom 136 = .ok (.invokestatic 49, 3) := by decide +kernel
theorem dX5_takeFrom_139 : decode cX5_takeFrom 139 = .ok (.return_, 1) := by decide +kernel
theorem dX5_hasTool_0 : decode cX5_hasTool 0 = .ok (.iload_n 1, 1) := by decide +kernel
theorem dX5_hasTool_1 : decode cX5_hasTool 1 = .ok (.iconst 0, 1) := by decide +kernel
theorem dX5_hasTool_2 : decode cX5_hasTool 2 = .ok (.aload_n 0, 1) := by decide +kernel
theorem dX5_hasTool_3 : decode cX5_hasTool 3 = .ok (.getfield 21, 3) := by decide +kernel
theorem dX5_hasTool_6 : decode cX5_hasTool 6 = .ok (.iconst 1, 1) := by decide +kernel
theorem dX5_hasTool_7 : decode cX5_hasTool 7 = .ok (.isub, 1) := by decide +kernel
theorem dX5_hasTool_8 : decode cX5_hasTool 8 = .ok (.invokestatic 55, 3) := by decide +kernel
theorem dX5_hasTool_11 : decode cX5_hasTool 11 = .ok (.ireturn, 1) := by decide +kernel
theorem dX5_hasThing_0 : decode cX5_hasThing 0 = .ok (.iload_n 1, 1) := by decide +kernel
theorem dX5_hasThing_1 : decode cX5_hasThing 1 = .ok (.iconst 0, 1) := by decide +kernel
theorem dX5_hasThing_2 : decode cX5_hasThing 2 = .ok (.aload_n 0, 1) := by decide +kernel
theorem dX5_hasThing_3 : decode cX5_hasThing 3 = .ok (.getfield 24, 3) := by decide +kernel
theorem dX5_hasThing_6 : decode cX5_hasThing 6 = .ok (.iconst 1, 1) := by decide +kernel
theorem dX5_hasThing_7 : decode cX5_hasThing 7 = .ok (.isub, 1) := by decide +kernel
theorem dX5_hasThing_8 : decode cX5_hasThing 8 = .ok (.invokestatic 55, 3) := by decide +kernel
theorem dX5_hasThing_11 : decode cX5_hasThing 11 = .ok (.ireturn, 1) := by decide +kernel
theorem dX5_hasStep_0 : decode cX5_hasStep 0 = .ok (.aload_n 0, 1) := by decide +kernel
theorem dX5_hasStep_1 : decode cX5_hasStep 1 = .ok (.iload_n 1, 1) := by decide +kernel
theorem dX5_hasStep_2 : decode cX5_hasStep 2 = .ok (.invokevirtual 59, 3) := by decide +kernel
theorem dX5_hasStep_5 : decode cX5_hasStep 5 = .ok (.ifCond .eq 23, 3) := by decide +kernel
theorem dX5_hasStep_8 : decode cX5_hasStep 8 = .ok (.iload_n 2, 1) := by decide +kernel
theorem dX5_hasStep_9 : decode cX5_hasStep 9 = .ok (.iconst 0, 1) := by decide +kernel
theorem dX5_hasStep_10 : decode cX5_hasStep 10 = .ok (.aload_n 0, 1) := by decide +kernel
theorem dX5_hasStep_11 : decode cX5_hasStep 11 = .ok (.getfield 37, 3) := by decide +kernel
theorem dX5_hasStep_14 : decode cX5_hasStep 14 = .ok (.iload_n 1, 1) := by decide +kernel
theorem dX5_hasStep_15 : decode cX5_hasStep 15 = .ok (.iaload, 1) := by decide +kernel
theorem dX5_hasStep_16 : decode cX5_hasStep 16 = .ok (.iconst 1, 1) := by decide +kernel
theorem dX5_hasStep_17 : decode cX5_hasStep 17 = .ok (.isub, 1) := by decide +kernel
theorem dX5_hasStep_18 : decode cX5_hasStep 18 = .ok (.invokestatic 55, 3) := by decide +kernel
theorem dX5_hasStep_21 : decode cX5_hasStep 21 = .ok (.ifCond .eq 7, 3) := by decide +kernel
theorem dX5_hasStep_24 : decode cX5_hasStep 24 = .ok (.iconst 1, 1) := by decide +kernel
theorem dX5_hasStep_25 : decode cX5_hasStep 25 = .ok (.goto 4, 3) := by decide +kernel
theorem dX5_hasStep_28 : decode cX5_hasStep 28 = .ok (.iconst 0, 1) := by decide +kernel
theorem dX5_hasStep_29 : decode cX5_hasStep 29 = .ok (.ireturn, 1) := by decide +kernel
theorem dX5_allowsInStep_0 : decode cX5_allowsInStep 0 = .ok (.iload_n 1, 1) := by decide +kernel
theorem dX5_allowsInStep_1 : decode cX5_allowsInStep 1 = .ok (.lookupswitch 41 #[(0, 27), (1, 33)], 27) := by decide +kernel
theorem dX5_allowsInStep_28 : decode cX5_allowsInStep 28 = .ok (.aload_n 0, 1) := by decide +kernel
theorem dX5_allowsInStep_29 : decode cX5_allowsInStep 29 = .ok (.iload_n 2, 1) := by decide +kernel
theorem dX5_allowsInStep_30 : decode cX5_allowsInStep 30 = .ok (.invokevirtual 63, 3) := by decide +kernel
theorem dX5_allowsInStep_33 : decode cX5_allowsInStep 33 = .ok (.ireturn, 1) := by decide +kernel
theorem dX5_allowsInStep_34 : decode cX5_allowsInStep 34 = .ok (.iload_n 2, 1) := by decide +kernel
theorem dX5_allowsInStep_35 : decode cX5_allowsInStep 35 = .ok (.iconst 1, 1) := by decide +kernel
theorem dX5_allowsInStep_36 : decode cX5_allowsInStep 36 = .ok (.bipush 8, 2) := by decide +kernel
theorem dX5_allowsInStep_38 : decode cX5_allowsInStep 38 = .ok (.invokestatic 55, 3) := by decide +kernel
theorem dX5_allowsInStep_41 : decode cX5_allowsInStep 41 = .ok (.ireturn, 1) := by decide +kernel
theorem dX5_allowsInStep_42 : decode cX5_allowsInStep 42 = .ok (.iload_n 2, 1) := by decide +kernel
theorem dX5_allowsInStep_43 : decode cX5_allowsInStep 43 = .ok (.iconst 0, 1) := by decide +kernel
theorem dX5_allowsInStep_44 : decode cX5_allowsInStep 44 = .ok (.bipush 99, 2) := by decide +kernel
theorem dX5_allowsInStep_46 : decode cX5_allowsInStep 46 = .ok (.invokestatic 55, 3) := by decide +kernel
theorem dX5_allowsInStep_49 : decode cX5_allowsInStep 49 = .ok (.ireturn, 1) := by decide +kernel
theorem dX5_addTool_0 : decode cX5_addTool 0 = .ok (.aload_n 0, 1) := by decide +kernel
theorem dX5_addTool_1 : decode cX5_addTool 1 = .ok (.getfield 21, 3) := by decide +kernel
theorem dX5_addTool_4 : decode cX5_addTool 4 = .ok (.bipush 8, 2) := by decide +kernel
theorem dX5_addTool_6 : decode cX5_addTool 6 = .ok (.if_icmp .lt 5, 3) := by decide +kernel
theorem dX5_addTool_9 : decode cX5_addTool 9 = .ok (.iconst (-1), 1) := by decide +kernel
theorem dX5_addTool_10 : decode cX5_addTool 10 = .ok (.ireturn, 1) := by decide +kernel
theorem dX5_addTool_11 : decode cX5_addTool 11 = .ok (.aload_n 0, 1) := by decide +kernel
theorem dX5_addTool_12 : decode cX5_addTool 12 = .ok (.getfield 30, 3) := by decide +kernel
theorem dX5_addTool_15 : decode cX5_addTool 15 = .ok (.aload_n 0, 1) := by decide +kernel
theorem dX5_addTool_16 : decode cX5_addTool 16 = .ok (.getfield 21, 3) := by decide +kernel
theorem dX5_addTool_19 : decode cX5_addTool 19 = .ok (.iload_n 1, 1) := by decide +kernel
theorem dX5_addTool_20 : decode cX5_addTool 20 = .ok (.iastore, 1) := by decide +kernel
theorem dX5_addTool_21 : decode cX5_addTool 21 = .ok (.aload_n 0, 1) := by decide +kernel
theorem dX5_addTool_22 : decode cX5_addTool 22 = .ok (.dup, 1) := by decide +kernel
theorem dX5_addTool_23 : decode cX5_addTool 23 = .ok (.getfield 21, 3) := by decide +kernel
theorem dX5_addTool_26 : decode cX5_addTool 26 = .ok (.iconst 1, 1) := by decide +kernel
theorem dX5_addTool_27 : decode cX5_addTool 27 = .ok (.iadd, 1) := by decide +kernel
theorem dX5_addTool_28 : decode cX5_addTool 28 = .ok (.putfield 21, 3) := by decide +kernel
theorem dX5_addTool_31 : decode cX5_addTool 31 = .ok (.aload_n 0, 1) := by decide +kernel
theorem dX5_addTool_32 : decode cX5_addTool 32 = .ok (.getfield 21, 3) := by decide +kernel
theorem dX5_addTool_35 : decode cX5_addTool 35 = .ok (.iconst 1, 1) := by decide +kernel
theorem dX5_addTool_36 : decode cX5_addTool 36 = .ok (.isub, 1) := by decide +kernel
theorem dX5_addTool_37 : decode cX5_addTool 37 = .ok (.ireturn, 1) := by decide +kernel
theorem dX5_addThing_0 : decode cX5_addThing 0 = .ok (.aload_n 0, 1) := by decide +kernel
theorem dX5_addThing_1 : decode cX5_addThing 1 = .ok (.getfield 24, 3) := by decide +kernel
theorem dX5_addThing_4 : decode cX5_addThing 4 = .ok (.bipush 8, 2) := by decide +kernel
theorem dX5_addThing_6 : decode cX5_addThing 6 = .ok (.if_icmp .lt 5, 3) := by decide +kernel
theorem dX5_addThing_9 : decode cX5_addThing 9 = .ok (.iconst (-1), 1) := by decide +kernel
theorem dX5_addThing_10 : decode cX5_addThing 10 = .ok (.ireturn, 1) := by decide +kernel
theorem dX5_addThing_11 : decode cX5_addThing 11 = .ok (.aload_n 0, 1) := by decide +kernel
theorem dX5_addThing_12 : decode cX5_addThing 12 = .ok (.getfield 34, 3) := by decide +kernel
theorem dX5_addThing_15 : decode cX5_addThing 15 = .ok (.aload_n 0, 1) := by decide +kernel
theorem dX5_addThing_16 : decode cX5_addThing 16 = .ok (.getfield 24, 3) := by decide +kernel
theorem dX5_addThing_19 : decode cX5_addThing 19 = .ok (.iload_n 1, 1) := by decide +kernel
theorem dX5_addThing_20 : decode cX5_addThing 20 = .ok (.iastore, 1) := by decide +kernel
theorem dX5_addThing_21 : decode cX5_addThing 21 = .ok (.aload_n 0, 1) := by decide +kernel
theorem dX5_addThing_22 : decode cX5_addThing 22 = .ok (.getfield 37, 3) := by decide +kernel
theorem dX5_addThing_25 : decode cX5_addThing 25 = .ok (.aload_n 0, 1) := by decide +kernel
theorem dX5_addThing_26 : decode cX5_addThing 26 = .ok (.getfield 24, 3) := by decide +kernel
theorem dX5_addThing_29 : decode cX5_addThing 29 = .ok (.iconst 0, 1) := by decide +kernel
theorem dX5_addThing_30 : decode cX5_addThing 30 = .ok (.iastore, 1) := by decide +kernel
theorem dX5_addThing_31 : decode cX5_addThing 31 = .ok (.aload_n 0, 1) := by decide +kernel
theorem dX5_addThing_32 : decode cX5_addThing 32 = .ok (.dup, 1) := by decide +kernel
theorem dX5_addThing_33 : decode cX5_addThing 33 = .ok (.getfield 24, 3) := by decide +kernel
theorem dX5_addThing_36 : decode cX5_addThing 36 = .ok (.iconst 1, 1) := by decide +kernel
theorem dX5_addThing_37 : decode cX5_addThing 37 = .ok (.iadd, 1) := by decide +kernel
theorem dX5_addThing_38 : decode cX5_addThing 38 = .ok (.putfield 24, 3) := by decide +kernel
theorem dX5_addThing_41 : decode cX5_addThing 41 = .ok (.aload_n 0, 1) := by decide +kernel
theorem dX5_addThing_42 : decode cX5_addThing 42 = .ok (.getfield 24, 3) := by decide +kernel
theorem dX5_addThing_45 : decode cX5_addThing 45 = .ok (.iconst 1, 1) := by decide +kernel
theorem dX5_addThing_46 : decode cX5_addThing 46 = .ok (.isub, 1) := by decide +kernel
theorem dX5_addThing_47 : decode cX5_addThing 47 = .ok (.ireturn, 1) := by decide +kernel
theorem dX5_addStep_0 : decode cX5_addStep 0 = .ok (.aload_n 0, 1) := by decide +kernel
theorem dX5_addStep_1 : decode cX5_addStep 1 = .ok (.iload_n 1, 1) := by decide +kernel
theorem dX5_addStep_2 : decode cX5_addStep 2 = .ok (.invokevirtual 59, 3) := by decide +kernel
theorem dX5_addStep_5 : decode cX5_addStep 5 = .ok (.ifCond .eq 14, 3) := by decide +kernel
theorem dX5_addStep_8 : decode cX5_addStep 8 = .ok (.aload_n 0, 1) := by decide +kernel
theorem dX5_addStep_9 : decode cX5_addStep 9 = .ok (.getfield 37, 3) := by decide +kernel
theorem dX5_addStep_12 : decode cX5_addStep 12 = .ok (.iload_n 1, 1) := by decide +kernel
theorem dX5_addStep_13 : decode cX5_addStep 13 = .ok (.iaload, 1) := by decide +kernel
theorem dX5_addStep_14 : decode cX5_addStep 14 = .ok (.bipush 8, 2) := by decide +kernel
theorem dX5_addStep_16 : decode cX5_addStep 16 = .ok (.if_icmp .lt 5, 3) := by decide +kernel
theorem dX5_addStep_19 : decode cX5_addStep 19 = .ok (.iconst (-1), 1) := by decide +kernel
theorem dX5_addStep_20 : decode cX5_addStep 20 = .ok (.ireturn, 1) := by decide +kernel
theorem dX5_addStep_21 : decode cX5_addStep 21 = .ok (.aload_n 0, 1) := by decide +kernel
theorem dX5_addStep_22 : decode cX5_addStep 22 = .ok (.getfield 37, 3) := by decide +kernel
theorem dX5_addStep_25 : decode cX5_addStep 25 = .ok (.iload_n 1, 1) := by decide +kernel
theorem dX5_addStep_26 : decode cX5_addStep 26 = .ok (.iaload, 1) := by decide +kernel
theorem dX5_addStep_27 : decode cX5_addStep 27 = .ok (.istore 5, 2) := by decide +kernel
theorem dX5_addStep_29 : decode cX5_addStep 29 = .ok (.aload_n 0, 1) := by decide +kernel
theorem dX5_addStep_30 : decode cX5_addStep 30 = .ok (.iload_n 1, 1) := by decide +kernel
theorem dX5_addStep_31 : decode cX5_addStep 31 = .ok (.iload 5, 2) := by decide +kernel
theorem dX5_addStep_33 : decode cX5_addStep 33 = .ok (.iconst 0, 1) := by decide +kernel
theorem dX5_addStep_34 : decode cX5_addStep 34 = .ok (.iload_n 2, 1) := by decide +kernel
theorem dX5_addStep_35 : decode cX5_addStep 35 = .ok (.invokevirtual 66, 3) := by decide +kernel
theorem dX5_addStep_38 : decode cX5_addStep 38 = .ok (.aload_n 0, 1) := by decide +kernel
theorem dX5_addStep_39 : decode cX5_addStep 39 = .ok (.iload_n 1, 1) := by decide +kernel
theorem dX5_addStep_40 : decode cX5_addStep 40 = .ok (.iload 5, 2) := by decide +kernel
theorem dX5_addStep_42 : decode cX5_addStep 42 = .ok (.iconst 1, 1) := by decide +kernel
theorem dX5_addStep_43 : decode cX5_addStep 43 = .ok (.iload_n 3, 1) := by decide +kernel
theorem dX5_addStep_44 : decode cX5_addStep 44 = .ok (.invokevirtual 66, 3) := by decide +kernel
theorem dX5_addStep_47 : decode cX5_addStep 47 = .ok (.aload_n 0, 1) := by decide +kernel
theorem dX5_addStep_48 : decode cX5_addStep 48 = .ok (.iload_n 1, 1) := by decide +kernel
theorem dX5_addStep_49 : decode cX5_addStep 49 = .ok (.iload 5, 2) := by decide +kernel
theorem dX5_addStep_51 : decode cX5_addStep 51 = .ok (.iconst 2, 1) := by decide +kernel
theorem dX5_addStep_52 : decode cX5_addStep 52 = .ok (.iload 4, 2) := by decide +kernel
theorem dX5_addStep_54 : decode cX5_addStep 54 = .ok (.invokevirtual 66, 3) := by decide +kernel
theorem dX5_addStep_57 : decode cX5_addStep 57 = .ok (.aload_n 0, 1) := by decide +kernel
theorem dX5_addStep_58 : decode cX5_addStep 58 = .ok (.getfield 37, 3) := by decide +kernel
theorem dX5_addStep_61 : decode cX5_addStep 61 = .ok (.iload_n 1, 1) := by decide +kernel
theorem dX5_addStep_62 : decode cX5_addStep 62 = .ok (.iload 5, 2) := by decide +kernel
theorem dX5_addStep_64 : decode cX5_addStep 64 = .ok (.iconst 1, 1) := by decide +kernel
theorem dX5_addStep_65 : decode cX5_addStep 65 = .ok (.iadd, 1) := by decide +kernel
theorem dX5_addStep_66 : decode cX5_addStep 66 = .ok (.iastore, 1) := by decide +kernel
theorem dX5_addStep_67 : decode cX5_addStep 67 = .ok (.iload 5, 2) := by decide +kernel
theorem dX5_addStep_69 : decode cX5_addStep 69 = .ok (.iconst 1, 1) := by decide +kernel
theorem dX5_addStep_70 : decode cX5_addStep 70 = .ok (.iadd, 1) := by decide +kernel
theorem dX5_addStep_71 : decode cX5_addStep 71 = .ok (.ireturn, 1) := by decide +kernel
theorem dX5_addOrder_0 : decode cX5_addOrder 0 = .ok (.aload_n 0, 1) := by decide +kernel
theorem dX5_addOrder_1 : decode cX5_addOrder 1 = .ok (.getfield 27, 3) := by decide +kernel
theorem dX5_addOrder_4 : decode cX5_addOrder 4 = .ok (.iconst 5, 1) := by decide +kernel
theorem dX5_addOrder_5 : decode cX5_addOrder 5 = .ok (.if_icmp .lt 5, 3) := by decide +kernel
theorem dX5_addOrder_8 : decode cX5_addOrder 8 = .ok (.iconst (-1), 1) := by decide +kernel
theorem dX5_addOrder_9 : decode cX5_addOrder 9 = .ok (.ireturn, 1) := by decide +kernel
theorem dX5_addOrder_10 : decode cX5_addOrder 10 = .ok (.aload_n 0, 1) := by decide +kernel
theorem dX5_addOrder_11 : decode cX5_addOrder 11 = .ok (.getfield 27, 3) := by decide +kernel
theorem dX5_addOrder_14 : decode cX5_addOrder 14 = .ok (.iconst 3, 1) := by decide +kernel
theorem dX5_addOrder_15 : decode cX5_addOrder 15 = .ok (.imul, 1) := by decide +kernel
theorem dX5_addOrder_16 : decode cX5_addOrder 16 = .ok (.istore 4, 2) := by decide +kernel
theorem dX5_addOrder_18 : decode cX5_addOrder 18 = .ok (.aload_n 0, 1) := by decide +kernel
theorem dX5_addOrder_19 : decode cX5_addOrder 19 = .ok (.getfield 43, 3) := by decide +kernel
theorem dX5_addOrder_22 : decode cX5_addOrder 22 = .ok (.iload 4, 2) := by decide +kernel
theorem dX5_addOrder_24 : decode cX5_addOrder 24 = .ok (.iconst 0, 1) := by decide +kernel
theorem dX5_addOrder_25 : decode cX5_addOrder 25 = .ok (.iadd, 1) := by decide +kernel
theorem dX5_addOrder_26 : decode cX5_addOrder 26 = .ok (.iload_n 1, 1) := by decide +kernel
theorem dX5_addOrder_27 : decode cX5_addOrder 27 = .ok (.iastore, 1) := by decide +kernel
theorem dX5_addOrder_28 : decode cX5_addOrder 28 = .ok (.aload_n 0, 1) := by decide +kernel
theorem dX5_addOrder_29 : decode cX5_addOrder 29 = .ok (.getfield 43, 3) := by decide +kernel
theorem dX5_addOrder_32 : decode cX5_addOrder 32 = .ok (.iload 4, 2) := by decide +kernel
theorem dX5_addOrder_34 : decode cX5_addOrder 34 = .ok (.iconst 1, 1) := by decide +kernel
theorem dX5_addOrder_35 : decode cX5_addOrder 35 = .ok (.iadd, 1) := by decide +kernel
theorem dX5_addOrder_36 : decode cX5_addOrder 36 = .ok (.iload_n 2, 1) := by decide +kernel
theorem dX5_addOrder_37 : decode cX5_addOrder 37 = .ok (.iastore, 1) := by decide +kernel
theorem dX5_addOrder_38 : decode cX5_addOrder 38 = .ok (.aload_n 0, 1) := by decide +kernel
theorem dX5_addOrder_39 : decode cX5_addOrder 39 = .ok (.getfield 43, 3) := by decide +kernel
theorem dX5_addOrder_42 : decode cX5_addOrder 42 = .ok (.iload 4, 2) := by decide +kernel
theorem dX5_addOrder_44 : decode cX5_addOrder 44 = .ok (.iconst 2, 1) := by decide +kernel
theorem dX5_addOrder_45 : decode cX5_addOrder 45 = .ok (.iadd, 1) := by decide +kernel
theorem dX5_addOrder_46 : decode cX5_addOrder 46 = .ok (.iload_n 3, 1) := by decide +kernel
theorem dX5_addOrder_47 : decode cX5_addOrder 47 = .ok (.iastore, 1) := by decide +kernel
theorem dX5_addOrder_48 : decode cX5_addOrder 48 = .ok (.aload_n 0, 1) := by decide +kernel
theorem dX5_addOrder_49 : decode cX5_addOrder 49 = .ok (.dup, 1) := by decide +kernel
theorem dX5_addOrder_50 : decode cX5_addOrder 50 = .ok (.getfield 27, 3) := by decide +kernel
theorem dX5_addOrder_53 : decode cX5_addOrder 53 = .ok (.iconst 1, 1) := by decide +kernel
theorem dX5_addOrder_54 : decode cX5_addOrder 54 = .ok (.iadd, 1) := by decide +kernel
theorem dX5_addOrder_55 : decode cX5_addOrder 55 = .ok (.putfield 27, 3) := by decide +kernel
theorem dX5_addOrder_58 : decode cX5_addOrder 58 = .ok (.aload_n 0, 1) := by decide +kernel
theorem dX5_addOrder_59 : decode cX5_addOrder 59 = .ok (.getfield 27, 3) := by decide +kernel
theorem dX5_addOrder_62 : decode cX5_addOrder 62 = .ok (.iconst 1, 1) := by decide +kernel
theorem dX5_addOrder_63 : decode cX5_addOrder 63 = .ok (.isub, 1) := by decide +kernel
theorem dX5_addOrder_64 : decode cX5_addOrder 64 = .ok (.ireturn, 1) := by decide +kernel
theorem dX5_stepNumber_0 : decode cX5_stepNumber 0 = .ok (.aload_n 0, 1) := by decide +kernel
theorem dX5_stepNumber_1 : decode cX5_stepNumber 1 = .ok (.getfield 40, 3) := by decide +kernel
theorem dX5_stepNumber_4 : decode cX5_stepNumber 4 = .ok (.iload_n 1, 1) := by decide +kernel
theorem dX5_stepNumber_5 : decode cX5_stepNumber 5 = .ok (.bipush 8, 2) := by decide +kernel
theorem dX5_stepNumber_7 : decode cX5_stepNumber 7 = .ok (.imul, 1) := by decide +kernel
theorem dX5_stepNumber_8 : decode cX5_stepNumber 8 = .ok (.iload_n 2, 1) := by decide +kernel
theorem dX5_stepNumber_9 : decode cX5_stepNumber 9 = .ok (.iadd, 1) := by decide +kernel
theorem dX5_stepNumber_10 : decode cX5_stepNumber 10 = .ok (.iconst 3, 1) := by decide +kernel
theorem dX5_stepNumber_11 : decode cX5_stepNumber 11 = .ok (.imul, 1) := by decide +kernel
theorem dX5_stepNumber_12 : decode cX5_stepNumber 12 = .ok (.iload_n 3, 1) := by decide +kernel
theorem dX5_stepNumber_13 : decode cX5_stepNumber 13 = .ok (.iadd, 1) := by decide +kernel
theorem dX5_stepNumber_14 : decode cX5_stepNumber 14 = .ok (.iaload, 1) := by decide +kernel
theorem dX5_stepNumber_15 : decode cX5_stepNumber 15 = .ok (.ireturn, 1) := by decide +kernel
theorem dX5_putStepNumber_0 : decode cX5_putStepNumber 0 = .ok (.aload_n 0, 1) := by decide +kernel
theorem dX5_putStepNumber_1 : decode cX5_putStepNumber 1 = .ok (.getfield 40, 3) := by decide +kernel
theorem dX5_putStepNumber_4 : decode cX5_putStepNumber 4 = .ok (.iload_n 1, 1) := by decide +kernel
theorem dX5_putStepNumber_5 : decode cX5_putStepNumber 5 = .ok (.bipush 8, 2) := by decide +kernel
theorem dX5_putStepNumber_7 : decode cX5_putStepNumber 7 = .ok (.imul, 1) := by decide +kernel
theorem dX5_putStepNumber_8 : decode cX5_putStepNumber 8 = .ok (.iload_n 2, 1) := by decide +kernel
theorem dX5_putStepNumber_9 : decode cX5_putStepNumber 9 = .ok (.iadd, 1) := by decide +kernel
theorem dX5_putStepNumber_10 : decode cX5_putStepNumber 10 = .ok (.iconst 3, 1) := by decide +kernel
theorem dX5_putStepNumber_11 : decode cX5_putStepNumber 11 = .ok (.imul, 1) := by decide +kernel
theorem dX5_putStepNumber_12 : decode cX5_putStepNumber 12 = .ok (.iload_n 3, 1) := by decide +kernel
theorem dX5_putStepNumber_13 : decode cX5_putStepNumber 13 = .ok (.iadd, 1) := by decide +kernel
theorem dX5_putStepNumber_14 : decode cX5_putStepNumber 14 = .ok (.iload 4, 2) := by decide +kernel
theorem dX5_putStepNumber_16 : decode cX5_putStepNumber 16 = .ok (.iastore, 1) := by decide +kernel
theorem dX5_putStepNumber_17 : decode cX5_putStepNumber 17 = .ok (.return_, 1) := by decide +kernel
theorem dX5_orderNumber_0 : decode cX5_orderNumber 0 = .ok (.aload_n 0, 1) := by decide +kernel
theorem dX5_orderNumber_1 : decode cX5_orderNumber 1 = .ok (.getfield 43, 3) := by decide +kernel
theorem dX5_orderNumber_4 : decode cX5_orderNumber 4 = .ok (.iload_n 1, 1) := by decide +kernel
theorem dX5_orderNumber_5 : decode cX5_orderNumber 5 = .ok (.iconst 3, 1) := by decide +kernel
theorem dX5_orderNumber_6 : decode cX5_orderNumber 6 = .ok (.imul, 1) := by decide +kernel
theorem dX5_orderNumber_7 : decode cX5_orderNumber 7 = .ok (.iload_n 2, 1) := by decide +kernel
theorem dX5_orderNumber_8 : decode cX5_orderNumber 8 = .ok (.iadd, 1) := by decide +kernel
theorem dX5_orderNumber_9 : decode cX5_orderNumber 9 = .ok (.iaload, 1) := by decide +kernel
theorem dX5_orderNumber_10 : decode cX5_orderNumber 10 = .ok (.ireturn, 1) := by decide +kernel
theorem dX5_wholeRound_0 : decode cX5_wholeRound 0 = .ok (.iconst 1, 1) := by decide +kernel
theorem dX5_wholeRound_1 : decode cX5_wholeRound 1 = .ok (.aload_n 0, 1) := by decide +kernel
theorem dX5_wholeRound_2 : decode cX5_wholeRound 2 = .ok (.getfield 9, 3) := by decide +kernel
theorem dX5_wholeRound_5 : decode cX5_wholeRound 5 = .ok (.ishl, 1) := by decide +kernel
theorem dX5_wholeRound_6 : decode cX5_wholeRound 6 = .ok (.iconst 1, 1) := by decide +kernel
theorem dX5_wholeRound_7 : decode cX5_wholeRound 7 = .ok (.isub, 1) := by decide +kernel
theorem dX5_wholeRound_8 : decode cX5_wholeRound 8 = .ok (.ireturn, 1) := by decide +kernel
theorem dX5_goneOn_0 : decode cX5_goneOn 0 = .ok (.iload_n 1, 1) := by decide +kernel
theorem dX5_goneOn_1 : decode cX5_goneOn 1 = .ok (.aload_n 0, 1) := by decide +kernel
theorem dX5_goneOn_2 : decode cX5_goneOn 2 = .ok (.invokevirtual 70, 3) := by decide +kernel
theorem dX5_goneOn_5 : decode cX5_goneOn 5 = .ok (.iand, 1) := by decide +kernel
theorem dX5_goneOn_6 : decode cX5_goneOn 6 = .ok (.istore_n 3, 1) := by decide +kernel
theorem dX5_goneOn_7 : decode cX5_goneOn 7 = .ok (.iload_n 3, 1) := by decide +kernel
theorem dX5_goneOn_8 : decode cX5_goneOn 8 = .ok (.iload_n 2, 1) := by decide +kernel
theorem dX5_goneOn_9 : decode cX5_goneOn 9 = .ok (.ishl, 1) := by decide +kernel
theorem dX5_goneOn_10 : decode cX5_goneOn 10 = .ok (.iload_n 3, 1) := by decide +kernel
theorem dX5_goneOn_11 : decode cX5_goneOn 11 = .ok (.aload_n 0, 1) := by decide +kernel
theorem dX5_goneOn_12 : decode cX5_goneOn 12 = .ok (.getfield 9, 3) := by decide +kernel
theorem dX5_goneOn_15 : decode cX5_goneOn 15 = .ok (.iload_n 2, 1) := by decide +kernel
theorem dX5_goneOn_16 : decode cX5_goneOn 16 = .ok (.isub, 1) := by decide +kernel
theorem dX5_goneOn_17 : decode cX5_goneOn 17 = .ok (.ishr, 1) := by decide +kernel
theorem dX5_goneOn_18 : decode cX5_goneOn 18 = .ok (.ior, 1) := by decide +kernel
theorem dX5_goneOn_19 : decode cX5_goneOn 19 = .ok (.aload_n 0, 1) := by decide +kernel
theorem dX5_goneOn_20 : decode cX5_goneOn 20 = .ok (.invokevirtual 70, 3) := by decide +kernel
theorem dX5_goneOn_23 : decode cX5_goneOn 23 = .ok (.iand, 1) := by decide +kernel
theorem dX5_goneOn_24 : decode cX5_goneOn 24 = .ok (.ireturn, 1) := by decide +kernel
theorem dX5_hoursWith_0 : decode cX5_hoursWith 0 = .ok (.iconst 0, 1) := by decide +kernel
theorem dX5_hoursWith_1 : decode cX5_hoursWith 1 = .ok (.istore_n 3, 1) := by decide +kernel
theorem dX5_hoursWith_2 : decode cX5_hoursWith 2 = .ok (.iconst 0, 1) := by decide +kernel
theorem dX5_hoursWith_3 : decode cX5_hoursWith 3 = .ok (.istore 4, 2) := by decide +kernel
theorem dX5_hoursWith_5 : decode cX5_hoursWith 5 = .ok (.iload 4, 2) := by decide +kernel
theorem dX5_hoursWith_7 : decode cX5_hoursWith 7 = .ok (.aload_n 0, 1) := by decide +kernel
theorem dX5_hoursWith_8 : decode cX5_hoursWith 8 = .ok (.getfield 37, 3) := by decide +kernel
theorem dX5_hoursWith_11 : decode cX5_hoursWith 11 = .ok (.iload_n 1, 1) := by decide +kernel
theorem dX5_hoursWith_12 : decode cX5_hoursWith 12 = .ok (.iaload, 1) := by decide +kernel
theorem dX5_hoursWith_13 : decode cX5_hoursWith 13 = .ok (.if_icmp .ge 32, 3) := by decide +kernel
theorem dX5_hoursWith_16 : decode cX5_hoursWith 16 = .ok (.aload_n 0, 1) := by decide +kernel
theorem dX5_hoursWith_17 : decode cX5_hoursWith 17 = .ok (.iload_n 1, 1) := by decide +kernel
theorem dX5_hoursWith_18 : decode cX5_hoursWith 18 = .ok (.iload 4, 2) := by decide +kernel
theorem dX5_hoursWith_20 : decode cX5_hoursWith 20 = .ok (.iconst 0, 1) := by decide +kernel
theorem dX5_hoursWith_21 : decode cX5_hoursWith 21 = .ok (.invokevirtual 74, 3) := by decide +kernel
theorem dX5_hoursWith_24 : decode cX5_hoursWith 24 = .ok (.iload_n 2, 1) := by decide +kernel
theorem dX5_hoursWith_25 : decode cX5_hoursWith 25 = .ok (.if_icmp .ne 14, 3) := by decide +kernel
theorem dX5_hoursWith_28 : decode cX5_hoursWith 28 = .ok (.iload_n 3, 1) := by decide +kernel
theorem dX5_hoursWith_29 : decode cX5_hoursWith 29 = .ok (.aload_n 0, 1) := by decide +kernel
theorem dX5_hoursWith_30 : decode cX5_hoursWith 30 = .ok (.iload_n 1, 1) := by decide +kernel
theorem dX5_hoursWith_31 : decode cX5_hoursWith 31 = .ok (.iload 4, 2) := by decide +kernel
theorem dX5_hoursWith_33 : decode cX5_hoursWith 33 = .ok (.iconst 1, 1) := by decide +kernel
theorem dX5_hoursWith_34 : decode cX5_hoursWith 34 = .ok (.invokevirtual 74, 3) := by decide +kernel
theorem dX5_hoursWith_37 : decode cX5_hoursWith 37 = .ok (.iadd, 1) := by decide +kernel
theorem dX5_hoursWith_38 : decode cX5_hoursWith 38 = .ok (.istore_n 3, 1) := by decide +kernel
theorem dX5_hoursWith_39 : decode cX5_hoursWith 39 = .ok (.iinc 4 1, 3) := by decide +kernel
theorem dX5_hoursWith_42 : decode cX5_hoursWith 42 = .ok (.goto (-37), 3) := by decide +kernel
theorem dX5_hoursWith_45 : decode cX5_hoursWith 45 = .ok (.iload_n 3, 1) := by decide +kernel
theorem dX5_hoursWith_46 : decode cX5_hoursWith 46 = .ok (.ireturn, 1) := by decide +kernel
theorem dX5_mostBy_0 : decode cX5_mostBy 0 = .ok (.aload_n 0, 1) := by decide +kernel
theorem dX5_mostBy_1 : decode cX5_mostBy 1 = .ok (.iload_n 1, 1) := by decide +kernel
theorem dX5_mostBy_2 : decode cX5_mostBy 2 = .ok (.iload_n 2, 1) := by decide +kernel
theorem dX5_mostBy_3 : decode cX5_mostBy 3 = .ok (.invokevirtual 78, 3) := by decide +kernel
theorem dX5_mostBy_6 : decode cX5_mostBy 6 = .ok (.istore_n 3, 1) := by decide +kernel
theorem dX5_mostBy_7 : decode cX5_mostBy 7 = .ok (.iload_n 3, 1) := by decide +kernel
theorem dX5_mostBy_8 : decode cX5_mostBy 8 = .ok (.ifCond .gt 5, 3) := by decide +kernel
theorem dX5_mostBy_11 : decode cX5_mostBy 11 = .ok (.iconst 0, 1) := by decide +kernel
theorem dX5_mostBy_12 : decode cX5_mostBy 12 = .ok (.ireturn, 1) := by decide +kernel
theorem dX5_mostBy_13 : decode cX5_mostBy 13 = .ok (.bipush 8, 2) := by decide +kernel
theorem dX5_mostBy_15 : decode cX5_mostBy 15 = .ok (.aload_n 0, 1) := by decide +kernel
theorem dX5_mostBy_16 : decode cX5_mostBy 16 = .ok (.getfield 30, 3) := by decide +kernel
theorem dX5_mostBy_19 : decode cX5_mostBy 19 = .ok (.iload_n 2, 1) := by decide +kernel
theorem dX5_mostBy_20 : decode cX5_mostBy 20 = .ok (.iaload, 1) := by decide +kernel
theorem dX5_mostBy_21 : decode cX5_mostBy 21 = .ok (.aload_n 0, 1) := by decide +kernel
theorem dX5_mostBy_22 : decode cX5_mostBy 22 = .ok (.invokevirtual 70, 3) := by decide +kernel
theorem dX5_mostBy_25 : decode cX5_mostBy 25 = .ok (.iand, 1) := by decide +kernel
theorem dX5_mostBy_26 : decode cX5_mostBy 26 = .ok (.invokestatic 82, 3) := by decide +kernel
theorem dX5_mostBy_29 : decode cX5_mostBy 29 = .ok (.imul, 1) := by decide +kernel
theorem dX5_mostBy_30 : decode cX5_mostBy 30 = .ok (.iload_n 3, 1) := by decide +kernel
theorem dX5_mostBy_31 : decode cX5_mostBy 31 = .ok (.idiv, 1) := by decide +kernel
theorem dX5_mostBy_32 : decode cX5_mostBy 32 = .ok (.ireturn, 1) := by decide +kernel
theorem dX5_chokingTool_0 : decode cX5_chokingTool 0 = .ok (.iconst (-1), 1) := by decide +kernel
theorem dX5_chokingTool_1 : decode cX5_chokingTool 1 = .ok (.istore_n 2, 1) := by decide +kernel
theorem dX5_chokingTool_2 : decode cX5_chokingTool 2 = .ok (.iconst 0, 1) := by decide +kernel
theorem dX5_chokingTool_3 : decode cX5_chokingTool 3 = .ok (.istore_n 3, 1) := by decide +kernel
theorem dX5_chokingTool_4 : decode cX5_chokingTool 4 = .ok (.iconst 0, 1) := by decide +kernel
theorem dX5_chokingTool_5 : decode cX5_chokingTool 5 = .ok (.istore 4, 2) := by decide +kernel
theorem dX5_chokingTool_7 : decode cX5_chokingTool 7 = .ok (.iload 4, 2) := by decide +kernel
theorem dX5_chokingTool_9 : decode cX5_chokingTool 9 = .ok (.aload_n 0, 1) := by decide +kernel
theorem dX5_chokingTool_10 : decode cX5_chokingTool 10 = .ok (.getfield 21, 3) := by decide +kernel
theorem dX5_chokingTool_13 : decode cX5_chokingTool 13 = .ok (.if_icmp .ge 47, 3) := by decide +kernel
theorem dX5_chokingTool_16 : decode cX5_chokingTool 16 = .ok (.aload_n 0, 1) := by decide +kernel
theorem dX5_chokingTool_17 : decode cX5_chokingTool 17 = .ok (.iload_n 1, 1) := by decide +kernel
theorem dX5_chokingTool_18 : decode cX5_chokingTool 18 = .ok (.iload 4, 2) := by decide +kernel
theorem dX5_chokingTool_20 : decode cX5_chokingTool 20 = .ok (.invokevirtual 78, 3) := by decide +kernel
theorem dX5_chokingTool_23 : decode cX5_chokingTool 23 = .ok (.ifCond .ne 6, 3) := by decide +kernel
theorem dX5_chokingTool_26 : decode cX5_chokingTool 26 = .ok (.goto 28, 3) := by decide +kernel
theorem dX5_chokingTool_29 : decode cX5_chokingTool 29 = .ok (.aload_n 0, 1) := by decide +kernel
theorem dX5_chokingTool_30 : decode cX5_chokingTool 30 = .ok (.iload_n 1, 1) := by decide +kernel
theorem dX5_chokingTool_31 : decode cX5_chokingTool 31 = .ok (.iload 4, 2) := by decide +kernel
theorem dX5_chokingTool_33 : decode cX5_chokingTool 33 = .ok (.invokevirtual 88, 3) := by decide +kernel
theorem dX5_chokingTool_36 : decode cX5_chokingTool 36 = .ok (.istore 5, 2) := by decide +kernel
theorem dX5_chokingTool_38 : decode cX5_chokingTool 38 = .ok (.iload_n 2, 1) := by decide +kernel
theorem dX5_chokingTool_39 : decode cX5_chokingTool 39 = .ok (.ifCond .lt 9, 3) := by decide +kernel
theorem dX5_chokingTool_42 : decode cX5_chokingTool 42 = .ok (.iload 5, 2) := by decide +kernel
theorem dX5_chokingTool_44 : decode cX5_chokingTool 44 = .ok (.iload_n 3, 1) := by decide +kernel
theorem dX5_chokingTool_45 : decode cX5_chokingTool 45 = .ok (.if_icmp .ge 9, 3) := by decide +kernel
theorem dX5_chokingTool_48 : decode cX5_chokingTool 48 = .ok (.iload 4, 2) := by decide +kernel
theorem dX5_chokingTool_50 : decode cX5_chokingTool 50 = .ok (.istore_n 2, 1) := by decide +kernel
theorem dX5_chokingTool_51 : decode cX5_chokingTool 51 = .ok (.iload 5, 2) := by decide +kernel
theorem dX5_chokingTool_53 : decode cX5_chokingTool 53 = .ok (.istore_n 3, 1) := by decide +kernel
theorem dX5_chokingTool_54 : decode cX5_chokingTool 54 = .ok (.iinc 4 1, 3) := by decide +kernel
theorem dX5_chokingTool_57 : decode cX5_chokingTool 57 = .ok (.goto (-50), 3) := by decide +kernel
theorem dX5_chokingTool_60 : decode cX5_chokingTool 60 = .ok (.iload_n 2, 1) := by decide +kernel
theorem dX5_chokingTool_61 : decode cX5_chokingTool 61 = .ok (.ireturn, 1) := by decide +kernel
theorem dX5_heldSpots_0 : decode cX5_heldSpots 0 = .ok (.iconst 0, 1) := by decide +kernel
theorem dX5_heldSpots_1 : decode cX5_heldSpots 1 = .ok (.istore_n 1, 1) := by decide +kernel
theorem dX5_heldSpots_2 : decode cX5_heldSpots 2 = .ok (.iconst 0, 1) := by decide +kernel
theorem dX5_heldSpots_3 : decode cX5_heldSpots 3 = .ok (.istore_n 2, 1) := by decide +kernel
theorem dX5_heldSpots_4 : decode cX5_heldSpots 4 = .ok (.iload_n 2, 1) := by decide +kernel
theorem dX5_heldSpots_5 : decode cX5_heldSpots 5 = .ok (.bipush 10, 2) := by decide +kernel
theorem dX5_heldSpots_7 : decode cX5_heldSpots 7 = .ok (.if_icmp .ge 21, 3) := by decide +kernel
theorem dX5_heldSpots_10 : decode cX5_heldSpots 10 = .ok (.aload_n 0, 1) := by decide +kernel
theorem dX5_heldSpots_11 : decode cX5_heldSpots 11 = .ok (.getfield 46, 3) := by decide +kernel
theorem dX5_heldSpots_14 : decode cX5_heldSpots 14 = .ok (.iload_n 2, 1) := by decide +kernel
theorem dX5_heldSpots_15 : decode cX5_heldSpots 15 = .ok (.iaload, 1) := by decide +kernel
theorem dX5_heldSpots_16 : decode cX5_heldSpots 16 = .ok (.ifCond .lt 6, 3) := by decide +kernel
theorem dX5_heldSpots_19 : decode cX5_heldSpots 19 = .ok (.iinc 1 1, 3) := by decide +kernel
theorem dX5_heldSpots_22 : decode cX5_heldSpots 22 = .ok (.iinc 2 1, 3) := by decide +kernel
theorem dX5_heldSpots_25 : decode cX5_heldSpots 25 = .ok (.goto (-21), 3) := by decide +kernel
theorem dX5_heldSpots_28 : decode cX5_heldSpots 28 = .ok (.iload_n 1, 1) := by decide +kernel
theorem dX5_heldSpots_29 : decode cX5_heldSpots 29 = .ok (.ireturn, 1) := by decide +kernel
theorem dX5_draw_0 : decode cX5_draw 0 = .ok (.aload_n 0, 1) := by decide +kernel
theorem dX5_draw_1 : decode cX5_draw 1 = .ok (.aload_n 0, 1) := by decide +kernel
theorem dX5_draw_2 : decode cX5_draw 2 = .ok (.getfield 18, 3) := by decide +kernel
theorem dX5_draw_5 : decode cX5_draw 5 = .ok (.ldc 91, 2) := by decide +kernel
theorem dX5_draw_7 : decode cX5_draw 7 = .ok (.imul, 1) := by decide +kernel
theorem dX5_draw_8 : decode cX5_draw 8 = .ok (.sipush 12345, 3) := by decide +kernel
theorem dX5_draw_11 : decode cX5_draw 11 = .ok (.iadd, 1) := by decide +kernel
theorem dX5_draw_12 : decode cX5_draw 12 = .ok (.putfield 18, 3) := by decide +kernel
theorem dX5_draw_15 : decode cX5_draw 15 = .ok (.aload_n 0, 1) := by decide +kernel
theorem dX5_draw_16 : decode cX5_draw 16 = .ok (.getfield 18, 3) := by decide +kernel
theorem dX5_draw_19 : decode cX5_draw 19 = .ok (.bipush 8, 2) := by decide +kernel
theorem dX5_draw_21 : decode cX5_draw 21 = .ok (.iushr, 1) := by decide +kernel
theorem dX5_draw_22 : decode cX5_draw 22 = .ok (.ireturn, 1) := by decide +kernel
theorem dX6_init_0 : decode cX6_init 0 = .ok (.aload_n 0, 1) := by decide +kernel
theorem dX6_init_1 : decode cX6_init 1 = .ok (.invokespecial 1, 3) := by decide +kernel
theorem dX6_init_4 : decode cX6_init 4 = .ok (.aload_n 0, 1) := by decide +kernel
theorem dX6_init_5 : decode cX6_init 5 = .ok (.new 7, 3) := by decide +kernel
theorem dX6_init_8 : decode cX6_init 8 = .ok (.dup, 1) := by decide +kernel
theorem dX6_init_9 : decode cX6_init 9 = .ok (.invokespecial 9, 3) := by decide +kernel
theorem dX6_init_12 : decode cX6_init 12 = .ok (.putfield 10, 3) := by decide +kernel
theorem dX6_init_15 : decode cX6_init 15 = .ok (.aload_n 0, 1) := by decide +kernel
theorem dX6_init_16 : decode cX6_init 16 = .ok (.new 7, 3) := by decide +kernel
theorem dX6_init_19 : decode cX6_init 19 = .ok (.dup, 1) := by decide +kernel
theorem dX6_init_20 : decode cX6_init 20 = .ok (.invokespecial 9, 3) := by decide +kernel
theorem dX6_init_23 : decode cX6_init 23 = .ok (.putfield 16, 3) := by decide +kernel
theorem dX6_init_26 : decode cX6_init 26 = .ok (.aload_n 0, 1) := by decide +kernel
theorem dX6_init_27 : decode cX6_init 27 = .ok (.new 7, 3) := by decide +kernel
theorem dX6_init_30 : decode cX6_init 30 = .ok (.dup, 1) := by decide +kernel
theorem dX6_init_31 : decode cX6_init 31 = .ok (.invokespecial 9, 3) := by decide +kernel
theorem dX6_init_34 : decode cX6_init 34 = .ok (.putfield 19, 3) := by decide +kernel
theorem dX6_init_37 : decode cX6_init 37 = .ok (.aload_n 0, 1) := by decide +kernel
theorem dX6_init_38 : decode cX6_init 38 = .ok (.new 22, 3) := by decide +kernel
theorem dX6_init_41 : decode cX6_init 41 = .ok (.dup, 1) := by decide +kernel
theorem dX6_init_42 : decode cX6_init 42 = .ok (.invokespecial 24, 3) := by decide +kernel
theorem dX6_init_45 : decode cX6_init 45 = .ok (.putfield 25, 3) := by decide +kernel
theorem dX6_init_48 : decode cX6_init 48 = .ok (.aload_n 0, 1) := by decide +kernel
theorem dX6_init_49 : decode cX6_init 49 = .ok (.new 29, 3) := by decide +kernel
theorem dX6_init_52 : decode cX6_init 52 = .ok (.dup, 1) := by decide +kernel
theorem dX6_init_53 : decode cX6_init 53 = .ok (.aload_n 0, 1) := by decide +kernel
theorem dX6_init_54 : decode cX6_init 54 = .ok (.getfield 10, 3) := by decide +kernel
theorem dX6_init_57 : decode cX6_init 57 = .ok (.invokespecial 31, 3) := by decide +kernel
theorem dX6_init_60 : decode cX6_init 60 = .ok (.putfield 34, 3) := by decide +kernel
theorem dX6_init_63 : decode cX6_init 63 = .ok (.aload_n 0, 1) := by decide +kernel
theorem dX6_init_64 : decode cX6_init 64 = .ok (.new 38, 3) := by decide +kernel
theorem dX6_init_67 : decode cX6_init 67 = .ok (.dup, 1) := by decide +kernel
theorem dX6_init_68 : decode cX6_init 68 = .ok (.aload_n 0, 1) := by decide +kernel
theorem dX6_init_69 : decode cX6_init 69 = .ok (.getfield 10, 3) := by decide +kernel
theorem dX6_init_72 : decode cX6_init 72 = .ok (.aload_n 0, 1) := by decide +kernel
theorem dX6_init_73 : decode cX6_init 73 = .ok (.getfield 34, 3) := by decide +kernel
theorem dX6_init_76 : decode cX6_init 76 = .ok (.invokespecial 40, 3) := by decide +kernel
theorem dX6_init_79 : decode cX6_init 79 = .ok (.putfield 43, 3) := by decide +kernel
theorem dX6_init_82 : decode cX6_init 82 = .ok (.aload_n 0, 1) := by decide +kernel
theorem dX6_init_83 : decode cX6_init 83 = .ok (.new 47, 3) := by decide +kernel
theorem dX6_init_86 : decode cX6_init 86 = .ok (.dup, 1) := by decide +kernel
theorem dX6_init_87 : decode cX6_init 87 = .ok (.aload_n 0, 1) := by decide +kernel
theorem dX6_init_88 : decode cX6_init 88 = .ok (.getfield 25, 3) := by decide +kernel
theorem dX6_init_91 : decode cX6_init 91 = .ok (.aload_n 0, 1) := by decide +kernel
theorem dX6_init_92 : decode cX6_init 92 = .ok (.getfield 10, 3) := by decide +kernel
theorem dX6_init_95 : decode cX6_init 95 = .ok (.invokespecial 49, 3) := by decide +kernel
theorem dX6_init_98 : decode cX6_init 98 = .ok (.putfield 52, 3) := by decide +kernel
theorem dX6_init_101 : decode cX6_init 101 = .ok (.aload_n 0, 1) := by decide +kernel
theorem dX6_init_102 : decode cX6_init 102 = .ok (.iconst 4, 1) := by decide +kernel
theorem dX6_init_103 : decode cX6_init 103 = .ok (.anewarray 56, 3) := by decide +kernel
theorem dX6_init_106 : decode cX6_init 106 = .ok (.putfield 58, 3) := by decide +kernel
theorem dX6_init_109 : decode cX6_init 109 = .ok (.aload_n 0, 1) := by decide +kernel
theorem dX6_init_110 : decode cX6_init 110 = .ok (.bipush 7, 2) := by decide +kernel
theorem dX6_init_112 : decode cX6_init 112 = .ok (.newarray .int, 2) := by decide +kernel
theorem dX6_init_114 : decode cX6_init 114 = .ok (.putfield 62, 3) := by decide +kernel
theorem dX6_init_117 : decode cX6_init 117 = .ok (.aload_n 0, 1) := by decide +kernel
theorem dX6_init_118 : decode cX6_init 118 = .ok (.iconst 0, 1) := by decide +kernel
theorem dX6_init_119 : decode cX6_init 119 = .ok (.putfield 66, 3) := by decide +kernel
theorem dX6_init_122 : decode cX6_init 122 = .ok (.iconst 0, 1) := by decide +kernel
theorem dX6_init_123 : decode cX6_init 123 = .ok (.istore_n 1, 1) := by decide +kernel
theorem dX6_init_124 : decode cX6_init 124 = .ok (.iload_n 1, 1) := by decide +kernel
theorem dX6_init_125 : decode cX6_init 125 = .ok (.iconst 4, 1) := by decide +kernel
theorem dX6_init_126 : decode cX6_init 126 = .ok (.if_icmp .ge 22, 3) := by decide +kernel
theorem dX6_init_129 : decode cX6_init 129 = .ok (.aload_n 0, 1) := by decide +kernel
theorem dX6_init_130 : decode cX6_init 130 = .ok (.getfield 58, 3) := by decide +kernel
theorem dX6_init_133 : decode cX6_init 133 = .ok (.iload_n 1, 1) := by decide +kernel
theorem dX6_init_134 : decode cX6_init 134 = .ok (.new 56, 3) := by decide +kernel
theorem dX6_init_137 : decode cX6_init 137 = .ok (.dup, 1) := by decide +kernel
theorem dX6_init_138 : decode cX6_init 138 = .ok (.invokespecial 70, 3) := by decide +kernel
theorem dX6_init_141 : decode cX6_init 141 = .ok (.aastore, 1) := by decide +kernel
theorem dX6_init_142 : decode cX6_init 142 = .ok (.iinc 1 1, 3) := by decide +kernel
theorem dX6_init_145 : decode cX6_init 145 = .ok (.goto (-21), 3) := by decide +kernel
theorem dX6_init_148 : decode cX6_init 148 = .ok (.return_, 1) := by decide +kernel
theorem dX6_feed_0 : decode cX6_feed 0 = .ok (.iload_n 2, 1) := by decide +kernel
theorem dX6_feed_1 : decode cX6_feed 1 = .ok (.iconst 1, 1) := by decide +kernel
theorem dX6_feed_2 : decode cX6_feed 2 = .ok (.iconst 4, 1) := by decide +kernel
theorem dX6_feed_3 : decode cX6_feed 3 = .ok (.invokestatic 71, 3) := by decide +kernel
theorem dX6_feed_6 : decode cX6_feed 6 = .ok (.ifCond .ne 9, 3) := by decide +kernel
theorem dX6_feed_9 : decode cX6_feed 9 = .ok (.aload_n 0, 1) := by decide +kernel
theorem dX6_feed_10 : decode cX6_feed 10 = .ok (.iconst 0, 1) := by decide +kernel
theorem dX6_feed_11 : decode cX6_feed 11 = .ok (.invokevirtual 75, 3) := by decide +kernel
theorem dX6_feed_14 : decode cX6_feed 14 = .ok (.ireturn, 1) := by decide +kernel
theorem dX6_feed_15 : decode cX6_feed 15 = .ok (.aload_n 0, 1) := by decide +kernel
theorem dX6_feed_16 : decode cX6_feed 16 = .ok (.getfield 25, 3) := by decide +kernel
theorem dX6_feed_19 : decode cX6_feed 19 = .ok (.getfield 79, 3) := by decide +kernel
theorem dX6_feed_22 : decode cX6_feed 22 = .ok (.iload_n 2, 1) := by decide +kernel
theorem dX6_feed_23 : decode cX6_feed 23 = .ok (.iadd, 1) := by decide +kernel
theorem dX6_feed_24 : decode cX6_feed 24 = .ok (.bipush 120, 2) := by decide +kernel
theorem dX6_feed_26 : decode cX6_feed 26 = .ok (.if_icmp .le 9, 3) := by decide +kernel
theorem dX6_feed_29 : decode cX6_feed 29 = .ok (.aload_n 0, 1) := by decide +kernel
theorem dX6_feed_30 : decode cX6_feed 30 = .ok (.iconst 1, 1) := by decide +kernel
theorem dX6_feed_31 : decode cX6_feed 31 = .ok (.invokevirtual 75, 3) := by decide +kernel
theorem dX6_feed_34 : decode cX6_feed 34 = .ok (.ireturn, 1) := by decide +kernel
theorem dX6_feed_35 : decode cX6_feed 35 = .ok (.aload_n 0, 1) := by decide +kernel
theorem dX6_feed_36 : decode cX6_feed 36 = .ok (.getfield 25, 3) := by decide +kernel
theorem dX6_feed_39 : decode cX6_feed 39 = .ok (.iload_n 1, 1) := by decide +kernel
theorem dX6_feed_40 : decode cX6_feed 40 = .ok (.iload_n 2, 1) := by decide +kernel
theorem dX6_feed_41 : decode cX6_feed 41 = .ok (.invokevirtual 83, 3) := by decide +kernel
theorem dX6_feed_44 : decode cX6_feed 44 = .ok (.aload_n 0, 1) := by decide +kernel
theorem dX6_feed_45 : decode cX6_feed 45 = .ok (.getfield 25, 3) := by decide +kernel
theorem dX6_feed_48 : decode cX6_feed 48 = .ok (.getfield 79, 3) := by decide +kernel
theorem dX6_feed_51 : decode cX6_feed 51 = .ok (.ireturn, 1) := by decide +kernel
theorem dX6_wipe_0 : decode cX6_wipe 0 = .ok (.aload_n 0, 1) := by decide +kernel
theorem dX6_wipe_1 : decode cX6_wipe 1 = .ok (.getfield 25, 3) := by decide +kernel
theorem dX6_wipe_4 : decode cX6_wipe 4 = .ok (.getfield 79, 3) := by decide +kernel
theorem dX6_wipe_7 : decode cX6_wipe 7 = .ok (.istore_n 1, 1) := by decide +kernel
theorem dX6_wipe_8 : decode cX6_wipe 8 = .ok (.aload_n 0, 1) := by decide +kernel
theorem dX6_wipe_9 : decode cX6_wipe 9 = .ok (.getfield 25, 3) := by decide +kernel
theorem dX6_wipe_12 : decode cX6_wipe 12 = .ok (.iconst 0, 1) := by decide +kernel
theorem dX6_wipe_13 : decode cX6_wipe 13 = .ok (.putfield 79, 3) := by decide +kernel
theorem dX6_wipe_16 : decode cX6_wipe 16 = .ok (.iload_n 1, 1) := by decide +kernel
theorem dX6_wipe_17 : decode cX6_wipe 17 = .ok (.ireturn, 1) := by decide +kernel
theorem dX6_town_0 : decode cX6_town 0 = .ok (.aload_n 0, 1) := by decide +kernel
theorem dX6_town_1 : decode cX6_town 1 = .ok (.getfield 19, 3) := by decide +kernel
theorem dX6_town_4 : decode cX6_town 4 = .ok (.aload_n 0, 1) := by decide +kernel
theorem dX6_town_5 : decode cX6_town 5 = .ok (.getfield 10, 3) := by decide +kernel
theorem dX6_town_8 : decode cX6_town 8 = .ok (.invokevirtual 87, 3) := by decide +kernel
theorem dX6_town_11 : decode cX6_town 11 = .ok (.aload_n 0, 1) := by decide +kernel
theorem dX6_town_12 : decode cX6_town 12 = .ok (.getfield 52, 3) := by decide +kernel
theorem dX6_town_15 : decode cX6_town 15 = .ok (.invokevirtual 90, 3) := by decide +kernel
theorem dX6_town_18 : decode cX6_town 18 = .ok (.istore_n 1, 1) := by decide +kernel
theorem dX6_town_19 : decode cX6_town 19 = .ok (.iload_n 1, 1) := by decide +kernel
theorem dX6_town_20 : decode cX6_town 20 = .ok (.ifCond .ge 14, 3) := by decide +kernel
theorem dX6_town_23 : decode cX6_town 23 = .ok (.aload_n 0, 1) := by decide +kernel
theorem dX6_town_24 : decode cX6_town 24 = .ok (.getfield 10, 3) := by decide +kernel
theorem dX6_town_27 : decode cX6_town 27 = .ok (.aload_n 0, 1) := by decide +kernel
theorem dX6_town_28 : decode cX6_town 28 = .ok (.getfield 19, 3) := by decide +kernel
theorem dX6_town_31 : decode cX6_town 31 = .ok (.invokevirtual 87, 3) := by decide +kernel
theorem dX6_town_34 : decode cX6_town 34 = .ok (.aload_n 0, 1) := by decide +kernel
theorem dX6_town_35 : decode cX6_town 35 = .ok (.getfield 25, 3) := by decide +kernel
theorem dX6_town_38 : decode cX6_town 38 = .ok (.iconst 0, 1) := by decide +kernel
theorem dX6_town_39 : decode cX6_town 39 = .ok (.putfield 79, 3) := by decide +kernel
theorem dX6_town_42 : decode cX6_town 42 = .ok (.iload_n 1, 1) := by decide +kernel
theorem dX6_town_43 : decode cX6_town 43 = .ok (.ireturn, 1) := by decide +kernel
theorem dX6_round_0 : decode cX6_round 0 = .ok (.iload_n 1, 1) := by decide +kernel
theorem dX6_round_1 : decode cX6_round 1 = .ok (.iconst 1, 1) := by decide +kernel
theorem dX6_round_2 : decode cX6_round 2 = .ok (.bipush 12, 2) := by decide +kernel
theorem dX6_round_4 : decode cX6_round 4 = .ok (.invokestatic 71, 3) := by decide +kernel
theorem dX6_round_7 : decode cX6_round 7 = .ok (.ifCond .ne 9, 3) := by decide +kernel
theorem dX6_round_10 : decode cX6_round 10 = .ok (.aload_n 0, 1) := by decide +kernel
theorem dX6_round_11 : decode cX6_round 11 = .ok (.iconst 0, 1) := by decide +kernel
theorem dX6_round_12 : decode cX6_round 12 = .ok (.invokevirtual 75, 3) := by decide +kernel
theorem dX6_round_15 : decode cX6_round 15 = .ok (.ireturn, 1) := by decide +kernel
theorem dX6_round_16 : decode cX6_round 16 = .ok (.aload_n 0, 1) := by decide +kernel
theorem dX6_round_17 : decode cX6_round 17 = .ok (.getfield 10, 3) := by decide +kernel
theorem dX6_round_20 : decode cX6_round 20 = .ok (.getfield 94, 3) := by decide +kernel
theorem dX6_round_23 : decode cX6_round 23 = .ok (.istore_n 2, 1) := by decide +kernel
theorem dX6_round_24 : decode cX6_round 24 = .ok (.aload_n 0, 1) := by decide +kernel
theorem dX6_round_25 : decode cX6_round 25 = .ok (.getfield 10, 3) := by decide +kernel
theorem dX6_round_28 : decode cX6_round 28 = .ok (.iload_n 1, 1) := by decide +kernel
theorem dX6_round_29 : decode cX6_round 29 = .ok (.putfield 94, 3) := by decide +kernel
theorem dX6_round_32 : decode cX6_round 32 = .ok (.iload_n 2, 1) := by decide +kernel
theorem dX6_round_33 : decode cX6_round 33 = .ok (.ireturn, 1) := by decide +kernel
theorem dX6_near_0 : decode cX6_near 0 = .ok (.iload_n 1, 1) := by decide +kernel
theorem dX6_near_1 : decode cX6_near 1 = .ok (.iconst (-1), 1) := by decide +kernel
theorem dX6_near_2 : decode cX6_near 2 = .ok (.bipush 11, 2) := by decide +kernel
theorem dX6_near_4 : decode cX6_near 4 = .ok (.invokestatic 71, 3) := by decide +kernel
theorem dX6_near_7 : decode cX6_near 7 = .ok (.ifCond .ne 9, 3) := by decide +kernel
theorem dX6_near_10 : decode cX6_near 10 = .ok (.aload_n 0, 1) := by decide +kernel
theorem dX6_near_11 : decode cX6_near 11 = .ok (.iconst 0, 1) := by decide +kernel
theorem dX6_near_12 : decode cX6_near 12 = .ok (.invokevirtual 75, 3) := by decide +kernel
theorem dX6_near_15 : decode cX6_near 15 = .ok (.ireturn, 1) := by decide +kernel
theorem dX6_near_16 : decode cX6_near 16 = .ok (.aload_n 0, 1) := by decide +kernel
theorem dX6_near_17 : decode cX6_near 17 = .ok (.getfield 10, 3) := by decide +kernel
theorem dX6_near_20 : decode cX6_near 20 = .ok (.getfield 97, 3) := by decide +kernel
theorem dX6_near_23 : decode cX6_near 23 = .ok (.istore_n 2, 1) := by decide +kernel
theorem dX6_near_24 : decode cX6_near 24 = .ok (.aload_n 0, 1) := by decide +kernel
theorem dX6_near_25 : decode cX6_near 25 = .ok (.getfield 10, 3) := by decide +kernel
theorem dX6_near_28 : decode cX6_near 28 = .ok (.iload_n 1, 1) := by decide +kernel
theorem dX6_near_29 : decode cX6_near 29 = .ok (.putfield 97, 3) := by decide +kernel
theorem dX6_near_32 : decode cX6_near 32 = .ok (.iload_n 2, 1) := by decide +kernel
theorem dX6_near_33 : decode cX6_near 33 = .ok (.ireturn, 1) := by decide +kernel
theorem dX6_tool_0 : decode cX6_tool 0 = .ok (.iload_n 1, 1) := by decide +kernel
theorem dX6_tool_1 : decode cX6_tool 1 = .ok (.iconst 0, 1) := by decide +kernel
theorem dX6_tool_2 : decode cX6_tool 2 = .ok (.sipush 4095, 3) := by decide +kernel
theorem dX6_tool_5 : decode cX6_tool 5 = .ok (.invokestatic 71, 3) := by decide +kernel
theorem dX6_tool_8 : decode cX6_tool 8 = .ok (.ifCond .ne 9, 3) := by decide +kernel
theorem dX6_tool_11 : decode cX6_tool 11 = .ok (.aload_n 0, 1) := by decide +kernel
theorem dX6_tool_12 : decode cX6_tool 12 = .ok (.iconst 0, 1) := by decide +kernel
theorem dX6_tool_13 : decode cX6_tool 13 = .ok (.invokevirtual 75, 3) := by decide +kernel
theorem dX6_tool_16 : decode cX6_tool 16 = .ok (.ireturn, 1) := by decide +kernel
theorem dX6_tool_17 : decode cX6_tool 17 = .ok (.aload_n 0, 1) := by decide +kernel
theorem dX6_tool_18 : decode cX6_tool 18 = .ok (.getfield 10, 3) := by decide +kernel
theorem dX6_tool_21 : decode cX6_tool 21 = .ok (.getfield 100, 3) := by decide +kernel
theorem dX6_tool_24 : decode cX6_tool 24 = .ok (.bipush 8, 2) := by decide +kernel
theorem dX6_tool_26 : decode cX6_tool 26 = .ok (.if_icmp .lt 9, 3) := by decide +kernel
theorem dX6_tool_29 : decode cX6_tool 29 = .ok (.aload_n 0, 1) := by decide +kernel
theorem dX6_tool_30 : decode cX6_tool 30 = .ok (.iconst 1, 1) := by decide +kernel
theorem dX6_tool_31 : decode cX6_tool 31 = .ok (.invokevirtual 75, 3) := by decide +kernel
theorem dX6_tool_34 : decode cX6_tool 34 = .ok (.ireturn, 1) := by decide +kernel
theorem dX6_tool_35 : decode cX6_tool 35 = .ok (.aload_n 0, 1) := by decide +kernel
theorem dX6_tool_36 : decode cX6_tool 36 = .ok (.getfield 10, 3) := by decide +kernel
theorem dX6_tool_39 : decode cX6_tool 39 = .ok (.iload_n 1, 1) := by decide +kernel
theorem dX6_tool_40 : decode cX6_tool 40 = .ok (.invokevirtual 103, 3) := by decide +kernel
theorem dX6_tool_43 : decode cX6_tool 43 = .ok (.ireturn, 1) := by decide +kernel
theorem dX6_days_0 : decode cX6_days 0 = .ok (.aload_n 0, 1) := by decide +kernel
theorem dX6_days_1 : decode cX6_days 1 = .ok (.getfield 10, 3) := by decide +kernel
theorem dX6_days_4 : decode cX6_days 4 = .ok (.iload_n 1, 1) := by decide +kernel
theorem dX6_days_5 : decode cX6_days 5 = .ok (.invokevirtual 106, 3) := by decide +kernel
theorem dX6_days_8 : decode cX6_days 8 = .ok (.ifCond .eq 14, 3) := by decide +kernel
theorem dX6_days_11 : decode cX6_days 11 = .ok (.iload_n 2, 1) := by decide +kernel
theorem dX6_days_12 : decode cX6_days 12 = .ok (.iconst 0, 1) := by decide +kernel
theorem dX6_days_13 : decode cX6_days 13 = .ok (.sipush 4095, 3) := by decide +kernel
theorem dX6_days_16 : decode cX6_days 16 = .ok (.invokestatic 71, 3) := by decide +kernel
theorem dX6_days_19 : decode cX6_days 19 = .ok (.ifCond .ne 9, 3) := by decide +kernel
theorem dX6_days_22 : decode cX6_days 22 = .ok (.aload_n 0, 1) := by decide +kernel
theorem dX6_days_23 : decode cX6_days 23 = .ok (.iconst 0, 1) := by decide +kernel
theorem dX6_days_24 : decode cX6_days 24 = .ok (.invokevirtual 75, 3) := by decide +kernel
theorem dX6_days_27 : decode cX6_days 27 = .ok (.ireturn, 1) := by decide +kernel
theorem dX6_days_28 : decode cX6_days 28 = .ok (.aload_n 0, 1) := by decide +kernel
theorem dX6_days_29 : decode cX6_days 29 = .ok (.getfield 10, 3) := by decide +kernel
theorem dX6_days_32 : decode cX6_days 32 = .ok (.getfield 110, 3) := by decide +kernel
theorem dX6_days_35 : decode cX6_days 35 = .ok (.iload_n 1, 1) := by decide +kernel
theorem dX6_days_36 : decode cX6_days 36 = .ok (.iaload, 1) := by decide +kernel
theorem dX6_days_37 : decode cX6_days 37 = .ok (.istore_n 3, 1) := by decide +kernel
theorem dX6_days_38 : decode cX6_days 38 = .ok (.aload_n 0, 1) := by decide +kernel
theorem dX6_days_39 : decode cX6_days 39 = .ok (.getfield 10, 3) := by decide +kernel
theorem dX6_days_42 : decode cX6_days 42 = .ok (.getfield 110, 3) := by decide +kernel
theorem dX6_days_45 : decode cX6_days 45 = .ok (.iload_n 1, 1) := by decide +kernel
theorem dX6_days_46 : decode cX6_days 46 = .ok (.iload_n 2, 1) := by decide +kernel
theorem dX6_days_47 : decode cX6_days 47 = .ok (.iastore, 1) := by decide +kernel
theorem dX6_days_48 : decode cX6_days 48 = .ok (.iload_n 3, 1) := by decide +kernel
theorem dX6_days_49 : decode cX6_days 49 = .ok (.ireturn, 1) := by decide +kernel
theorem dX6_may_0 : decode cX6_may 0 = .ok (.aload_n 0, 1) := by decide +kernel
theorem dX6_may_1 : decode cX6_may 1 = .ok (.getfield 10, 3) := by decide +kernel
theorem dX6_may_4 : decode cX6_may 4 = .ok (.iload_n 1, 1) := by decide +kernel
theorem dX6_may_5 : decode cX6_may 5 = .ok (.invokevirtual 106, 3) := by decide +kernel
theorem dX6_may_8 : decode cX6_may 8 = .ok (.ifCond .eq 14, 3) := by decide +kernel
theorem dX6_may_11 : decode cX6_may 11 = .ok (.iload_n 2, 1) := by decide +kernel
theorem dX6_may_12 : decode cX6_may 12 = .ok (.iconst 0, 1) := by decide +kernel
theorem dX6_may_13 : decode cX6_may 13 = .ok (.sipush 999, 3) := by decide +kernel
theorem dX6_may_16 : decode cX6_may 16 = .ok (.invokestatic 71, 3) := by decide +kernel
theorem dX6_may_19 : decode cX6_may 19 = .ok (.ifCond .ne 9, 3) := by decide +kernel
theorem dX6_may_22 : decode cX6_may 22 = .ok (.aload_n 0, 1) := by decide +kernel
theorem dX6_may_23 : decode cX6_may 23 = .ok (.iconst 0, 1) := by decide +kernel
theorem dX6_may_24 : decode cX6_may 24 = .ok (.invokevirtual 75, 3) := by decide +kernel
theorem dX6_may_27 : decode cX6_may 27 = .ok (.ireturn, 1) := by decide +kernel
theorem dX6_may_28 : decode cX6_may 28 = .ok (.aload_n 0, 1) := by decide +kernel
theorem dX6_may_29 : decode cX6_may 29 = .ok (.getfield 34, 3) := by decide +kernel
theorem dX6_may_32 : decode cX6_may 32 = .ok (.iload_n 1, 1) := by decide +kernel
theorem dX6_may_33 : decode cX6_may 33 = .ok (.iload_n 2, 1) := by decide +kernel
theorem dX6_may_34 : decode cX6_may 34 = .ok (.iconst 0, 1) := by decide +kernel
theorem dX6_may_35 : decode cX6_may 35 = .ok (.invokevirtual 113, 3) := by decide +kernel
theorem dX6_may_38 : decode cX6_may 38 = .ok (.iload_n 2, 1) := by decide +kernel
theorem dX6_may_39 : decode cX6_may 39 = .ok (.if_icmp .ne 5, 3) := by decide +kernel
theorem dX6_may_42 : decode cX6_may 42 = .ok (.iconst 2, 1) := by decide +kernel
theorem dX6_may_43 : decode cX6_may 43 = .ok (.ireturn, 1) := by decide +kernel
theorem dX6_may_44 : decode cX6_may 44 = .ok (.aload_n 0, 1) := by decide +kernel
theorem dX6_may_45 : decode cX6_may 45 = .ok (.getfield 10, 3) := by decide +kernel
theorem dX6_may_48 : decode cX6_may 48 = .ok (.getfield 97, 3) := by decide +kernel
theorem dX6_may_51 : decode cX6_may 51 = .ok (.ifCond .lt 27, 3) := by decide +kernel
theorem dX6_may_54 : decode cX6_may 54 = .ok (.aload_n 0, 1) := by decide +kernel
theorem dX6_may_55 : decode cX6_may 55 = .ok (.getfield 34, 3) := by decide +kernel
theorem dX6_may_58 : decode cX6_may 58 = .ok (.iload_n 1, 1) := by decide +kernel
theorem dX6_may_59 : decode cX6_may 59 = .ok (.iload_n 2, 1) := by decide +kernel
theorem dX6_may_60 : decode cX6_may 60 = .ok (.aload_n 0, 1) := by decide +kernel
theorem dX6_may_61 : decode cX6_may 61 = .ok (.getfield 10, 3) := by decide +kernel
theorem dX6_may_64 : decode cX6_may 64 = .ok (.getfield 97, 3) := by decide +kernel
theorem dX6_may_67 : decode cX6_may 67 = .ok (.invokevirtual 113, 3) := by decide +kernel
theorem dX6_may_70 : decode cX6_may 70 = .ok (.iload_n 2, 1) := by decide +kernel
theorem dX6_may_71 : decode cX6_may 71 = .ok (.if_icmp .ne 7, 3) := by decide +kernel
theorem dX6_may_74 : decode cX6_may 74 = .ok (.iconst 1, 1) := by decide +kernel
theorem dX6_may_75 : decode cX6_may 75 = .ok (.goto 4, 3) := by decide +kernel
theorem dX6_may_78 : decode cX6_may 78 = .ok (.iconst 0, 1) := by decide +kernel
theorem dX6_may_79 : decode cX6_may 79 = .ok (.ireturn, 1) := by decide +kernel
theorem dX6_thing_0 : decode cX6_thing 0 = .ok (.iload_n 1, 1) := by decide +kernel
theorem dX6_thing_1 : decode cX6_thing 1 = .ok (.iconst 0, 1) := by decide +kernel
theorem dX6_thing_2 : decode cX6_thing 2 = .ok (.bipush 6, 2) := by decide +kernel
theorem dX6_thing_4 : decode cX6_thing 4 = .ok (.invokestatic 71, 3) := by decide +kernel
theorem dX6_thing_7 : decode cX6_thing 7 = .ok (.ifCond .eq 24, 3) := by decide +kernel
theorem dX6_thing_10 : decode cX6_thing 10 = .ok (.aload_n 0, 1) := by decide +kernel
theorem dX6_thing_11 : decode cX6_thing 11 = .ok (.getfield 10, 3) := by decide +kernel
theorem dX6_thing_14 : decode cX6_thing 14 = .ok (.iload_n 2, 1) := by decide +kernel
theorem dX6_thing_15 : decode cX6_thing 15 = .ok (.invokevirtual 106, 3) := by decide +kernel
theorem dX6_thing_18 : decode cX6_thing 18 = .ok (.ifCond .eq 13, 3) := by decide +kernel
theorem dX6_thing_21 : decode cX6_thing 21 = .ok (.iload_n 3, 1) := by decide +kernel
theorem dX6_thing_22 : decode cX6_thing 22 = .ok (.iconst 1, 1) := by decide +kernel
theorem dX6_thing_23 : decode cX6_thing 23 = .ok (.bipush 8, 2) := by decide +kernel
theorem dX6_thing_25 : decode cX6_thing 25 = .ok (.invokestatic 71, 3) := by decide +kernel
theorem dX6_thing_28 : decode cX6_thing 28 = .ok (.ifCond .ne 9, 3) := by decide +kernel
theorem dX6_thing_31 : decode cX6_thing 31 = .ok (.aload_n 0, 1) := by decide +kernel
theorem dX6_thing_32 : decode cX6_thing 32 = .ok (.iconst 0, 1) := by decide +kernel
theorem dX6_thing_33 : decode cX6_thing 33 = .ok (.invokevirtual 75, 3) := by decide +kernel
theorem dX6_thing_36 : decode cX6_thing 36 = .ok (.ireturn, 1) := by decide +kernel
theorem dX6_thing_37 : decode cX6_thing 37 = .ok (.aload_n 0, 1) := by decide +kernel
theorem dX6_thing_38 : decode cX6_thing 38 = .ok (.getfield 10, 3) := by decide +kernel
theorem dX6_thing_41 : decode cX6_thing 41 = .ok (.getfield 117, 3) := by decide +kernel
theorem dX6_thing_44 : decode cX6_thing 44 = .ok (.bipush 8, 2) := by decide +kernel
theorem dX6_thing_46 : decode cX6_thing 46 = .ok (.if_icmp .lt 9, 3) := by decide +kernel
theorem dX6_thing_49 : decode cX6_thing 49 = .ok (.aload_n 0, 1) := by decide +kernel
theorem dX6_thing_50 : decode cX6_thing 50 = .ok (.iconst 1, 1) := by decide +kernel
theorem dX6_thing_51 : decode cX6_thing 51 = .ok (.invokevirtual 75, 3) := by decide +kernel
theorem dX6_thing_54 : decode cX6_thing 54 = .ok (.ireturn, 1) := by decide +kernel
theorem dX6_thing_55 : decode cX6_thing 55 = .ok (.aload_n 0, 1) := by decide +kernel
theorem dX6_thing_56 : decode cX6_thing 56 = .ok (.getfield 10, 3) := by decide +kernel
theorem dX6_thing_59 : decode cX6_thing 59 = .ok (.iload_n 1, 1) := by decide +kernel
theorem dX6_thing_60 : decode cX6_thing 60 = .ok (.invokevirtual 120, 3) := by decide +kernel
theorem dX6_thing_63 : decode cX6_thing 63 = .ok (.istore 4, 2) := by decide +kernel
theorem dX6_thing_65 : decode cX6_thing 65 = .ok (.aload_n 0, 1) := by decide +kernel
theorem dX6_thing_66 : decode cX6_thing 66 = .ok (.getfield 10, 3) := by decide +kernel
theorem dX6_thing_69 : decode cX6_thing 69 = .ok (.iload 4, 2) := by decide +kernel
theorem dX6_thing_71 : decode cX6_thing 71 = .ok (.iload_n 2, 1) := by decide +kernel
theorem dX6_thing_72 : decode cX6_thing 72 = .ok (.iload_n 3, 1) := by decide +kernel
theorem dX6_thing_73 : decode cX6_thing 73 = .ok (.bipush 99, 2) := by decide +kernel
theorem dX6_thing_75 : decode cX6_thing 75 = .ok (.invokevirtual 123, 3) := by decide +kernel
theorem dX6_thing_78 : decode cX6_thing 78 = .ok (.pop, 1) := by decide +kernel
theorem dX6_thing_79 : decode cX6_thing 79 = .ok (.iload 4, 2) := by decide +kernel
theorem dX6_thing_81 : decode cX6_thing 81 = .ok (.ireturn, 1) := by decide +kernel
theorem dX6_step_0 : decode cX6_step 0 = .ok (.aload_n 0, 1) := by decide +kernel
theorem dX6_step_1 : decode cX6_step 1 = .ok (.getfield 10, 3) := by decide +kernel
theorem dX6_step_4 : decode cX6_step 4 = .ok (.iload_n 1, 1) := by decide +kernel
theorem dX6_step_5 : decode cX6_step 5 = .ok (.invokevirtual 127, 3) := by decide +kernel
theorem dX6_step_8 : decode cX6_step 8 = .ok (.ifCond .eq 35, 3) := by decide +kernel
theorem dX6_step_11 : decode cX6_step 11 = .ok (.aload_n 0, 1) := by decide +kernel
theorem dX6_step_12 : decode cX6_step 12 = .ok (.getfield 10, 3) := by decide +kernel
theorem dX6_step_15 : decode cX6_step 15 = .ok (.iload_n 2, 1) := by decide +kernel
theorem dX6_step_16 : decode cX6_step 16 = .ok (.invokevirtual 106, 3) := by decide +kernel
theorem dX6_step_19 : decode cX6_step 19 = .ok (.ifCond .eq 24, 3) := by decide +kernel
theorem dX6_step_22 : decode cX6_step 22 = .ok (.iload_n 3, 1) := by decide +kernel
theorem dX6_step_23 : decode cX6_step 23 = .ok (.iconst 1, 1) := by decide +kernel
theorem dX6_step_24 : decode cX6_step 24 = .ok (.bipush 8, 2) := by decide +kernel
theorem dX6_step_26 : decode cX6_step 26 = .ok (.invokestatic 71, 3) := by decide +kernel
theorem dX6_step_29 : decode cX6_step 29 = .ok (.ifCond .eq 14, 3) := by decide +kernel
theorem dX6_step_32 : decode cX6_step 32 = .ok (.iload 4, 2) := by decide +kernel
theorem dX6_step_34 : decode cX6_step 34 = .ok (.iconst 0, 1) := by decide +kernel
theorem dX6_step_35 : decode cX6_step 35 = .ok (.bipush 99, 2) := by decide +kernel
theorem dX6_step_37 : decode cX6_step 37 = .ok (.invokestatic 71, 3) := by decide +kernel
theorem dX6_step_40 : decode cX6_step 40 = .ok (.ifCond .ne 9, 3) := by decide +kernel
theorem dX6_step_43 : decode cX6_step 43 = .ok (.aload_n 0, 1) := by decide +kernel
theorem dX6_step_44 : decode cX6_step 44 = .ok (.iconst 0, 1) := by decide +kernel
theorem dX6_step_45 : decode cX6_step 45 = .ok (.invokevirtual 75, 3) := by decide +kernel
theorem dX6_step_48 : decode cX6_step 48 = .ok (.ireturn, 1) := by decide +kernel
theorem dX6_step_49 : decode cX6_step 49 = .ok (.aload_n 0, 1) := by decide +kernel
theorem dX6_step_50 : decode cX6_step 50 = .ok (.getfield 10, 3) := by decide +kernel
theorem dX6_step_53 : decode cX6_step 53 = .ok (.getfield 130, 3) := by decide +kernel
theorem dX6_step_56 : decode cX6_step 56 = .ok (.iload_n 1, 1) := by decide +kernel
theorem dX6_step_57 : decode cX6_step 57 = .ok (.iaload, 1) := by decide +kernel
theorem dX6_step_58 : decode cX6_step 58 = .ok (.bipush 8, 2) := by decide +kernel
theorem dX6_step_60 : decode cX6_step 60 = .ok (.if_icmp .lt 9, 3) := by decide +kernel
theorem dX6_step_63 : decode cX6_step 63 = .ok (.aload_n 0, 1) := by decide +kernel
theorem dX6_step_64 : decode cX6_step 64 = .ok (.iconst 1, 1) := by decide +kernel
theorem dX6_step_65 : decode cX6_step 65 = .ok (.invokevirtual 75, 3) := by decide +kernel
theorem dX6_step_68 : decode cX6_step 68 = .ok (.ireturn, 1) := by decide +kernel
theorem dX6_step_69 : decode cX6_step 69 = .ok (.aload_n 0, 1) := by decide +kernel
theorem dX6_step_70 : decode cX6_step 70 = .ok (.getfield 10, 3) := by decide +kernel
theorem dX6_step_73 : decode cX6_step 73 = .ok (.iload_n 1, 1) := by decide +kernel
theorem dX6_step_74 : decode cX6_step 74 = .ok (.iload_n 2, 1) := by decide +kernel
theorem dX6_step_75 : decode cX6_step 75 = .ok (.iload_n 3, 1) := by decide +kernel
theorem dX6_step_76 : decode cX6_step 76 = .ok (.iload 4, 2) := by decide +kernel
theorem dX6_step_78 : decode cX6_step 78 = .ok (.invokevirtual 123, 3) := by decide +kernel
theorem dX6_step_81 : decode cX6_step 81 = .ok (.ireturn, 1) := by decide +kernel
theorem dX6_thingOf_0 : decode cX6_thingOf 0 = .ok (.aload_n 0, 1) := by decide +kernel
theorem dX6_thingOf_1 : decode cX6_thingOf 1 = .ok (.getfield 10, 3) := by decide +kernel
theorem dX6_thingOf_4 : decode cX6_thingOf 4 = .ok (.iload_n 1, 1) := by decide +kernel
theorem dX6_thingOf_5 : decode cX6_thingOf 5 = .ok (.invokevirtual 127, 3) := by decide +kernel
theorem dX6_thingOf_8 : decode cX6_thingOf 8 = .ok (.ifCond .ne 9, 3) := by decide +kernel
theorem dX6_thingOf_11 : decode cX6_thingOf 11 = .ok (.aload_n 0, 1) := by decide +kernel
theorem dX6_thingOf_12 : decode cX6_thingOf 12 = .ok (.iconst 0, 1) := by decide +kernel
theorem dX6_thingOf_13 : decode cX6_thingOf 13 = .ok (.invokevirtual 75, 3) := by decide +kernel
theorem dX6_thingOf_16 : decode cX6_thingOf 16 = .ok (.ireturn, 1) := by decide +kernel
theorem dX6_thingOf_17 : decode cX6_thingOf 17 = .ok (.iload_n 2, 1) := by decide +kernel
theorem dX6_thingOf_18 : decode cX6_thingOf 18 = .ok (.iconst (-1), 1) := by decide +kernel
theorem dX6_thingOf_19 : decode cX6_thingOf 19 = .ok (.if_icmp .ne 13, 3) := by decide +kernel
theorem dX6_thingOf_22 : decode cX6_thingOf 22 = .ok (.aload_n 0, 1) := by decide +kernel
theorem dX6_thingOf_23 : decode cX6_thingOf 23 = .ok (.getfield 10, 3) := by decide +kernel
theorem dX6_thingOf_26 : decode cX6_thingOf 26 = .ok (.getfield 133, 3) := by decide +kernel
theorem dX6_thingOf_29 : decode cX6_thingOf 29 = .ok (.iload_n 1, 1) := by decide +kernel
theorem dX6_thingOf_30 : decode cX6_thingOf 30 = .ok (.iaload, 1) := by decide +kernel
theorem dX6_thingOf_31 : decode cX6_thingOf 31 = .ok (.ireturn, 1) := by decide +kernel
theorem dX6_thingOf_32 : decode cX6_thingOf 32 = .ok (.iload_n 2, 1) := by decide +kernel
theorem dX6_thingOf_33 : decode cX6_thingOf 33 = .ok (.bipush (-2), 2) := by decide +kernel
theorem dX6_thingOf_35 : decode cX6_thingOf 35 = .ok (.if_icmp .ne 13, 3) := by decide +kernel
theorem dX6_thingOf_38 : decode cX6_thingOf 38 = .ok (.aload_n 0, 1) := by decide +kernel
theorem dX6_thingOf_39 : decode cX6_thingOf 39 = .ok (.getfield 10, 3) := by decide +kernel
theorem dX6_thingOf_42 : decode cX6_thingOf 42 = .ok (.getfield 130, 3) := by decide +kernel
theorem dX6_thingOf_45 : decode cX6_thingOf 45 = .ok (.iload_n 1, 1) := by decide +kernel
theorem dX6_thingOf_46 : decode cX6_thingOf 46 = .ok (.iaload, 1) := by decide +kernel
theorem dX6_thingOf_47 : decode cX6_thingOf 47 = .ok (.ireturn, 1) := by decide +kernel
theorem dX6_thingOf_48 : decode cX6_thingOf 48 = .ok (.aload_n 0, 1) := by decide +kernel
theorem dX6_thingOf_49 : decode cX6_thingOf 49 = .ok (.getfield 10, 3) := by decide +kernel
theorem dX6_thingOf_52 : decode cX6_thingOf 52 = .ok (.iload_n 1, 1) := by decide +kernel
theorem dX6_thingOf_53 : decode cX6_thingOf 53 = .ok (.iload_n 2, 1) := by decide +kernel
theorem dX6_thingOf_54 : decode cX6_thingOf 54 = .ok (.invokevirtual 136, 3) := by decide +kernel
theorem dX6_thingOf_57 : decode cX6_thingOf 57 = .ok (.ifCond .eq 12, 3) := by decide +kernel
theorem dX6_thingOf_60 : decode cX6_thingOf 60 = .ok (.iload_n 3, 1) := by decide +kernel
theorem dX6_thingOf_61 : decode cX6_thingOf 61 = .ok (.iconst 0, 1) := by decide +kernel
theorem dX6_thingOf_62 : decode cX6_thingOf 62 = .ok (.iconst 2, 1) := by decide +kernel
theorem dX6_thingOf_63 : decode cX6_thingOf 63 = .ok (.invokestatic 71, 3) := by decide +kernel
theorem dX6_thingOf_66 : decode cX6_thingOf 66 = .ok (.ifCond .ne 9, 3) := by decide +kernel
theorem dX6_thingOf_69 : decode cX6_thingOf 69 = .ok (.aload_n 0, 1) := by decide +kernel
theorem dX6_thingOf_70 : decode cX6_thingOf 70 = .ok (.iconst 0, 1) := by decide +kernel
theorem dX6_thingOf_71 : decode cX6_thingOf 71 = .ok (.invokevirtual 75, 3) := by decide +kernel
theorem dX6_thingOf_74 : decode cX6_thingOf 74 = .ok (.ireturn, 1) := by decide +kernel
theorem dX6_thingOf_75 : decode cX6_thingOf 75 = .ok (.aload_n 0, 1) := by decide +kernel
theorem dX6_thingOf_76 : decode cX6_thingOf 76 = .ok (.getfield 10, 3) := by decide +kernel
theorem dX6_thingOf_79 : decode cX6_thingOf 79 = .ok (.iload_n 1, 1) := by decide +kernel
theorem dX6_thingOf_80 : decode cX6_thingOf 80 = .ok (.iload_n 2, 1) := by decide +kernel
theorem dX6_thingOf_81 : decode cX6_thingOf 81 = .ok (.iload_n 3, 1) := by decide +kernel
theorem dX6_thingOf_82 : decode cX6_thingOf 82 = .ok (.invokevirtual 140, 3) := by decide +kernel
theorem dX6_thingOf_85 : decode cX6_thingOf 85 = .ok (.ireturn, 1) := by decide +kernel
theorem dX6_turn_0 : decode cX6_turn 0 = .ok (.aload_n 0, 1) := by decide +kernel
theorem dX6_turn_1 : decode cX6_turn 1 = .ok (.getfield 10, 3) := by decide +kernel
theorem dX6_turn_4 : decode cX6_turn 4 = .ok (.iload_n 1, 1) := by decide +kernel
theorem dX6_turn_5 : decode cX6_turn 5 = .ok (.invokevirtual 127, 3) := by decide +kernel
theorem dX6_turn_8 : decode cX6_turn 8 = .ok (.ifCond .eq 13, 3) := by decide +kernel
theorem dX6_turn_11 : decode cX6_turn 11 = .ok (.iload_n 2, 1) := by decide +kernel
theorem dX6_turn_12 : decode cX6_turn 12 = .ok (.iconst 0, 1) := by decide +kernel
theorem dX6_turn_13 : decode cX6_turn 13 = .ok (.bipush 6, 2) := by decide +kernel
theorem dX6_turn_15 : decode cX6_turn 15 = .ok (.invokestatic 71, 3) := by decide +kernel
theorem dX6_turn_18 : decode cX6_turn 18 = .ok (.ifCond .ne 9, 3) := by decide +kernel
theorem dX6_turn_21 : decode cX6_turn 21 = .ok (.aload_n 0, 1) := by decide +kernel
theorem dX6_turn_22 : decode cX6_turn 22 = .ok (.iconst 0, 1) := by decide +kernel
theorem dX6_turn_23 : decode cX6_turn 23 = .ok (.invokevirtual 75, 3) := by decide +kernel
theorem dX6_turn_26 : decode cX6_turn 26 = .ok (.ireturn, 1) := by decide +kernel
theorem dX6_turn_27 : decode cX6_turn 27 = .ok (.aload_n 0, 1) := by decide +kernel
theorem dX6_turn_28 : decode cX6_turn 28 = .ok (.getfield 10, 3) := by decide +kernel
theorem dX6_turn_31 : decode cX6_turn 31 = .ok (.getfield 133, 3) := by decide +kernel
theorem dX6_turn_34 : decode cX6_turn 34 = .ok (.iload_n 1, 1) := by decide +kernel
theorem dX6_turn_35 : decode cX6_turn 35 = .ok (.iaload, 1) := by decide +kernel
theorem dX6_turn_36 : decode cX6_turn 36 = .ok (.istore_n 3, 1) := by decide +kernel
theorem dX6_turn_37 : decode cX6_turn 37 = .ok (.aload_n 0, 1) := by decide +kernel
theorem dX6_turn_38 : decode cX6_turn 38 = .ok (.getfield 10, 3) := by decide +kernel
theorem dX6_turn_41 : decode cX6_turn 41 = .ok (.getfield 133, 3) := by decide +kernel
theorem dX6_turn_44 : decode cX6_turn 44 = .ok (.iload_n 1, 1) := by decide +kernel
theorem dX6_turn_45 : decode cX6_turn 45 = .ok (.iload_n 2, 1) := by decide +kernel
theorem dX6_turn_46 : decode cX6_turn 46 = .ok (.iastore, 1) := by decide +kernel
theorem dX6_turn_47 : decode cX6_turn 47 = .ok (.iload_n 3, 1) := by decide +kernel
theorem dX6_turn_48 : decode cX6_turn 48 = .ok (.ireturn, 1) := by decide +kernel
theorem dX6_change_0 : decode cX6_change 0 = .ok (.aload_n 0, 1) := by decide +kernel
theorem dX6_change_1 : decode cX6_change 1 = .ok (.getfield 10, 3) := by decide +kernel
theorem dX6_change_4 : decode cX6_change 4 = .ok (.iload_n 1, 1) := by decide +kernel
theorem dX6_change_5 : decode cX6_change 5 = .ok (.iload_n 2, 1) := by decide +kernel
theorem dX6_change_6 : decode cX6_change 6 = .ok (.invokevirtual 136, 3) := by decide +kernel
theorem dX6_change_9 : decode cX6_change 9 = .ok (.ifCond .eq 25, 3) := by decide +kernel
theorem dX6_change_12 : decode cX6_change 12 = .ok (.iload_n 3, 1) := by decide +kernel
theorem dX6_change_13 : decode cX6_change 13 = .ok (.iconst 0, 1) := by decide +kernel
theorem dX6_change_14 : decode cX6_change 14 = .ok (.iconst 2, 1) := by decide +kernel
theorem dX6_change_15 : decode cX6_change 15 = .ok (.invokestatic 71, 3) := by decide +kernel
theorem dX6_change_18 : decode cX6_change 18 = .ok (.ifCond .eq 16, 3) := by decide +kernel
theorem dX6_change_21 : decode cX6_change 21 = .ok (.aload_n 0, 1) := by decide +kernel
theorem dX6_change_22 : decode cX6_change 22 = .ok (.getfield 10, 3) := by decide +kernel
theorem dX6_change_25 : decode cX6_change 25 = .ok (.iload_n 3, 1) := by decide +kernel
theorem dX6_change_26 : decode cX6_change 26 = .ok (.iload 4, 2) := by decide +kernel
theorem dX6_change_28 : decode cX6_change 28 = .ok (.invokevirtual 143, 3) := by decide +kernel
theorem dX6_change_31 : decode cX6_change 31 = .ok (.ifCond .ne 9, 3) := by decide +kernel
theorem dX6_change_34 : decode cX6_change 34 = .ok (.aload_n 0, 1) := by decide +kernel
theorem dX6_change_35 : decode cX6_change 35 = .ok (.iconst 0, 1) := by decide +kernel
theorem dX6_change_36 : decode cX6_change 36 = .ok (.invokevirtual 75, 3) := by decide +kernel
theorem dX6_change_39 : decode cX6_change 39 = .ok (.ireturn, 1) := by decide +kernel
theorem dX6_change_40 : decode cX6_change 40 = .ok (.aload_n 0, 1) := by decide +kernel
theorem dX6_change_41 : decode cX6_change 41 = .ok (.getfield 10, 3) := by decide +kernel
theorem dX6_change_44 : decode cX6_change 44 = .ok (.iload_n 1, 1) := by decide +kernel
theorem dX6_change_45 : decode cX6_change 45 = .ok (.iload_n 2, 1) := by decide +kernel
theorem dX6_change_46 : decode cX6_change 46 = .ok (.iload_n 3, 1) := by decide +kernel
theorem dX6_change_47 : decode cX6_change 47 = .ok (.invokevirtual 140, 3) := by decide +kernel
theorem dX6_change_50 : decode cX6_change 50 = .ok (.istore 5, 2) := by decide +kernel
theorem dX6_change_52 : decode cX6_change 52 = .ok (.aload_n 0, 1) := by decide +kernel
theorem dX6_change_53 : decode cX6_change 53 = .ok (.getfield 10, 3) := by decide +kernel
theorem dX6_change_56 : decode cX6_change 56 = .ok (.iload_n 1, 1) := by decide +kernel
theorem dX6_change_57 : decode cX6_change 57 = .ok (.iload_n 2, 1) := by decide +kernel
theorem dX6_change_58 : decode cX6_change 58 = .ok (.iload_n 3, 1) := by decide +kernel
theorem dX6_change_59 : decode cX6_change 59 = .ok (.iload 4, 2) := by decide +kernel
theorem dX6_change_61 : decode cX6_change 61 = .ok (.invokevirtual 146, 3) := by decide +kernel
theorem dX6_change_64 : decode cX6_change 64 = .ok (.iload 5, 2) := by decide +kernel
theorem dX6_change_66 : decode cX6_change 66 = .ok (.ireturn, 1) := by decide +kernel
theorem dX6_next_0 : decode cX6_next 0 = .ok (.aload_n 0, 1) := by decide +kernel
theorem dX6_next_1 : decode cX6_next 1 = .ok (.getfield 10, 3) := by decide +kernel
theorem dX6_next_4 : decode cX6_next 4 = .ok (.iload_n 1, 1) := by decide +kernel
theorem dX6_next_5 : decode cX6_next 5 = .ok (.iload_n 2, 1) := by decide +kernel
theorem dX6_next_6 : decode cX6_next 6 = .ok (.invokevirtual 136, 3) := by decide +kernel
theorem dX6_next_9 : decode cX6_next 9 = .ok (.ifCond .eq 14, 3) := by decide +kernel
theorem dX6_next_12 : decode cX6_next 12 = .ok (.iload_n 3, 1) := by decide +kernel
theorem dX6_next_13 : decode cX6_next 13 = .ok (.iconst 0, 1) := by decide +kernel
theorem dX6_next_14 : decode cX6_next 14 = .ok (.sipush 999, 3) := by decide +kernel
theorem dX6_next_17 : decode cX6_next 17 = .ok (.invokestatic 71, 3) := by decide +kernel
theorem dX6_next_20 : decode cX6_next 20 = .ok (.ifCond .ne 9, 3) := by decide +kernel
theorem dX6_next_23 : decode cX6_next 23 = .ok (.aload_n 0, 1) := by decide +kernel
theorem dX6_next_24 : decode cX6_next 24 = .ok (.iconst 0, 1) := by decide +kernel
theorem dX6_next_25 : decode cX6_next 25 = .ok (.invokevirtual 75, 3) := by decide +kernel
theorem dX6_next_28 : decode cX6_next 28 = .ok (.ireturn, 1) := by decide +kernel
theorem dX6_next_29 : decode cX6_next 29 = .ok (.aload_n 0, 1) := by decide +kernel
theorem dX6_next_30 : decode cX6_next 30 = .ok (.aload_n 0, 1) := by decide +kernel
theorem dX6_next_31 : decode cX6_next 31 = .ok (.getfield 34, 3) := by decide +kernel
theorem dX6_next_34 : decode cX6_next 34 = .ok (.iload_n 1, 1) := by decide +kernel
theorem dX6_next_35 : decode cX6_next 35 = .ok (.iload_n 2, 1) := by decide +kernel
theorem dX6_next_36 : decode cX6_next 36 = .ok (.iload_n 3, 1) := by decide +kernel
theorem dX6_next_37 : decode cX6_next 37 = .ok (.invokevirtual 150, 3) := by decide +kernel
theorem dX6_next_40 : decode cX6_next 40 = .ok (.invokevirtual 153, 3) := by decide +kernel
theorem dX6_next_43 : decode cX6_next 43 = .ok (.ireturn, 1) := by decide +kernel
theorem dX6_run_0 : decode cX6_run 0 = .ok (.aload_n 0, 1) := by decide +kernel
theorem dX6_run_1 : decode cX6_run 1 = .ok (.getfield 10, 3) := by decide +kernel
theorem dX6_run_4 : decode cX6_run 4 = .ok (.iload_n 1, 1) := by decide +kernel
theorem dX6_run_5 : decode cX6_run 5 = .ok (.iload_n 3, 1) := by decide +kernel
theorem dX6_run_6 : decode cX6_run 6 = .ok (.invokevirtual 136, 3) := by decide +kernel
theorem dX6_run_9 : decode cX6_run 9 = .ok (.ifCond .eq 14, 3) := by decide +kernel
theorem dX6_run_12 : decode cX6_run 12 = .ok (.iload_n 2, 1) := by decide +kernel
theorem dX6_run_13 : decode cX6_run 13 = .ok (.iconst 0, 1) := by decide +kernel
theorem dX6_run_14 : decode cX6_run 14 = .ok (.sipush 999, 3) := by decide +kernel
theorem dX6_run_17 : decode cX6_run 17 = .ok (.invokestatic 71, 3) := by decide +kernel
theorem dX6_run_20 : decode cX6_run 20 = .ok (.ifCond .ne 9, 3) := by decide +kernel
theorem dX6_run_23 : decode cX6_run 23 = .ok (.aload_n 0, 1) := by decide +kernel
theorem dX6_run_24 : decode cX6_run 24 = .ok (.iconst 0, 1) := by decide +kernel
theorem dX6_run_25 : decode cX6_run 25 = .ok (.invokevirtual 75, 3) := by decide +kernel
theorem dX6_run_28 : decode cX6_run 28 = .ok (.ireturn, 1) := by decide +kernel
theorem dX6_run_29 : decode cX6_run 29 = .ok (.aload_n 0, 1) := by decide +kernel
theorem dX6_run_30 : decode cX6_run 30 = .ok (.aload_n 0, 1) := by decide +kernel
theorem dX6_run_31 : decode cX6_run 31 = .ok (.getfield 34, 3) := by decide +kernel
theorem dX6_run_34 : decode cX6_run 34 = .ok (.iload_n 1, 1) := by decide +kernel
theorem dX6_run_35 : decode cX6_run 35 = .ok (.iload_n 2, 1) := by decide +kernel
theorem dX6_run_36 : decode cX6_run 36 = .ok (.invokevirtual 156, 3) := by decide +kernel
theorem dX6_run_39 : decode cX6_run 39 = .ok (.ifCond .ge 15, 3) := by decide +kernel
theorem dX6_run_42 : decode cX6_run 42 = .ok (.aload_n 0, 1) := by decide +kernel
theorem dX6_run_43 : decode cX6_run 43 = .ok (.getfield 34, 3) := by decide +kernel
theorem dX6_run_46 : decode cX6_run 46 = .ok (.getfield 160, 3) := by decide +kernel
theorem dX6_run_49 : decode cX6_run 49 = .ok (.iload_n 3, 1) := by decide +kernel
theorem dX6_run_50 : decode cX6_run 50 = .ok (.iaload, 1) := by decide +kernel
theorem dX6_run_51 : decode cX6_run 51 = .ok (.goto 4, 3) := by decide +kernel
theorem dX6_run_54 : decode cX6_run 54 = .ok (.iconst (-1), 1) := by decide +kernel
theorem dX6_run_55 : decode cX6_run 55 = .ok (.invokevirtual 153, 3) := by decide +kernel
theorem dX6_run_58 : decode cX6_run 58 = .ok (.ireturn, 1) := by decide +kernel
theorem dX6_spoils_0 : decode cX6_spoils 0 = .ok (.aload_n 0, 1) := by decide +kernel
theorem dX6_spoils_1 : decode cX6_spoils 1 = .ok (.getfield 10, 3) := by decide +kernel
theorem dX6_spoils_4 : decode cX6_spoils 4 = .ok (.iload_n 1, 1) := by decide +kernel
theorem dX6_spoils_5 : decode cX6_spoils 5 = .ok (.invokevirtual 127, 3) := by decide +kernel
theorem dX6_spoils_8 : decode cX6_spoils 8 = .ok (.ifCond .eq 14, 3) := by decide +kernel
theorem dX6_spoils_11 : decode cX6_spoils 11 = .ok (.iload_n 2, 1) := by decide +kernel
theorem dX6_spoils_12 : decode cX6_spoils 12 = .ok (.iconst 0, 1) := by decide +kernel
theorem dX6_spoils_13 : decode cX6_spoils 13 = .ok (.sipush 999, 3) := by decide +kernel
theorem dX6_spoils_16 : decode cX6_spoils 16 = .ok (.invokestatic 71, 3) := by decide +kernel
theorem dX6_spoils_19 : decode cX6_spoils 19 = .ok (.ifCond .ne 9, 3) := by decide +kernel
theorem dX6_spoils_22 : decode cX6_spoils 22 = .ok (.aload_n 0, 1) := by decide +kernel
theorem dX6_spoils_23 : decode cX6_spoils 23 = .ok (.iconst 0, 1) := by decide +kernel
theorem dX6_spoils_24 : decode cX6_spoils 24 = .ok (.invokevirtual 75, 3) := by decide +kernel
theorem dX6_spoils_27 : decode cX6_spoils 27 = .ok (.ireturn, 1) := by decide +kernel
theorem dX6_spoils_28 : decode cX6_spoils 28 = .ok (.aload_n 0, 1) := by decide +kernel
theorem dX6_spoils_29 : decode cX6_spoils 29 = .ok (.aload_n 0, 1) := by decide +kernel
theorem dX6_spoils_30 : decode cX6_spoils 30 = .ok (.getfield 34, 3) := by decide +kernel
theorem dX6_spoils_33 : decode cX6_spoils 33 = .ok (.iload_n 1, 1) := by decide +kernel
theorem dX6_spoils_34 : decode cX6_spoils 34 = .ok (.iload_n 2, 1) := by decide +kernel
theorem dX6_spoils_35 : decode cX6_spoils 35 = .ok (.invokevirtual 156, 3) := by decide +kernel
theorem dX6_spoils_38 : decode cX6_spoils 38 = .ok (.invokevirtual 153, 3) := by decide +kernel
theorem dX6_spoils_41 : decode cX6_spoils 41 = .ok (.ireturn, 1) := by decide +kernel
theorem dX6_ready_0 : decode cX6_ready 0 = .ok (.aload_n 0, 1) := by decide +kernel
theorem dX6_ready_1 : decode cX6_ready 1 = .ok (.getfield 10, 3) := by decide +kernel
theorem dX6_ready_4 : decode cX6_ready 4 = .ok (.iload_n 1, 1) := by decide +kernel
theorem dX6_ready_5 : decode cX6_ready 5 = .ok (.invokevirtual 127, 3) := by decide +kernel
theorem dX6_ready_8 : decode cX6_ready 8 = .ok (.ifCond .eq 14, 3) := by decide +kernel
theorem dX6_ready_11 : decode cX6_ready 11 = .ok (.iload_n 2, 1) := by decide +kernel
theorem dX6_ready_12 : decode cX6_ready 12 = .ok (.iconst 0, 1) := by decide +kernel
theorem dX6_ready_13 : decode cX6_ready 13 = .ok (.sipush 999, 3) := by decide +kernel
theorem dX6_ready_16 : decode cX6_ready 16 = .ok (.invokestatic 71, 3) := by decide +kernel
theorem dX6_ready_19 : decode cX6_ready 19 = .ok (.ifCond .ne 9, 3) := by decide +kernel
theorem dX6_ready_22 : decode cX6_ready 22 = .ok (.aload_n 0, 1) := by decide +kernel
theorem dX6_ready_23 : decode cX6_ready 23 = .ok (.iconst 0, 1) := by decide +kernel
theorem dX6_ready_24 : decode cX6_ready 24 = .ok (.invokevirtual 75, 3) := by decide +kernel
theorem dX6_ready_27 : decode cX6_ready 27 = .ok (.ireturn, 1) := by decide +kernel
theorem dX6_ready_28 : decode cX6_ready 28 = .ok (.aload_n 0, 1) := by decide +kernel
theorem dX6_ready_29 : decode cX6_ready 29 = .ok (.aload_n 0, 1) := by decide +kernel
theorem dX6_ready_30 : decode cX6_ready 30 = .ok (.getfield 34, 3) := by decide +kernel
theorem dX6_ready_33 : decode cX6_ready 33 = .ok (.iload_n 1, 1) := by decide +kernel
theorem dX6_ready_34 : decode cX6_ready 34 = .ok (.iload_n 2, 1) := by decide +kernel
theorem dX6_ready_35 : decode cX6_ready 35 = .ok (.invokevirtual 163, 3) := by decide +kernel
theorem dX6_ready_38 : decode cX6_ready 38 = .ok (.invokevirtual 153, 3) := by decide +kernel
theorem dX6_ready_41 : decode cX6_ready 41 = .ok (.ireturn, 1) := by decide +kernel
theorem dX6_begun_0 : decode cX6_begun 0 = .ok (.aload_n 0, 1) := by decide +kernel
theorem dX6_begun_1 : decode cX6_begun 1 = .ok (.getfield 10, 3) := by decide +kernel
theorem dX6_begun_4 : decode cX6_begun 4 = .ok (.iload_n 1, 1) := by decide +kernel
theorem dX6_begun_5 : decode cX6_begun 5 = .ok (.invokevirtual 127, 3) := by decide +kernel
theorem dX6_begun_8 : decode cX6_begun 8 = .ok (.ifCond .eq 14, 3) := by decide +kernel
theorem dX6_begun_11 : decode cX6_begun 11 = .ok (.iload_n 2, 1) := by decide +kernel
theorem dX6_begun_12 : decode cX6_begun 12 = .ok (.iconst 0, 1) := by decide +kernel
theorem dX6_begun_13 : decode cX6_begun 13 = .ok (.sipush 999, 3) := by decide +kernel
theorem dX6_begun_16 : decode cX6_begun 16 = .ok (.invokestatic 71, 3) := by decide +kernel
theorem dX6_begun_19 : decode cX6_begun 19 = .ok (.ifCond .ne 9, 3) := by decide +kernel
theorem dX6_begun_22 : decode cX6_begun 22 = .ok (.aload_n 0, 1) := by decide +kernel
theorem dX6_begun_23 : decode cX6_begun 23 = .ok (.iconst 0, 1) := by decide +kernel
theorem dX6_begun_24 : decode cX6_begun 24 = .ok (.invokevirtual 75, 3) := by decide +kernel
theorem dX6_begun_27 : decode cX6_begun 27 = .ok (.ireturn, 1) := by decide +kernel
theorem dX6_begun_28 : decode cX6_begun 28 = .ok (.aload_n 0, 1) := by decide +kernel
theorem dX6_begun_29 : decode cX6_begun 29 = .ok (.aload_n 0, 1) := by decide +kernel
theorem dX6_begun_30 : decode cX6_begun 30 = .ok (.getfield 34, 3) := by decide +kernel
theorem dX6_begun_33 : decode cX6_begun 33 = .ok (.iload_n 1, 1) := by decide +kernel
theorem dX6_begun_34 : decode cX6_begun 34 = .ok (.iload_n 2, 1) := by decide +kernel
theorem dX6_begun_35 : decode cX6_begun 35 = .ok (.invokevirtual 166, 3) := by decide +kernel
theorem dX6_begun_38 : decode cX6_begun 38 = .ok (.invokevirtual 153, 3) := by decide +kernel
theorem dX6_begun_41 : decode cX6_begun 41 = .ok (.ireturn, 1) := by decide +kernel
theorem dX6_latest_0 : decode cX6_latest 0 = .ok (.aload_n 0, 1) := by decide +kernel
theorem dX6_latest_1 : decode cX6_latest 1 = .ok (.getfield 10, 3) := by decide +kernel
theorem dX6_latest_4 : decode cX6_latest 4 = .ok (.iload_n 1, 1) := by decide +kernel
theorem dX6_latest_5 : decode cX6_latest 5 = .ok (.invokevirtual 127, 3) := by decide +kernel
theorem dX6_latest_8 : decode cX6_latest 8 = .ok (.ifCond .eq 14, 3) := by decide +kernel
theorem dX6_latest_11 : decode cX6_latest 11 = .ok (.iload_n 2, 1) := by decide +kernel
theorem dX6_latest_12 : decode cX6_latest 12 = .ok (.iconst 0, 1) := by decide +kernel
theorem dX6_latest_13 : decode cX6_latest 13 = .ok (.sipush 400, 3) := by decide +kernel
theorem dX6_latest_16 : decode cX6_latest 16 = .ok (.invokestatic 71, 3) := by decide +kernel
theorem dX6_latest_19 : decode cX6_latest 19 = .ok (.ifCond .ne 9, 3) := by decide +kernel
theorem dX6_latest_22 : decode cX6_latest 22 = .ok (.aload_n 0, 1) := by decide +kernel
theorem dX6_latest_23 : decode cX6_latest 23 = .ok (.iconst 0, 1) := by decide +kernel
theorem dX6_latest_24 : decode cX6_latest 24 = .ok (.invokevirtual 75, 3) := by decide +kernel
theorem dX6_latest_27 : decode cX6_latest 27 = .ok (.ireturn, 1) := by decide +kernel
theorem dX6_latest_28 : decode cX6_latest 28 = .ok (.aload_n 0, 1) := by decide +kernel
theorem dX6_latest_29 : decode cX6_latest 29 = .ok (.aload_n 0, 1) := by decide +kernel
theorem dX6_latest_30 : decode cX6_latest 30 = .ok (.getfield 34, 3) := by decide +kernel
theorem dX6_latest_33 : decode cX6_latest 33 = .ok (.iload_n 1, 1) := by decide +kernel
theorem dX6_latest_34 : decode cX6_latest 34 = .ok (.iload_n 2, 1) := by decide +kernel
theorem dX6_latest_35 : decode cX6_latest 35 = .ok (.invokevirtual 169, 3) := by decide +kernel
theorem dX6_latest_38 : decode cX6_latest 38 = .ok (.invokevirtual 153, 3) := by decide +kernel
theorem dX6_latest_41 : decode cX6_latest 41 = .ok (.ireturn, 1) := by decide +kernel
theorem dX6_waits_0 : decode cX6_waits 0 = .ok (.aload_n 0, 1) := by decide +kernel
theorem dX6_waits_1 : decode cX6_waits 1 = .ok (.getfield 10, 3) := by decide +kernel
theorem dX6_waits_4 : decode cX6_waits 4 = .ok (.iload_n 1, 1) := by decide +kernel
theorem dX6_waits_5 : decode cX6_waits 5 = .ok (.invokevirtual 127, 3) := by decide +kernel
theorem dX6_waits_8 : decode cX6_waits 8 = .ok (.ifCond .eq 14, 3) := by decide +kernel
theorem dX6_waits_11 : decode cX6_waits 11 = .ok (.iload_n 2, 1) := by decide +kernel
theorem dX6_waits_12 : decode cX6_waits 12 = .ok (.iconst 0, 1) := by decide +kernel
theorem dX6_waits_13 : decode cX6_waits 13 = .ok (.sipush 999, 3) := by decide +kernel
theorem dX6_waits_16 : decode cX6_waits 16 = .ok (.invokestatic 71, 3) := by decide +kernel
theorem dX6_waits_19 : decode cX6_waits 19 = .ok (.ifCond .ne 9, 3) := by decide +kernel
theorem dX6_waits_22 : decode cX6_waits 22 = .ok (.aload_n 0, 1) := by decide +kernel
theorem dX6_waits_23 : decode cX6_waits 23 = .ok (.iconst 0, 1) := by decide +kernel
theorem dX6_waits_24 : decode cX6_waits 24 = .ok (.invokevirtual 75, 3) := by decide +kernel
theorem dX6_waits_27 : decode cX6_waits 27 = .ok (.ireturn, 1) := by decide +kernel
theorem dX6_waits_28 : decode cX6_waits 28 = .ok (.aload_n 0, 1) := by decide +kernel
theorem dX6_waits_29 : decode cX6_waits 29 = .ok (.getfield 34, 3) := by decide +kernel
theorem dX6_waits_32 : decode cX6_waits 32 = .ok (.iload_n 1, 1) := by decide +kernel
theorem dX6_waits_33 : decode cX6_waits 33 = .ok (.iload_n 2, 1) := by decide +kernel
theorem dX6_waits_34 : decode cX6_waits 34 = .ok (.invokevirtual 166, 3) := by decide +kernel
theorem dX6_waits_37 : decode cX6_waits 37 = .ok (.ifCond .ge 9, 3) := by decide +kernel
theorem dX6_waits_40 : decode cX6_waits 40 = .ok (.aload_n 0, 1) := by decide +kernel
theorem dX6_waits_41 : decode cX6_waits 41 = .ok (.iconst 3, 1) := by decide +kernel
theorem dX6_waits_42 : decode cX6_waits 42 = .ok (.invokevirtual 75, 3) := by decide +kernel
theorem dX6_waits_45 : decode cX6_waits 45 = .ok (.ireturn, 1) := by decide +kernel
theorem dX6_waits_46 : decode cX6_waits 46 = .ok (.aload_n 0, 1) := by decide +kernel
theorem dX6_waits_47 : decode cX6_waits 47 = .ok (.getfield 34, 3) := by decide +kernel
theorem dX6_waits_50 : decode cX6_waits 50 = .ok (.iload_n 1, 1) := by decide +kernel
theorem dX6_waits_51 : decode cX6_waits 51 = .ok (.invokevirtual 172, 3) := by decide +kernel
theorem dX6_waits_54 : decode cX6_waits 54 = .ok (.ireturn, 1) := by decide +kernel
theorem dX6_order_0 : decode cX6_order 0 = .ok (.aload_n 0, 1) := by decide +kernel
theorem dX6_order_1 : decode cX6_order 1 = .ok (.getfield 10, 3) := by decide +kernel
theorem dX6_order_4 : decode cX6_order 4 = .ok (.iload_n 1, 1) := by decide +kernel
theorem dX6_order_5 : decode cX6_order 5 = .ok (.invokevirtual 127, 3) := by decide +kernel
theorem dX6_order_8 : decode cX6_order 8 = .ok (.ifCond .eq 24, 3) := by decide +kernel
theorem dX6_order_11 : decode cX6_order 11 = .ok (.iload_n 2, 1) := by decide +kernel
theorem dX6_order_12 : decode cX6_order 12 = .ok (.iconst 0, 1) := by decide +kernel
theorem dX6_order_13 : decode cX6_order 13 = .ok (.sipush 399, 3) := by decide +kernel
theorem dX6_order_16 : decode cX6_order 16 = .ok (.invokestatic 71, 3) := by decide +kernel
theorem dX6_order_19 : decode cX6_order 19 = .ok (.ifCond .eq 13, 3) := by decide +kernel
theorem dX6_order_22 : decode cX6_order 22 = .ok (.iload_n 3, 1) := by decide +kernel
theorem dX6_order_23 : decode cX6_order 23 = .ok (.iconst 1, 1) := by decide +kernel
theorem dX6_order_24 : decode cX6_order 24 = .ok (.bipush 99, 2) := by decide +kernel
theorem dX6_order_26 : decode cX6_order 26 = .ok (.invokestatic 71, 3) := by decide +kernel
theorem dX6_order_29 : decode cX6_order 29 = .ok (.ifCond .ne 9, 3) := by decide +kernel
theorem dX6_order_32 : decode cX6_order 32 = .ok (.aload_n 0, 1) := by decide +kernel
theorem dX6_order_33 : decode cX6_order 33 = .ok (.iconst 0, 1) := by decide +kernel
theorem dX6_order_34 : decode cX6_order 34 = .ok (.invokevirtual 75, 3) := by decide +kernel
theorem dX6_order_37 : decode cX6_order 37 = .ok (.ireturn, 1) := by decide +kernel
theorem dX6_order_38 : decode cX6_order 38 = .ok (.aload_n 0, 1) := by decide +kernel
theorem dX6_order_39 : decode cX6_order 39 = .ok (.getfield 10, 3) := by decide +kernel
theorem dX6_order_42 : decode cX6_order 42 = .ok (.getfield 175, 3) := by decide +kernel
theorem dX6_order_45 : decode cX6_order 45 = .ok (.iconst 5, 1) := by decide +kernel
theorem dX6_order_46 : decode cX6_order 46 = .ok (.if_icmp .lt 9, 3) := by decide +kernel
theorem dX6_order_49 : decode cX6_order 49 = .ok (.aload_n 0, 1) := by decide +kernel
theorem dX6_order_50 : decode cX6_order 50 = .ok (.iconst 1, 1) := by decide +kernel
theorem dX6_order_51 : decode cX6_order 51 = .ok (.invokevirtual 75, 3) := by decide +kernel
theorem dX6_order_54 : decode cX6_order 54 = .ok (.ireturn, 1) := by decide +kernel
theorem dX6_order_55 : decode cX6_order 55 = .ok (.aload_n 0, 1) := by decide +kernel
theorem dX6_order_56 : decode cX6_order 56 = .ok (.getfield 10, 3) := by decide +kernel
theorem dX6_order_59 : decode cX6_order 59 = .ok (.iload_n 1, 1) := by decide +kernel
theorem dX6_order_60 : decode cX6_order 60 = .ok (.iload_n 2, 1) := by decide +kernel
theorem dX6_order_61 : decode cX6_order 61 = .ok (.iload_n 3, 1) := by decide +kernel
theorem dX6_order_62 : decode cX6_order 62 = .ok (.invokevirtual 178, 3) := by decide +kernel
theorem dX6_order_65 : decode cX6_order 65 = .ok (.ireturn, 1) := by decide +kernel
theorem dX6_orderOf_0 : decode cX6_orderOf 0 = .ok (.iload_n 1, 1) := by decide +kernel
theorem dX6_orderOf_1 : decode cX6_orderOf 1 = .ok (.iconst 0, 1) := by decide +kernel
theorem dX6_orderOf_2 : decode cX6_orderOf 2 = .ok (.aload_n 0, 1) := by decide +kernel
theorem dX6_orderOf_3 : decode cX6_orderOf 3 = .ok (.getfield 10, 3) := by decide +kernel
theorem dX6_orderOf_6 : decode cX6_orderOf 6 = .ok (.getfield 175, 3) := by decide +kernel
theorem dX6_orderOf_9 : decode cX6_orderOf 9 = .ok (.iconst 1, 1) := by decide +kernel
theorem dX6_orderOf_10 : decode cX6_orderOf 10 = .ok (.isub, 1) := by decide +kernel
theorem dX6_orderOf_11 : decode cX6_orderOf 11 = .ok (.invokestatic 71, 3) := by decide +kernel
theorem dX6_orderOf_14 : decode cX6_orderOf 14 = .ok (.ifCond .eq 12, 3) := by decide +kernel
theorem dX6_orderOf_17 : decode cX6_orderOf 17 = .ok (.iload_n 2, 1) := by decide +kernel
theorem dX6_orderOf_18 : decode cX6_orderOf 18 = .ok (.iconst 0, 1) := by decide +kernel
theorem dX6_orderOf_19 : decode cX6_orderOf 19 = .ok (.iconst 2, 1) := by decide +kernel
theorem dX6_orderOf_20 : decode cX6_orderOf 20 = .ok (.invokestatic 71, 3) := by decide +kernel
theorem dX6_orderOf_23 : decode cX6_orderOf 23 = .ok (.ifCond .ne 9, 3) := by decide +kernel
theorem dX6_orderOf_26 : decode cX6_orderOf 26 = .ok (.aload_n 0, 1) := by decide +kernel
theorem dX6_orderOf_27 : decode cX6_orderOf 27 = .ok (.iconst 0, 1) := by decide +kernel
theorem dX6_orderOf_28 : decode cX6_orderOf 28 = .ok (.invokevirtual 75, 3) := by decide +kernel
theorem dX6_orderOf_31 : decode cX6_orderOf 31 = .ok (.ireturn, 1) := by decide +kernel
theorem dX6_orderOf_32 : decode cX6_orderOf 32 = .ok (.aload_n 0, 1) := by decide +kernel
theorem dX6_orderOf_33 : decode cX6_orderOf 33 = .ok (.getfield 10, 3) := by decide +kernel
theorem dX6_orderOf_36 : decode cX6_orderOf 36 = .ok (.iload_n 1, 1) := by decide +kernel
theorem dX6_orderOf_37 : decode cX6_orderOf 37 = .ok (.iload_n 2, 1) := by decide +kernel
theorem dX6_orderOf_38 : decode cX6_orderOf 38 = .ok (.invokevirtual 181, 3) := by decide +kernel
theorem dX6_orderOf_41 : decode cX6_orderOf 41 = .ok (.ireturn, 1) := by decide +kernel
theorem dX6_clear_0 : decode cX6_clear 0 = .ok (.aload_n 0, 1) := by decide +kernel
theorem dX6_clear_1 : decode cX6_clear 1 = .ok (.getfield 10, 3) := by decide +kernel
theorem dX6_clear_4 : decode cX6_clear 4 = .ok (.getfield 175, 3) := by decide +kernel
theorem dX6_clear_7 : decode cX6_clear 7 = .ok (.istore_n 1, 1) := by decide +kernel
theorem dX6_clear_8 : decode cX6_clear 8 = .ok (.aload_n 0, 1) := by decide +kernel
theorem dX6_clear_9 : decode cX6_clear 9 = .ok (.getfield 10, 3) := by decide +kernel
theorem dX6_clear_12 : decode cX6_clear 12 = .ok (.iconst 0, 1) := by decide +kernel
theorem dX6_clear_13 : decode cX6_clear 13 = .ok (.putfield 175, 3) := by decide +kernel
theorem dX6_clear_16 : decode cX6_clear 16 = .ok (.iload_n 1, 1) := by decide +kernel
theorem dX6_clear_17 : decode cX6_clear 17 = .ok (.ireturn, 1) := by decide +kernel
theorem dX6_taken_0 : decode cX6_taken 0 = .ok (.aload_n 0, 1) := by decide +kernel
theorem dX6_taken_1 : decode cX6_taken 1 = .ok (.getfield 43, 3) := by decide +kernel
theorem dX6_taken_4 : decode cX6_taken 4 = .ok (.iload_n 1, 1) := by decide +kernel
theorem dX6_taken_5 : decode cX6_taken 5 = .ok (.iload_n 2, 1) := by decide +kernel
theorem dX6_taken_6 : decode cX6_taken 6 = .ok (.invokevirtual 184, 3) := by decide +kernel
theorem dX6_taken_9 : decode cX6_taken 9 = .ok (.ifCond .eq 20, 3) := by decide +kernel
theorem dX6_taken_12 : decode cX6_taken 12 = .ok (.iload_n 3, 1) := by decide +kernel
theorem dX6_taken_13 : decode cX6_taken 13 = .ok (.iconst 0, 1) := by decide +kernel
theorem dX6_taken_14 : decode cX6_taken 14 = .ok (.iconst 2, 1) := by decide +kernel
theorem dX6_taken_15 : decode cX6_taken 15 = .ok (.aload_n 0, 1) := by decide +kernel
theorem dX6_taken_16 : decode cX6_taken 16 = .ok (.getfield 10, 3) := by decide +kernel
theorem dX6_taken_19 : decode cX6_taken 19 = .ok (.getfield 100, 3) := by decide +kernel
theorem dX6_taken_22 : decode cX6_taken 22 = .ok (.iadd, 1) := by decide +kernel
theorem dX6_taken_23 : decode cX6_taken 23 = .ok (.invokestatic 71, 3) := by decide +kernel
theorem dX6_taken_26 : decode cX6_taken 26 = .ok (.ifCond .ne 9, 3) := by decide +kernel
theorem dX6_taken_29 : decode cX6_taken 29 = .ok (.aload_n 0, 1) := by decide +kernel
theorem dX6_taken_30 : decode cX6_taken 30 = .ok (.iconst 0, 1) := by decide +kernel
theorem dX6_taken_31 : decode cX6_taken 31 = .ok (.invokevirtual 75, 3) := by decide +kernel
theorem dX6_taken_34 : decode cX6_taken 34 = .ok (.ireturn, 1) := by decide +kernel
theorem dX6_taken_35 : decode cX6_taken 35 = .ok (.aload_n 0, 1) := by decide +kernel
theorem dX6_taken_36 : decode cX6_taken 36 = .ok (.getfield 43, 3) := by decide +kernel
theorem dX6_taken_39 : decode cX6_taken 39 = .ok (.invokevirtual 187, 3) := by decide +kernel
theorem dX6_taken_42 : decode cX6_taken 42 = .ok (.aload_n 0, 1) := by decide +kernel
theorem dX6_taken_43 : decode cX6_taken 43 = .ok (.getfield 43, 3) := by decide +kernel
theorem dX6_taken_46 : decode cX6_taken 46 = .ok (.iload_n 2, 1) := by decide +kernel
theorem dX6_taken_47 : decode cX6_taken 47 = .ok (.invokevirtual 190, 3) := by decide +kernel
theorem dX6_taken_50 : decode cX6_taken 50 = .ok (.iload_n 3, 1) := by decide +kernel
theorem dX6_taken_51 : decode cX6_taken 51 = .ok (.tableswitch 49 0 2 #[25, 33, 41], 25) := by decide +kernel
theorem dX6_taken_76 : decode cX6_taken 76 = .ok (.aload_n 0, 1) := by decide +kernel
theorem dX6_taken_77 : decode cX6_taken 77 = .ok (.getfield 43, 3) := by decide +kernel
theorem dX6_taken_80 : decode cX6_taken 80 = .ok (.getfield 194, 3) := by decide +kernel
theorem dX6_taken_83 : decode cX6_taken 83 = .ok (.ireturn, 1) := by decide +kernel
theorem dX6_taken_84 : decode cX6_taken 84 = .ok (.aload_n 0, 1) := by decide +kernel
theorem dX6_taken_85 : decode cX6_taken 85 = .ok (.getfield 43, 3) := by decide +kernel
theorem dX6_taken_88 : decode cX6_taken 88 = .ok (.getfield 197, 3) := by decide +kernel
theorem dX6_taken_91 : decode cX6_taken 91 = .ok (.ireturn, 1) := by decide +kernel
theorem dX6_taken_92 : decode cX6_taken 92 = .ok (.aload_n 0, 1) := by decide +kernel
theorem dX6_taken_93 : decode cX6_taken 93 = .ok (.getfield 43, 3) := by decide +kernel
theorem dX6_taken_96 : decode cX6_taken 96 = .ok (.getfield 200, 3) := by decide +kernel
theorem dX6_taken_99 : decode cX6_taken 99 = .ok (.ireturn, 1) := by decide +kernel
theorem dX6_taken_100 : decode cX6_taken 100 = .ok (.aload_n 0, 1) := by decide +kernel
theorem dX6_taken_101 : decode cX6_taken 101 = .ok (.getfield 43, 3) := by decide +kernel
theorem dX6_taken_104 : decode cX6_taken 104 = .ok (.getfield 203, 3) := by decide +kernel
theorem dX6_taken_107 : decode cX6_taken 107 = .ok (.iload_n 3, 1) := by decide +kernel
theorem dX6_taken_108 : decode cX6_taken 108 = .ok (.iconst 3, 1) := by decide +kernel
theorem dX6_taken_109 : decode cX6_taken 109 = .ok (.isub, 1) := by decide +kernel
theorem dX6_taken_110 : decode cX6_taken 110 = .ok (.iaload, 1) := by decide +kernel
theorem dX6_taken_111 : decode cX6_taken 111 = .ok (.ireturn, 1) := by decide +kernel
theorem dX6_best_0 : decode cX6_best 0 = .ok (.iload_n 1, 1) := by decide +kernel
theorem dX6_best_1 : decode cX6_best 1 = .ok (.iconst 0, 1) := by decide +kernel
theorem dX6_best_2 : decode cX6_best 2 = .ok (.iconst 2, 1) := by decide +kernel
theorem dX6_best_3 : decode cX6_best 3 = .ok (.invokestatic 71, 3) := by decide +kernel
theorem dX6_best_6 : decode cX6_best 6 = .ok (.ifCond .ne 9, 3) := by decide +kernel
theorem dX6_best_9 : decode cX6_best 9 = .ok (.aload_n 0, 1) := by decide +kernel
theorem dX6_best_10 : decode cX6_best 10 = .ok (.iconst 0, 1) := by decide +kernel
theorem dX6_best_11 : decode cX6_best 11 = .ok (.invokevirtual 75, 3) := by decide +kernel
theorem dX6_best_14 : decode cX6_best 14 = .ok (.ireturn, 1) := by decide +kernel
theorem dX6_best_15 : decode cX6_best 15 = .ok (.aload_n 0, 1) := by decide +kernel
theorem dX6_best_16 : decode cX6_best 16 = .ok (.getfield 43, 3) := by decide +kernel
theorem dX6_best_19 : decode cX6_best 19 = .ok (.invokevirtual 187, 3) := by decide +kernel
theorem dX6_best_22 : decode cX6_best 22 = .ok (.aload_n 0, 1) := by decide +kernel
theorem dX6_best_23 : decode cX6_best 23 = .ok (.getfield 43, 3) := by decide +kernel
theorem dX6_best_26 : decode cX6_best 26 = .ok (.invokevirtual 206, 3) := by decide +kernel
theorem dX6_best_29 : decode cX6_best 29 = .ok (.iload_n 1, 1) := by decide +kernel
theorem dX6_best_30 : decode cX6_best 30 = .ok (.ifCond .ne 11, 3) := by decide +kernel
theorem dX6_best_33 : decode cX6_best 33 = .ok (.aload_n 0, 1) := by decide +kernel
theorem dX6_best_34 : decode cX6_best 34 = .ok (.getfield 43, 3) := by decide +kernel
theorem dX6_best_37 : decode cX6_best 37 = .ok (.getfield 209, 3) := by decide +kernel
theorem dX6_best_40 : decode cX6_best 40 = .ok (.ireturn, 1) := by decide +kernel
theorem dX6_best_41 : decode cX6_best 41 = .ok (.iload_n 1, 1) := by decide +kernel
theorem dX6_best_42 : decode cX6_best 42 = .ok (.iconst 1, 1) := by decide +kernel
theorem dX6_best_43 : decode cX6_best 43 = .ok (.if_icmp .ne 13, 3) := by decide +kernel
theorem dX6_best_46 : decode cX6_best 46 = .ok (.aload_n 0, 1) := by decide +kernel
theorem dX6_best_47 : decode cX6_best 47 = .ok (.getfield 43, 3) := by decide +kernel
theorem dX6_best_50 : decode cX6_best 50 = .ok (.getfield 212, 3) := by decide +kernel
theorem dX6_best_53 : decode cX6_best 53 = .ok (.goto 10, 3) := by decide +kernel
theorem dX6_best_56 : decode cX6_best 56 = .ok (.aload_n 0, 1) := by decide +kernel
theorem dX6_best_57 : decode cX6_best 57 = .ok (.getfield 43, 3) := by decide +kernel
theorem dX6_best_60 : decode cX6_best 60 = .ok (.getfield 215, 3) := by decide +kernel
theorem dX6_best_63 : decode cX6_best 63 = .ok (.ireturn, 1) := by decide +kernel
theorem dX6_most_0 : decode cX6_most 0 = .ok (.aload_n 0, 1) := by decide +kernel
theorem dX6_most_1 : decode cX6_most 1 = .ok (.getfield 10, 3) := by decide +kernel
theorem dX6_most_4 : decode cX6_most 4 = .ok (.iload_n 1, 1) := by decide +kernel
theorem dX6_most_5 : decode cX6_most 5 = .ok (.invokevirtual 127, 3) := by decide +kernel
theorem dX6_most_8 : decode cX6_most 8 = .ok (.ifCond .ne 9, 3) := by decide +kernel
theorem dX6_most_11 : decode cX6_most 11 = .ok (.aload_n 0, 1) := by decide +kernel
theorem dX6_most_12 : decode cX6_most 12 = .ok (.iconst 0, 1) := by decide +kernel
theorem dX6_most_13 : decode cX6_most 13 = .ok (.invokevirtual 75, 3) := by decide +kernel
theorem dX6_most_16 : decode cX6_most 16 = .ok (.ireturn, 1) := by decide +kernel
theorem dX6_most_17 : decode cX6_most 17 = .ok (.aload_n 0, 1) := by decide +kernel
theorem dX6_most_18 : decode cX6_most 18 = .ok (.getfield 10, 3) := by decide +kernel
theorem dX6_most_21 : decode cX6_most 21 = .ok (.iload_n 1, 1) := by decide +kernel
theorem dX6_most_22 : decode cX6_most 22 = .ok (.invokevirtual 218, 3) := by decide +kernel
theorem dX6_most_25 : decode cX6_most 25 = .ok (.istore_n 2, 1) := by decide +kernel
theorem dX6_most_26 : decode cX6_most 26 = .ok (.iload_n 2, 1) := by decide +kernel
theorem dX6_most_27 : decode cX6_most 27 = .ok (.ifCond .ge 7, 3) := by decide +kernel
theorem dX6_most_30 : decode cX6_most 30 = .ok (.iconst 0, 1) := by decide +kernel
theorem dX6_most_31 : decode cX6_most 31 = .ok (.goto 12, 3) := by decide +kernel
theorem dX6_most_34 : decode cX6_most 34 = .ok (.aload_n 0, 1) := by decide +kernel
theorem dX6_most_35 : decode cX6_most 35 = .ok (.getfield 10, 3) := by decide +kernel
theorem dX6_most_38 : decode cX6_most 38 = .ok (.iload_n 1, 1) := by decide +kernel
theorem dX6_most_39 : decode cX6_most 39 = .ok (.iload_n 2, 1) := by decide +kernel
theorem dX6_most_40 : decode cX6_most 40 = .ok (.invokevirtual 221, 3) := by decide +kernel
theorem dX6_most_43 : decode cX6_most 43 = .ok (.ireturn, 1) := by decide +kernel
theorem dX6_chokes_0 : decode cX6_chokes 0 = .ok (.aload_n 0, 1) := by decide +kernel
theorem dX6_chokes_1 : decode cX6_chokes 1 = .ok (.getfield 10, 3) := by decide +kernel
theorem dX6_chokes_4 : decode cX6_chokes 4 = .ok (.iload_n 1, 1) := by decide +kernel
theorem dX6_chokes_5 : decode cX6_chokes 5 = .ok (.invokevirtual 127, 3) := by decide +kernel
theorem dX6_chokes_8 : decode cX6_chokes 8 = .ok (.ifCond .ne 9, 3) := by decide +kernel
theorem dX6_chokes_11 : decode cX6_chokes 11 = .ok (.aload_n 0, 1) := by decide +kernel
theorem dX6_chokes_12 : decode cX6_chokes 12 = .ok (.iconst 0, 1) := by decide +kernel
theorem dX6_chokes_13 : decode cX6_chokes 13 = .ok (.invokevirtual 75, 3) := by decide +kernel
theorem dX6_chokes_16 : decode cX6_chokes 16 = .ok (.ireturn, 1) := by decide +kernel
theorem dX6_chokes_17 : decode cX6_chokes 17 = .ok (.aload_n 0, 1) := by decide +kernel
theorem dX6_chokes_18 : decode cX6_chokes 18 = .ok (.getfield 10, 3) := by decide +kernel
theorem dX6_chokes_21 : decode cX6_chokes 21 = .ok (.iload_n 1, 1) := by decide +kernel
theorem dX6_chokes_22 : decode cX6_chokes 22 = .ok (.invokevirtual 218, 3) := by decide +kernel
theorem dX6_chokes_25 : decode cX6_chokes 25 = .ok (.ireturn, 1) := by decide +kernel
theorem dX6_idle_0 : decode cX6_idle 0 = .ok (.iload_n 1, 1) := by decide +kernel
theorem dX6_idle_1 : decode cX6_idle 1 = .ok (.iconst 0, 1) := by decide +kernel
theorem dX6_idle_2 : decode cX6_idle 2 = .ok (.iconst 1, 1) := by decide +kernel
theorem dX6_idle_3 : decode cX6_idle 3 = .ok (.aload_n 0, 1) := by decide +kernel
theorem dX6_idle_4 : decode cX6_idle 4 = .ok (.getfield 10, 3) := by decide +kernel
theorem dX6_idle_7 : decode cX6_idle 7 = .ok (.getfield 100, 3) := by decide +kernel
theorem dX6_idle_10 : decode cX6_idle 10 = .ok (.ishl, 1) := by decide +kernel
theorem dX6_idle_11 : decode cX6_idle 11 = .ok (.iconst 1, 1) := by decide +kernel
theorem dX6_idle_12 : decode cX6_idle 12 = .ok (.isub, 1) := by decide +kernel
theorem dX6_idle_13 : decode cX6_idle 13 = .ok (.invokestatic 71, 3) := by decide +kernel
theorem dX6_idle_16 : decode cX6_idle 16 = .ok (.ifCond .ne 9, 3) := by decide +kernel
theorem dX6_idle_19 : decode cX6_idle 19 = .ok (.aload_n 0, 1) := by decide +kernel
theorem dX6_idle_20 : decode cX6_idle 20 = .ok (.iconst 0, 1) := by decide +kernel
theorem dX6_idle_21 : decode cX6_idle 21 = .ok (.invokevirtual 75, 3) := by decide +kernel
theorem dX6_idle_24 : decode cX6_idle 24 = .ok (.ireturn, 1) := by decide +kernel
theorem dX6_idle_25 : decode cX6_idle 25 = .ok (.iconst 0, 1) := by decide +kernel
theorem dX6_idle_26 : decode cX6_idle 26 = .ok (.istore_n 2, 1) := by decide +kernel
theorem dX6_idle_27 : decode cX6_idle 27 = .ok (.iconst 0, 1) := by decide +kernel
theorem dX6_idle_28 : decode cX6_idle 28 = .ok (.istore_n 3, 1) := by decide +kernel
theorem dX6_idle_29 : decode cX6_idle 29 = .ok (.iload_n 3, 1) := by decide +kernel
theorem dX6_idle_30 : decode cX6_idle 30 = .ok (.aload_n 0, 1) := by decide +kernel
theorem dX6_idle_31 : decode cX6_idle 31 = .ok (.getfield 10, 3) := by decide +kernel
theorem dX6_idle_34 : decode cX6_idle 34 = .ok (.getfield 100, 3) := by decide +kernel
theorem dX6_idle_37 : decode cX6_idle 37 = .ok (.if_icmp .ge 29, 3) := by decide +kernel
theorem dX6_idle_40 : decode cX6_idle 40 = .ok (.iload_n 1, 1) := by decide +kernel
theorem dX6_idle_41 : decode cX6_idle 41 = .ok (.iload_n 3, 1) := by decide +kernel
theorem dX6_idle_42 : decode cX6_idle 42 = .ok (.ishr, 1) := by decide +kernel
theorem dX6_idle_43 : decode cX6_idle 43 = .ok (.iconst 1, 1) := by decide +kernel
theorem dX6_idle_44 : decode cX6_idle 44 = .ok (.iand, 1) := by decide +kernel
theorem dX6_idle_45 : decode cX6_idle 45 = .ok (.ifCond .eq 15, 3) := by decide +kernel
theorem dX6_idle_48 : decode cX6_idle 48 = .ok (.iload_n 2, 1) := by decide +kernel
theorem dX6_idle_49 : decode cX6_idle 49 = .ok (.aload_n 0, 1) := by decide +kernel
theorem dX6_idle_50 : decode cX6_idle 50 = .ok (.getfield 10, 3) := by decide +kernel
theorem dX6_idle_53 : decode cX6_idle 53 = .ok (.getfield 110, 3) := by decide +kernel
theorem dX6_idle_56 : decode cX6_idle 56 = .ok (.iload_n 3, 1) := by decide +kernel
theorem dX6_idle_57 : decode cX6_idle 57 = .ok (.iaload, 1) := by decide +kernel
theorem dX6_idle_58 : decode cX6_idle 58 = .ok (.ior, 1) := by decide +kernel
theorem dX6_idle_59 : decode cX6_idle 59 = .ok (.istore_n 2, 1) := by decide +kernel
theorem dX6_idle_60 : decode cX6_idle 60 = .ok (.iinc 3 1, 3) := by decide +kernel
theorem dX6_idle_63 : decode cX6_idle 63 = .ok (.goto (-34), 3) := by decide +kernel
theorem dX6_idle_66 : decode cX6_idle 66 = .ok (.aload_n 0, 1) := by decide +kernel
theorem dX6_idle_67 : decode cX6_idle 67 = .ok (.getfield 10, 3) := by decide +kernel
theorem dX6_idle_70 : decode cX6_idle 70 = .ok (.invokevirtual 224, 3) := by decide +kernel
theorem dX6_idle_73 : decode cX6_idle 73 = .ok (.iload_n 2, 1) := by decide +kernel
theorem dX6_idle_74 : decode cX6_idle 74 = .ok (.iconst (-1), 1) := by decide +kernel
theorem dX6_idle_75 : decode cX6_idle 75 = .ok (.ixor, 1) := by decide +kernel
theorem dX6_idle_76 : decode cX6_idle 76 = .ok (.iand, 1) := by decide +kernel
theorem dX6_idle_77 : decode cX6_idle 77 = .ok (.ireturn, 1) := by decide +kernel
theorem dX6_turned_0 : decode cX6_turned 0 = .ok (.aload_n 0, 1) := by decide +kernel
theorem dX6_turned_1 : decode cX6_turned 1 = .ok (.getfield 10, 3) := by decide +kernel
theorem dX6_turned_4 : decode cX6_turned 4 = .ok (.iload_n 1, 1) := by decide +kernel
theorem dX6_turned_5 : decode cX6_turned 5 = .ok (.invokevirtual 127, 3) := by decide +kernel
theorem dX6_turned_8 : decode cX6_turned 8 = .ok (.ifCond .ne 9, 3) := by decide +kernel
theorem dX6_turned_11 : decode cX6_turned 11 = .ok (.aload_n 0, 1) := by decide +kernel
theorem dX6_turned_12 : decode cX6_turned 12 = .ok (.iconst 0, 1) := by decide +kernel
theorem dX6_turned_13 : decode cX6_turned 13 = .ok (.invokevirtual 75, 3) := by decide +kernel
theorem dX6_turned_16 : decode cX6_turned 16 = .ok (.ireturn, 1) := by decide +kernel
theorem dX6_turned_17 : decode cX6_turned 17 = .ok (.aload_n 0, 1) := by decide +kernel
theorem dX6_turned_18 : decode cX6_turned 18 = .ok (.getfield 34, 3) := by decide +kernel
theorem dX6_turned_21 : decode cX6_turned 21 = .ok (.iload_n 1, 1) := by decide +kernel
theorem dX6_turned_22 : decode cX6_turned 22 = .ok (.iconst 0, 1) := by decide +kernel
theorem dX6_turned_23 : decode cX6_turned 23 = .ok (.invokevirtual 163, 3) := by decide +kernel
theorem dX6_turned_26 : decode cX6_turned 26 = .ok (.istore_n 2, 1) := by decide +kernel
theorem dX6_turned_27 : decode cX6_turned 27 = .ok (.iconst 0, 1) := by decide +kernel
theorem dX6_turned_28 : decode cX6_turned 28 = .ok (.istore_n 3, 1) := by decide +kernel
theorem dX6_turned_29 : decode cX6_turned 29 = .ok (.iconst 0, 1) := by decide +kernel
theorem dX6_turned_30 : decode cX6_turned 30 = .ok (.istore 4, 2) := by decide +kernel
theorem dX6_turned_32 : decode cX6_turned 32 = .ok (.iload 4, 2) := by decide +kernel
theorem dX6_turned_34 : decode cX6_turned 34 = .ok (.aload_n 0, 1) := by decide +kernel
theorem dX6_turned_35 : decode cX6_turned 35 = .ok (.getfield 10, 3) := by decide +kernel
theorem dX6_turned_38 : decode cX6_turned 38 = .ok (.getfield 100, 3) := by decide +kernel
theorem dX6_turned_41 : decode cX6_turned 41 = .ok (.if_icmp .ge 123, 3) := by decide +kernel
theorem dX6_turned_44 : decode cX6_turned 44 = .ok (.aload_n 0, 1) := by decide +kernel
theorem dX6_turned_45 : decode cX6_turned 45 = .ok (.getfield 10, 3) := by decide +kernel
theorem dX6_turned_48 : decode cX6_turned 48 = .ok (.iload_n 1, 1) := by decide +kernel
theorem dX6_turned_49 : decode cX6_turned 49 = .ok (.iload 4, 2) := by decide +kernel
theorem dX6_turned_51 : decode cX6_turned 51 = .ok (.invokevirtual 227, 3) := by decide +kernel
theorem dX6_turned_54 : decode cX6_turned 54 = .ok (.ifCond .ne 6, 3) := by decide +kernel
theorem dX6_turned_57 : decode cX6_turned 57 = .ok (.goto 101, 3) := by decide +kernel
theorem dX6_turned_60 : decode cX6_turned 60 = .ok (.aload_n 0, 1) := by decide +kernel
theorem dX6_turned_61 : decode cX6_turned 61 = .ok (.getfield 10, 3) := by decide +kernel
theorem dX6_turned_64 : decode cX6_turned 64 = .ok (.getfield 110, 3) := by decide +kernel
theorem dX6_turned_67 : decode cX6_turned 67 = .ok (.iload 4, 2) := by decide +kernel
theorem dX6_turned_69 : decode cX6_turned 69 = .ok (.iaload, 1) := by decide +kernel
theorem dX6_turned_70 : decode cX6_turned 70 = .ok (.istore 5, 2) := by decide +kernel
theorem dX6_turned_72 : decode cX6_turned 72 = .ok (.iconst 1, 1) := by decide +kernel
theorem dX6_turned_73 : decode cX6_turned 73 = .ok (.istore 6, 2) := by decide +kernel
theorem dX6_turned_75 : decode cX6_turned 75 = .ok (.iload 6, 2) := by decide +kernel
theorem dX6_turned_77 : decode cX6_turned 77 = .ok (.aload_n 0, 1) := by decide +kernel
theorem dX6_turned_78 : decode cX6_turned 78 = .ok (.getfield 10, 3) := by decide +kernel
theorem dX6_turned_81 : decode cX6_turned 81 = .ok (.getfield 94, 3) := by decide +kernel
theorem dX6_turned_84 : decode cX6_turned 84 = .ok (.if_icmp .ge 62, 3) := by decide +kernel
theorem dX6_turned_87 : decode cX6_turned 87 = .ok (.aload_n 0, 1) := by decide +kernel
theorem dX6_turned_88 : decode cX6_turned 88 = .ok (.getfield 10, 3) := by decide +kernel
theorem dX6_turned_91 : decode cX6_turned 91 = .ok (.getfield 110, 3) := by decide +kernel
theorem dX6_turned_94 : decode cX6_turned 94 = .ok (.iload 4, 2) := by decide +kernel
theorem dX6_turned_96 : decode cX6_turned 96 = .ok (.aload_n 0, 1) := by decide +kernel
theorem dX6_turned_97 : decode cX6_turned 97 = .ok (.getfield 10, 3) := by decide +kernel
theorem dX6_turned_100 : decode cX6_turned 100 = .ok (.iload 5, 2) := by decide +kernel
theorem dX6_turned_102 : decode cX6_turned 102 = .ok (.iload 6, 2) := by decide +kernel
theorem dX6_turned_104 : decode cX6_turned 104 = .ok (.invokevirtual 230, 3) := by decide +kernel
theorem dX6_turned_107 : decode cX6_turned 107 = .ok (.iastore, 1) := by decide +kernel
theorem dX6_turned_108 : decode cX6_turned 108 = .ok (.aload_n 0, 1) := by decide +kernel
theorem dX6_turned_109 : decode cX6_turned 109 = .ok (.getfield 34, 3) := by decide +kernel
theorem dX6_turned_112 : decode cX6_turned 112 = .ok (.iload_n 1, 1) := by decide +kernel
theorem dX6_turned_113 : decode cX6_turned 113 = .ok (.iconst 0, 1) := by decide +kernel
theorem dX6_turned_114 : decode cX6_turned 114 = .ok (.invokevirtual 163, 3) := by decide +kernel
theorem dX6_turned_117 : decode cX6_turned 117 = .ok (.istore 7, 2) := by decide +kernel
theorem dX6_turned_119 : decode cX6_turned 119 = .ok (.iload 7, 2) := by decide +kernel
theorem dX6_turned_121 : decode cX6_turned 121 = .ok (.iload_n 2, 1) := by decide +kernel
theorem dX6_turned_122 : decode cX6_turned 122 = .ok (.invokestatic 233, 3) := by decide +kernel
theorem dX6_turned_125 : decode cX6_turned 125 = .ok (.ifCond .eq 15, 3) := by decide +kernel
theorem dX6_turned_128 : decode cX6_turned 128 = .ok (.iload 7, 2) := by decide +kernel
theorem dX6_turned_130 : decode cX6_turned 130 = .ok (.istore_n 2, 1) := by decide +kernel
theorem dX6_turned_131 : decode cX6_turned 131 = .ok (.bipush 100, 2) := by decide +kernel
theorem dX6_turned_133 : decode cX6_turned 133 = .ok (.iload 4, 2) := by decide +kernel
theorem dX6_turned_135 : decode cX6_turned 135 = .ok (.imul, 1) := by decide +kernel
theorem dX6_turned_136 : decode cX6_turned 136 = .ok (.iload 6, 2) := by decide +kernel
theorem dX6_turned_138 : decode cX6_turned 138 = .ok (.iadd, 1) := by decide +kernel
theorem dX6_turned_139 : decode cX6_turned 139 = .ok (.istore_n 3, 1) := by decide +kernel
theorem dX6_turned_140 : decode cX6_turned 140 = .ok (.iinc 6 1, 3) := by decide +kernel
theorem dX6_turned_143 : decode cX6_turned 143 = .ok (.goto (-68), 3) := by decide +kernel
theorem dX6_turned_146 : decode cX6_turned 146 = .ok (.aload_n 0, 1) := by decide +kernel
theorem dX6_turned_147 : decode cX6_turned 147 = .ok (.getfield 10, 3) := by decide +kernel
theorem dX6_turned_150 : decode cX6_turned 150 = .ok (.getfield 110, 3) := by decide +kernel
theorem dX6_turned_153 : decode cX6_turned 153 = .ok (.iload 4, 2) := by decide +kernel
theorem dX6_turned_155 : decode cX6_turned 155 = .ok (.iload 5, 2) := by decide +kernel
theorem dX6_turned_157 : decode cX6_turned 157 = .ok (.iastore, 1) := by decide +kernel
theorem dX6_turned_158 : decode cX6_turned 158 = .ok (.iinc 4 1, 3) := by decide +kernel
theorem dX6_turned_161 : decode cX6_turned 161 = .ok (.goto (-129), 3) := by decide +kernel
theorem dX6_turned_164 : decode cX6_turned 164 = .ok (.iload_n 3, 1) := by decide +kernel
theorem dX6_turned_165 : decode cX6_turned 165 = .ok (.ireturn, 1) := by decide +kernel
theorem dX6_roundFor_0 : decode cX6_roundFor 0 = .ok (.aload_n 0, 1) := by decide +kernel
theorem dX6_roundFor_1 : decode cX6_roundFor 1 = .ok (.getfield 10, 3) := by decide +kernel
theorem dX6_roundFor_4 : decode cX6_roundFor 4 = .ok (.iload_n 1, 1) := by decide +kernel
theorem dX6_roundFor_5 : decode cX6_roundFor 5 = .ok (.invokevirtual 127, 3) := by decide +kernel
theorem dX6_roundFor_8 : decode cX6_roundFor 8 = .ok (.ifCond .eq 14, 3) := by decide +kernel
theorem dX6_roundFor_11 : decode cX6_roundFor 11 = .ok (.iload_n 2, 1) := by decide +kernel
theorem dX6_roundFor_12 : decode cX6_roundFor 12 = .ok (.iconst 0, 1) := by decide +kernel
theorem dX6_roundFor_13 : decode cX6_roundFor 13 = .ok (.sipush 999, 3) := by decide +kernel
theorem dX6_roundFor_16 : decode cX6_roundFor 16 = .ok (.invokestatic 71, 3) := by decide +kernel
theorem dX6_roundFor_19 : decode cX6_roundFor 19 = .ok (.ifCond .ne 9, 3) := by decide +kernel
theorem dX6_roundFor_22 : decode cX6_roundFor 22 = .ok (.aload_n 0, 1) := by decide +kernel
theorem dX6_roundFor_23 : decode cX6_roundFor 23 = .ok (.iconst 0, 1) := by decide +kernel
theorem dX6_roundFor_24 : decode cX6_roundFor 24 = .ok (.invokevirtual 75, 3) := by decide +kernel
theorem dX6_roundFor_27 : decode cX6_roundFor 27 = .ok (.ireturn, 1) := by decide +kernel
theorem dX6_roundFor_28 : decode cX6_roundFor 28 = .ok (.aload_n 0, 1) := by decide +kernel
theorem dX6_roundFor_29 : decode cX6_roundFor 29 = .ok (.getfield 10, 3) := by decide +kernel
theorem dX6_roundFor_32 : decode cX6_roundFor 32 = .ok (.getfield 94, 3) := by decide +kernel
theorem dX6_roundFor_35 : decode cX6_roundFor 35 = .ok (.istore_n 3, 1) := by decide +kernel
theorem dX6_roundFor_36 : decode cX6_roundFor 36 = .ok (.iconst (-1), 1) := by decide +kernel
theorem dX6_roundFor_37 : decode cX6_roundFor 37 = .ok (.istore 4, 2) := by decide +kernel
theorem dX6_roundFor_39 : decode cX6_roundFor 39 = .ok (.iconst 0, 1) := by decide +kernel
theorem dX6_roundFor_40 : decode cX6_roundFor 40 = .ok (.istore 5, 2) := by decide +kernel
theorem dX6_roundFor_42 : decode cX6_roundFor 42 = .ok (.iconst 1, 1) := by decide +kernel
theorem dX6_roundFor_43 : decode cX6_roundFor 43 = .ok (.istore 6, 2) := by decide +kernel
theorem dX6_roundFor_45 : decode cX6_roundFor 45 = .ok (.iload 6, 2) := by decide +kernel
theorem dX6_roundFor_47 : decode cX6_roundFor 47 = .ok (.bipush 12, 2) := by decide +kernel
theorem dX6_roundFor_49 : decode cX6_roundFor 49 = .ok (.if_icmp .gt 47, 3) := by decide +kernel
theorem dX6_roundFor_52 : decode cX6_roundFor 52 = .ok (.aload_n 0, 1) := by decide +kernel
theorem dX6_roundFor_53 : decode cX6_roundFor 53 = .ok (.getfield 10, 3) := by decide +kernel
theorem dX6_roundFor_56 : decode cX6_roundFor 56 = .ok (.iload 6, 2) := by decide +kernel
theorem dX6_roundFor_58 : decode cX6_roundFor 58 = .ok (.putfield 94, 3) := by decide +kernel
theorem dX6_roundFor_61 : decode cX6_roundFor 61 = .ok (.aload_n 0, 1) := by decide +kernel
theorem dX6_roundFor_62 : decode cX6_roundFor 62 = .ok (.getfield 34, 3) := by decide +kernel
theorem dX6_roundFor_65 : decode cX6_roundFor 65 = .ok (.iload_n 1, 1) := by decide +kernel
theorem dX6_roundFor_66 : decode cX6_roundFor 66 = .ok (.iload_n 2, 1) := by decide +kernel
theorem dX6_roundFor_67 : decode cX6_roundFor 67 = .ok (.invokevirtual 163, 3) := by decide +kernel
theorem dX6_roundFor_70 : decode cX6_roundFor 70 = .ok (.istore 7, 2) := by decide +kernel
theorem dX6_roundFor_72 : decode cX6_roundFor 72 = .ok (.iload 7, 2) := by decide +kernel
theorem dX6_roundFor_74 : decode cX6_roundFor 74 = .ok (.iload 4, 2) := by decide +kernel
theorem dX6_roundFor_76 : decode cX6_roundFor 76 = .ok (.invokestatic 233, 3) := by decide +kernel
theorem dX6_roundFor_79 : decode cX6_roundFor 79 = .ok (.ifCond .eq 11, 3) := by decide +kernel
theorem dX6_roundFor_82 : decode cX6_roundFor 82 = .ok (.iload 7, 2) := by decide +kernel
theorem dX6_roundFor_84 : decode cX6_roundFor 84 = .ok (.istore 4, 2) := by decide +kernel
theorem dX6_roundFor_86 : decode cX6_roundFor 86 = .ok (.iload 6, 2) := by decide +kernel
theorem dX6_roundFor_88 : decode cX6_roundFor 88 = .ok (.istore 5, 2) := by decide +kernel
theorem dX6_roundFor_90 : decode cX6_roundFor 90 = .ok (.iinc 6 1, 3) := by decide +kernel
theorem dX6_roundFor_93 : decode cX6_roundFor 93 = .ok (.goto (-48), 3) := by decide +kernel
theorem dX6_roundFor_96 : decode cX6_roundFor 96 = .ok (.aload_n 0, 1) := by decide +kernel
theorem dX6_roundFor_97 : decode cX6_roundFor 97 = .ok (.getfield 10, 3) := by decide +kernel
theorem dX6_roundFor_100 : decode cX6_roundFor 100 = .ok (.iload_n 3, 1) := by decide +kernel
theorem dX6_roundFor_101 : decode cX6_roundFor 101 = .ok (.putfield 94, 3) := by decide +kernel
theorem dX6_roundFor_104 : decode cX6_roundFor 104 = .ok (.iload 4, 2) := by decide +kernel
theorem dX6_roundFor_106 : decode cX6_roundFor 106 = .ok (.ifCond .ge 11, 3) := by decide +kernel
theorem dX6_roundFor_109 : decode cX6_roundFor 109 = .ok (.aload_n 0, 1) := by decide +kernel
theorem dX6_roundFor_110 : decode cX6_roundFor 110 = .ok (.iconst 3, 1) := by decide +kernel
theorem dX6_roundFor_111 : decode cX6_roundFor 111 = .ok (.invokevirtual 75, 3) := by decide +kernel
theorem dX6_roundFor_114 : decode cX6_roundFor 114 = .ok (.goto 5, 3) := by decide +kernel
theorem dX6_roundFor_117 : decode cX6_roundFor 117 = .ok (.iload 5, 2) := by decide +kernel
theorem dX6_roundFor_119 : decode cX6_roundFor 119 = .ok (.ireturn, 1) := by decide +kernel
theorem dX6_nearFor_0 : decode cX6_nearFor 0 = .ok (.aload_n 0, 1) := by decide +kernel
theorem dX6_nearFor_1 : decode cX6_nearFor 1 = .ok (.getfield 10, 3) := by decide +kernel
theorem dX6_nearFor_4 : decode cX6_nearFor 4 = .ok (.iload_n 1, 1) := by decide +kernel
theorem dX6_nearFor_5 : decode cX6_nearFor 5 = .ok (.invokevirtual 127, 3) := by decide +kernel
theorem dX6_nearFor_8 : decode cX6_nearFor 8 = .ok (.ifCond .eq 14, 3) := by decide +kernel
theorem dX6_nearFor_11 : decode cX6_nearFor 11 = .ok (.iload_n 2, 1) := by decide +kernel
theorem dX6_nearFor_12 : decode cX6_nearFor 12 = .ok (.iconst 0, 1) := by decide +kernel
theorem dX6_nearFor_13 : decode cX6_nearFor 13 = .ok (.sipush 999, 3) := by decide +kernel
theorem dX6_nearFor_16 : decode cX6_nearFor 16 = .ok (.invokestatic 71, 3) := by decide +kernel
theorem dX6_nearFor_19 : decode cX6_nearFor 19 = .ok (.ifCond .ne 9, 3) := by decide +kernel
theorem dX6_nearFor_22 : decode cX6_nearFor 22 = .ok (.aload_n 0, 1) := by decide +kernel
theorem dX6_nearFor_23 : decode cX6_nearFor 23 = .ok (.iconst 0, 1) := by decide +kernel
theorem dX6_nearFor_24 : decode cX6_nearFor 24 = .ok (.invokevirtual 75, 3) := by decide +kernel
theorem dX6_nearFor_27 : decode cX6_nearFor 27 = .ok (.ireturn, 1) := by decide +kernel
theorem dX6_nearFor_28 : decode cX6_nearFor 28 = .ok (.aload_n 0, 1) := by decide +kernel
theorem dX6_nearFor_29 : decode cX6_nearFor 29 = .ok (.getfield 10, 3) := by decide +kernel
theorem dX6_nearFor_32 : decode cX6_nearFor 32 = .ok (.getfield 97, 3) := by decide +kernel
theorem dX6_nearFor_35 : decode cX6_nearFor 35 = .ok (.istore_n 3, 1) := by decide +kernel
theorem dX6_nearFor_36 : decode cX6_nearFor 36 = .ok (.iconst (-1), 1) := by decide +kernel
theorem dX6_nearFor_37 : decode cX6_nearFor 37 = .ok (.istore 4, 2) := by decide +kernel
theorem dX6_nearFor_39 : decode cX6_nearFor 39 = .ok (.iconst (-1), 1) := by decide +kernel
theorem dX6_nearFor_40 : decode cX6_nearFor 40 = .ok (.istore 5, 2) := by decide +kernel
theorem dX6_nearFor_42 : decode cX6_nearFor 42 = .ok (.iconst (-1), 1) := by decide +kernel
theorem dX6_nearFor_43 : decode cX6_nearFor 43 = .ok (.istore 6, 2) := by decide +kernel
theorem dX6_nearFor_45 : decode cX6_nearFor 45 = .ok (.iload 6, 2) := by decide +kernel
theorem dX6_nearFor_47 : decode cX6_nearFor 47 = .ok (.bipush 11, 2) := by decide +kernel
theorem dX6_nearFor_49 : decode cX6_nearFor 49 = .ok (.if_icmp .gt 47, 3) := by decide +kernel
theorem dX6_nearFor_52 : decode cX6_nearFor 52 = .ok (.aload_n 0, 1) := by decide +kernel
theorem dX6_nearFor_53 : decode cX6_nearFor 53 = .ok (.getfield 10, 3) := by decide +kernel
theorem dX6_nearFor_56 : decode cX6_nearFor 56 = .ok (.iload 6, 2) := by decide +kernel
theorem dX6_nearFor_58 : decode cX6_nearFor 58 = .ok (.putfield 97, 3) := by decide +kernel
theorem dX6_nearFor_61 : decode cX6_nearFor 61 = .ok (.aload_n 0, 1) := by decide +kernel
theorem dX6_nearFor_62 : decode cX6_nearFor 62 = .ok (.getfield 34, 3) := by decide +kernel
theorem dX6_nearFor_65 : decode cX6_nearFor 65 = .ok (.iload_n 1, 1) := by decide +kernel
theorem dX6_nearFor_66 : decode cX6_nearFor 66 = .ok (.iload_n 2, 1) := by decide +kernel
theorem dX6_nearFor_67 : decode cX6_nearFor 67 = .ok (.invokevirtual 163, 3) := by decide +kernel
theorem dX6_nearFor_70 : decode cX6_nearFor 70 = .ok (.istore 7, 2) := by decide +kernel
theorem dX6_nearFor_72 : decode cX6_nearFor 72 = .ok (.iload 7, 2) := by decide +kernel
theorem dX6_nearFor_74 : decode cX6_nearFor 74 = .ok (.iload 4, 2) := by decide +kernel
theorem dX6_nearFor_76 : decode cX6_nearFor 76 = .ok (.invokestatic 233, 3) := by decide +kernel
theorem dX6_nearFor_79 : decode cX6_nearFor 79 = .ok (.ifCond .eq 11, 3) := by decide +kernel
theorem dX6_nearFor_82 : decode cX6_nearFor 82 = .ok (.iload 7, 2) := by decide +kernel
theorem dX6_nearFor_84 : decode cX6_nearFor 84 = .ok (.istore 4, 2) := by decide +kernel
theorem dX6_nearFor_86 : decode cX6_nearFor 86 = .ok (.iload 6, 2) := by decide +kernel
theorem dX6_nearFor_88 : decode cX6_nearFor 88 = .ok (.istore 5, 2) := by decide +kernel
theorem dX6_nearFor_90 : decode cX6_nearFor 90 = .ok (.iinc 6 1, 3) := by decide +kernel
theorem dX6_nearFor_93 : decode cX6_nearFor 93 = .ok (.goto (-48), 3) := by decide +kernel
theorem dX6_nearFor_96 : decode cX6_nearFor 96 = .ok (.aload_n 0, 1) := by decide +kernel
theorem dX6_nearFor_97 : decode cX6_nearFor 97 = .ok (.getfield 10, 3) := by decide +kernel
theorem dX6_nearFor_100 : decode cX6_nearFor 100 = .ok (.iload_n 3, 1) := by decide +kernel
theorem dX6_nearFor_101 : decode cX6_nearFor 101 = .ok (.putfield 97, 3) := by decide +kernel
theorem dX6_nearFor_104 : decode cX6_nearFor 104 = .ok (.iload 4, 2) := by decide +kernel
theorem dX6_nearFor_106 : decode cX6_nearFor 106 = .ok (.ifCond .ge 11, 3) := by decide +kernel
theorem dX6_nearFor_109 : decode cX6_nearFor 109 = .ok (.aload_n 0, 1) := by decide +kernel
theorem dX6_nearFor_110 : decode cX6_nearFor 110 = .ok (.iconst 3, 1) := by decide +kernel
theorem dX6_nearFor_111 : decode cX6_nearFor 111 = .ok (.invokevirtual 75, 3) := by decide +kernel
theorem dX6_nearFor_114 : decode cX6_nearFor 114 = .ok (.goto 5, 3) := by decide +kernel
theorem dX6_nearFor_117 : decode cX6_nearFor 117 = .ok (.iload 5, 2) := by decide +kernel
theorem dX6_nearFor_119 : decode cX6_nearFor 119 = .ok (.ireturn, 1) := by decide +kernel
theorem dX6_chance_0 : decode cX6_chance 0 = .ok (.aload_n 0, 1) := by decide +kernel
theorem dX6_chance_1 : decode cX6_chance 1 = .ok (.getfield 10, 3) := by decide +kernel
theorem dX6_chance_4 : decode cX6_chance 4 = .ok (.iload_n 1, 1) := by decide +kernel
theorem dX6_chance_5 : decode cX6_chance 5 = .ok (.invokevirtual 127, 3) := by decide +kernel
theorem dX6_chance_8 : decode cX6_chance 8 = .ok (.ifCond .eq 13, 3) := by decide +kernel
theorem dX6_chance_11 : decode cX6_chance 11 = .ok (.iload_n 2, 1) := by decide +kernel
theorem dX6_chance_12 : decode cX6_chance 12 = .ok (.iconst 1, 1) := by decide +kernel
theorem dX6_chance_13 : decode cX6_chance 13 = .ok (.bipush 40, 2) := by decide +kernel
theorem dX6_chance_15 : decode cX6_chance 15 = .ok (.invokestatic 71, 3) := by decide +kernel
theorem dX6_chance_18 : decode cX6_chance 18 = .ok (.ifCond .ne 9, 3) := by decide +kernel
theorem dX6_chance_21 : decode cX6_chance 21 = .ok (.aload_n 0, 1) := by decide +kernel
theorem dX6_chance_22 : decode cX6_chance 22 = .ok (.iconst 0, 1) := by decide +kernel
theorem dX6_chance_23 : decode cX6_chance 23 = .ok (.invokevirtual 75, 3) := by decide +kernel
theorem dX6_chance_26 : decode cX6_chance 26 = .ok (.ireturn, 1) := by decide +kernel
theorem dX6_chance_27 : decode cX6_chance 27 = .ok (.iconst 0, 1) := by decide +kernel
theorem dX6_chance_28 : decode cX6_chance 28 = .ok (.istore_n 3, 1) := by decide +kernel
theorem dX6_chance_29 : decode cX6_chance 29 = .ok (.iconst 0, 1) := by decide +kernel
theorem dX6_chance_30 : decode cX6_chance 30 = .ok (.istore 4, 2) := by decide +kernel
theorem dX6_chance_32 : decode cX6_chance 32 = .ok (.iload 4, 2) := by decide +kernel
theorem dX6_chance_34 : decode cX6_chance 34 = .ok (.iload_n 2, 1) := by decide +kernel
theorem dX6_chance_35 : decode cX6_chance 35 = .ok (.if_icmp .ge 33, 3) := by decide +kernel
theorem dX6_chance_38 : decode cX6_chance 38 = .ok (.aload_n 0, 1) := by decide +kernel
theorem dX6_chance_39 : decode cX6_chance 39 = .ok (.getfield 34, 3) := by decide +kernel
theorem dX6_chance_42 : decode cX6_chance 42 = .ok (.iload_n 1, 1) := by decide +kernel
theorem dX6_chance_43 : decode cX6_chance 43 = .ok (.aload_n 0, 1) := by decide +kernel
theorem dX6_chance_44 : decode cX6_chance 44 = .ok (.getfield 10, 3) := by decide +kernel
theorem dX6_chance_47 : decode cX6_chance 47 = .ok (.invokevirtual 236, 3) := by decide +kernel
theorem dX6_chance_50 : decode cX6_chance 50 = .ok (.bipush 60, 2) := by decide +kernel
theorem dX6_chance_52 : decode cX6_chance 52 = .ok (.irem, 1) := by decide +kernel
theorem dX6_chance_53 : decode cX6_chance 53 = .ok (.invokevirtual 156, 3) := by decide +kernel
theorem dX6_chance_56 : decode cX6_chance 56 = .ok (.ifCond .ge 6, 3) := by decide +kernel
theorem dX6_chance_59 : decode cX6_chance 59 = .ok (.iinc 3 1, 3) := by decide +kernel
theorem dX6_chance_62 : decode cX6_chance 62 = .ok (.iinc 4 1, 3) := by decide +kernel
theorem dX6_chance_65 : decode cX6_chance 65 = .ok (.goto (-33), 3) := by decide +kernel
theorem dX6_chance_68 : decode cX6_chance 68 = .ok (.iload_n 3, 1) := by decide +kernel
theorem dX6_chance_69 : decode cX6_chance 69 = .ok (.ireturn, 1) := by decide +kernel
theorem dX6_seed_0 : decode cX6_seed 0 = .ok (.aload_n 0, 1) := by decide +kernel
theorem dX6_seed_1 : decode cX6_seed 1 = .ok (.getfield 10, 3) := by decide +kernel
theorem dX6_seed_4 : decode cX6_seed 4 = .ok (.getfield 239, 3) := by decide +kernel
theorem dX6_seed_7 : decode cX6_seed 7 = .ok (.istore_n 2, 1) := by decide +kernel
theorem dX6_seed_8 : decode cX6_seed 8 = .ok (.aload_n 0, 1) := by decide +kernel
theorem dX6_seed_9 : decode cX6_seed 9 = .ok (.getfield 10, 3) := by decide +kernel
theorem dX6_seed_12 : decode cX6_seed 12 = .ok (.iload_n 1, 1) := by decide +kernel
theorem dX6_seed_13 : decode cX6_seed 13 = .ok (.putfield 239, 3) := by decide +kernel
theorem dX6_seed_16 : decode cX6_seed 16 = .ok (.iload_n 2, 1) := by decide +kernel
theorem dX6_seed_17 : decode cX6_seed 17 = .ok (.ireturn, 1) := by decide +kernel
theorem dX6_hold_0 : decode cX6_hold 0 = .ok (.iload_n 1, 1) := by decide +kernel
theorem dX6_hold_1 : decode cX6_hold 1 = .ok (.iconst 0, 1) := by decide +kernel
theorem dX6_hold_2 : decode cX6_hold 2 = .ok (.bipush 9, 2) := by decide +kernel
theorem dX6_hold_4 : decode cX6_hold 4 = .ok (.invokestatic 71, 3) := by decide +kernel
theorem dX6_hold_7 : decode cX6_hold 7 = .ok (.ifCond .eq 20, 3) := by decide +kernel
theorem dX6_hold_10 : decode cX6_hold 10 = .ok (.iload_n 2, 1) := by decide +kernel
theorem dX6_hold_11 : decode cX6_hold 11 = .ok (.iconst (-1), 1) := by decide +kernel
theorem dX6_hold_12 : decode cX6_hold 12 = .ok (.aload_n 0, 1) := by decide +kernel
theorem dX6_hold_13 : decode cX6_hold 13 = .ok (.getfield 10, 3) := by decide +kernel
theorem dX6_hold_16 : decode cX6_hold 16 = .ok (.getfield 117, 3) := by decide +kernel
theorem dX6_hold_19 : decode cX6_hold 19 = .ok (.iconst 1, 1) := by decide +kernel
theorem dX6_hold_20 : decode cX6_hold 20 = .ok (.isub, 1) := by decide +kernel
theorem dX6_hold_21 : decode cX6_hold 21 = .ok (.invokestatic 71, 3) := by decide +kernel
theorem dX6_hold_24 : decode cX6_hold 24 = .ok (.ifCond .ne 9, 3) := by decide +kernel
theorem dX6_hold_27 : decode cX6_hold 27 = .ok (.aload_n 0, 1) := by decide +kernel
theorem dX6_hold_28 : decode cX6_hold 28 = .ok (.iconst 0, 1) := by decide +kernel
theorem dX6_hold_29 : decode cX6_hold 29 = .ok (.invokevirtual 75, 3) := by decide +kernel
theorem dX6_hold_32 : decode cX6_hold 32 = .ok (.ireturn, 1) := by decide +kernel
theorem dX6_hold_33 : decode cX6_hold 33 = .ok (.aload_n 0, 1) := by decide +kernel
theorem dX6_hold_34 : decode cX6_hold 34 = .ok (.getfield 10, 3) := by decide +kernel
theorem dX6_hold_37 : decode cX6_hold 37 = .ok (.getfield 242, 3) := by decide +kernel
theorem dX6_hold_40 : decode cX6_hold 40 = .ok (.iload_n 1, 1) := by decide +kernel
theorem dX6_hold_41 : decode cX6_hold 41 = .ok (.iload_n 2, 1) := by decide +kernel
theorem dX6_hold_42 : decode cX6_hold 42 = .ok (.iastore, 1) := by decide +kernel
theorem dX6_hold_43 : decode cX6_hold 43 = .ok (.iconst 1, 1) := by decide +kernel
theorem dX6_hold_44 : decode cX6_hold 44 = .ok (.ireturn, 1) := by decide +kernel
theorem dX6_as_0 : decode cX6_as 0 = .ok (.iload_n 1, 1) := by decide +kernel
theorem dX6_as_1 : decode cX6_as 1 = .ok (.iconst 0, 1) := by decide +kernel
theorem dX6_as_2 : decode cX6_as 2 = .ok (.bipush 9, 2) := by decide +kernel
theorem dX6_as_4 : decode cX6_as 4 = .ok (.invokestatic 71, 3) := by decide +kernel
theorem dX6_as_7 : decode cX6_as 7 = .ok (.ifCond .eq 13, 3) := by decide +kernel
theorem dX6_as_10 : decode cX6_as 10 = .ok (.iload_n 2, 1) := by decide +kernel
theorem dX6_as_11 : decode cX6_as 11 = .ok (.iconst 0, 1) := by decide +kernel
theorem dX6_as_12 : decode cX6_as 12 = .ok (.bipush 6, 2) := by decide +kernel
theorem dX6_as_14 : decode cX6_as 14 = .ok (.invokestatic 71, 3) := by decide +kernel
theorem dX6_as_17 : decode cX6_as 17 = .ok (.ifCond .ne 9, 3) := by decide +kernel
theorem dX6_as_20 : decode cX6_as 20 = .ok (.aload_n 0, 1) := by decide +kernel
theorem dX6_as_21 : decode cX6_as 21 = .ok (.iconst 0, 1) := by decide +kernel
theorem dX6_as_22 : decode cX6_as 22 = .ok (.invokevirtual 75, 3) := by decide +kernel
theorem dX6_as_25 : decode cX6_as 25 = .ok (.ireturn, 1) := by decide +kernel
theorem dX6_as_26 : decode cX6_as 26 = .ok (.aload_n 0, 1) := by decide +kernel
theorem dX6_as_27 : decode cX6_as 27 = .ok (.getfield 10, 3) := by decide +kernel
theorem dX6_as_30 : decode cX6_as 30 = .ok (.getfield 242, 3) := by decide +kernel
theorem dX6_as_33 : decode cX6_as 33 = .ok (.iload_n 1, 1) := by decide +kernel
theorem dX6_as_34 : decode cX6_as 34 = .ok (.iaload, 1) := by decide +kernel
theorem dX6_as_35 : decode cX6_as 35 = .ok (.istore_n 3, 1) := by decide +kernel
theorem dX6_as_36 : decode cX6_as 36 = .ok (.aload_n 0, 1) := by decide +kernel
theorem dX6_as_37 : decode cX6_as 37 = .ok (.getfield 10, 3) := by decide +kernel
theorem dX6_as_40 : decode cX6_as 40 = .ok (.iload_n 3, 1) := by decide +kernel
theorem dX6_as_41 : decode cX6_as 41 = .ok (.invokevirtual 127, 3) := by decide +kernel
theorem dX6_as_44 : decode cX6_as 44 = .ok (.ifCond .ne 9, 3) := by decide +kernel
theorem dX6_as_47 : decode cX6_as 47 = .ok (.aload_n 0, 1) := by decide +kernel
theorem dX6_as_48 : decode cX6_as 48 = .ok (.iconst 5, 1) := by decide +kernel
theorem dX6_as_49 : decode cX6_as 49 = .ok (.invokevirtual 75, 3) := by decide +kernel
theorem dX6_as_52 : decode cX6_as 52 = .ok (.ireturn, 1) := by decide +kernel
theorem dX6_as_53 : decode cX6_as 53 = .ok (.aload_n 0, 1) := by decide +kernel
theorem dX6_as_54 : decode cX6_as 54 = .ok (.getfield 10, 3) := by decide +kernel
theorem dX6_as_57 : decode cX6_as 57 = .ok (.getfield 133, 3) := by decide +kernel
theorem dX6_as_60 : decode cX6_as 60 = .ok (.iload_n 3, 1) := by decide +kernel
theorem dX6_as_61 : decode cX6_as 61 = .ok (.iaload, 1) := by decide +kernel
theorem dX6_as_62 : decode cX6_as 62 = .ok (.iload_n 2, 1) := by decide +kernel
theorem dX6_as_63 : decode cX6_as 63 = .ok (.invokestatic 245, 3) := by decide +kernel
theorem dX6_as_66 : decode cX6_as 66 = .ok (.ifCond .ne 9, 3) := by decide +kernel
theorem dX6_as_69 : decode cX6_as 69 = .ok (.aload_n 0, 1) := by decide +kernel
theorem dX6_as_70 : decode cX6_as 70 = .ok (.iconst 2, 1) := by decide +kernel
theorem dX6_as_71 : decode cX6_as 71 = .ok (.invokevirtual 75, 3) := by decide +kernel
theorem dX6_as_74 : decode cX6_as 74 = .ok (.ireturn, 1) := by decide +kernel
theorem dX6_as_75 : decode cX6_as 75 = .ok (.iload_n 3, 1) := by decide +kernel
theorem dX6_as_76 : decode cX6_as 76 = .ok (.ireturn, 1) := by decide +kernel
theorem dX6_sheet_0 : decode cX6_sheet 0 = .ok (.iload_n 1, 1) := by decide +kernel
theorem dX6_sheet_1 : decode cX6_sheet 1 = .ok (.invokestatic 248, 3) := by decide +kernel
theorem dX6_sheet_4 : decode cX6_sheet 4 = .ok (.ifCond .eq 25, 3) := by decide +kernel
theorem dX6_sheet_7 : decode cX6_sheet 7 = .ok (.iload_n 2, 1) := by decide +kernel
theorem dX6_sheet_8 : decode cX6_sheet 8 = .ok (.ifCond .eq 27, 3) := by decide +kernel
theorem dX6_sheet_11 : decode cX6_sheet 11 = .ok (.iload_n 2, 1) := by decide +kernel
theorem dX6_sheet_12 : decode cX6_sheet 12 = .ok (.bipush 8, 2) := by decide +kernel
theorem dX6_sheet_14 : decode cX6_sheet 14 = .ok (.if_icmp .eq 21, 3) := by decide +kernel
theorem dX6_sheet_17 : decode cX6_sheet 17 = .ok (.iload_n 2, 1) := by decide +kernel
theorem dX6_sheet_18 : decode cX6_sheet 18 = .ok (.bipush 16, 2) := by decide +kernel
theorem dX6_sheet_20 : decode cX6_sheet 20 = .ok (.if_icmp .eq 15, 3) := by decide +kernel
theorem dX6_sheet_23 : decode cX6_sheet 23 = .ok (.iload_n 2, 1) := by decide +kernel
theorem dX6_sheet_24 : decode cX6_sheet 24 = .ok (.bipush 32, 2) := by decide +kernel
theorem dX6_sheet_26 : decode cX6_sheet 26 = .ok (.if_icmp .eq 9, 3) := by decide +kernel
theorem dX6_sheet_29 : decode cX6_sheet 29 = .ok (.aload_n 0, 1) := by decide +kernel
theorem dX6_sheet_30 : decode cX6_sheet 30 = .ok (.iconst 0, 1) := by decide +kernel
theorem dX6_sheet_31 : decode cX6_sheet 31 = .ok (.invokevirtual 75, 3) := by decide +kernel
theorem dX6_sheet_34 : decode cX6_sheet 34 = .ok (.ireturn, 1) := by decide +kernel
theorem dX6_sheet_35 : decode cX6_sheet 35 = .ok (.iload_n 3, 1) := by decide +kernel
theorem dX6_sheet_36 : decode cX6_sheet 36 = .ok (.ifCond .ge 10, 3) := by decide +kernel
theorem dX6_sheet_39 : decode cX6_sheet 39 = .ok (.aload_n 0, 1) := by decide +kernel
theorem dX6_sheet_40 : decode cX6_sheet 40 = .ok (.bipush 6, 2) := by decide +kernel
theorem dX6_sheet_42 : decode cX6_sheet 42 = .ok (.invokevirtual 75, 3) := by decide +kernel
theorem dX6_sheet_45 : decode cX6_sheet 45 = .ok (.ireturn, 1) := by decide +kernel
theorem dX6_sheet_46 : decode cX6_sheet 46 = .ok (.iload_n 3, 1) := by decide +kernel
theorem dX6_sheet_47 : decode cX6_sheet 47 = .ok (.bipush 40, 2) := by decide +kernel
theorem dX6_sheet_49 : decode cX6_sheet 49 = .ok (.if_icmp .le 9, 3) := by decide +kernel
theorem dX6_sheet_52 : decode cX6_sheet 52 = .ok (.aload_n 0, 1) := by decide +kernel
theorem dX6_sheet_53 : decode cX6_sheet 53 = .ok (.iconst 0, 1) := by decide +kernel
theorem dX6_sheet_54 : decode cX6_sheet 54 = .ok (.invokevirtual 75, 3) := by decide +kernel
theorem dX6_sheet_57 : decode cX6_sheet 57 = .ok (.ireturn, 1) := by decide +kernel
theorem dX6_sheet_58 : decode cX6_sheet 58 = .ok (.aload_n 0, 1) := by decide +kernel
theorem dX6_sheet_59 : decode cX6_sheet 59 = .ok (.getfield 58, 3) := by decide +kernel
theorem dX6_sheet_62 : decode cX6_sheet 62 = .ok (.iload_n 1, 1) := by decide +kernel
theorem dX6_sheet_63 : decode cX6_sheet 63 = .ok (.aaload, 1) := by decide +kernel
theorem dX6_sheet_64 : decode cX6_sheet 64 = .ok (.iload_n 2, 1) := by decide +kernel
theorem dX6_sheet_65 : decode cX6_sheet 65 = .ok (.iload_n 3, 1) := by decide +kernel
theorem dX6_sheet_66 : decode cX6_sheet 66 = .ok (.invokevirtual 251, 3) := by decide +kernel
theorem dX6_sheet_69 : decode cX6_sheet 69 = .ok (.aload_n 0, 1) := by decide +kernel
theorem dX6_sheet_70 : decode cX6_sheet 70 = .ok (.getfield 58, 3) := by decide +kernel
theorem dX6_sheet_73 : decode cX6_sheet 73 = .ok (.iload_n 1, 1) := by decide +kernel
theorem dX6_sheet_74 : decode cX6_sheet 74 = .ok (.aaload, 1) := by decide +kernel
theorem dX6_sheet_75 : decode cX6_sheet 75 = .ok (.getfield 254, 3) := by decide +kernel
theorem dX6_sheet_78 : decode cX6_sheet 78 = .ok (.ireturn, 1) := by decide +kernel
theorem dX6_write_0 : decode cX6_write 0 = .ok (.iload_n 1, 1) := by decide +kernel
theorem dX6_write_1 : decode cX6_write 1 = .ok (.invokestatic 248, 3) := by decide +kernel
theorem dX6_write_4 : decode cX6_write 4 = .ok (.ifCond .ne 9, 3) := by decide +kernel
theorem dX6_write_7 : decode cX6_write 7 = .ok (.aload_n 0, 1) := by decide +kernel
theorem dX6_write_8 : decode cX6_write 8 = .ok (.iconst 0, 1) := by decide +kernel
theorem dX6_write_9 : decode cX6_write 9 = .ok (.invokevirtual 75, 3) := by decide +kernel
theorem dX6_write_12 : decode cX6_write 12 = .ok (.ireturn, 1) := by decide +kernel
theorem dX6_write_13 : decode cX6_write 13 = .ok (.aload_n 0, 1) := by decide +kernel
theorem dX6_write_14 : decode cX6_write 14 = .ok (.getfield 58, 3) := by decide +kernel
theorem dX6_write_17 : decode cX6_write 17 = .ok (.iload_n 1, 1) := by decide +kernel
theorem dX6_write_18 : decode cX6_write 18 = .ok (.aaload, 1) := by decide +kernel
theorem dX6_write_19 : decode cX6_write 19 = .ok (.getfield 255, 3) := by decide +kernel
theorem dX6_write_22 : decode cX6_write 22 = .ok (.ifCond .ne 9, 3) := by decide +kernel
theorem dX6_write_25 : decode cX6_write 25 = .ok (.aload_n 0, 1) := by decide +kernel
theorem dX6_write_26 : decode cX6_write 26 = .ok (.iconst 5, 1) := by decide +kernel
theorem dX6_write_27 : decode cX6_write 27 = .ok (.invokevirtual 75, 3) := by decide +kernel
theorem dX6_write_30 : decode cX6_write 30 = .ok (.ireturn, 1) := by decide +kernel
theorem dX6_write_31 : decode cX6_write 31 = .ok (.iload_n 2, 1) := by decide +kernel
theorem dX6_write_32 : decode cX6_write 32 = .ok (.iconst 0, 1) := by decide +kernel
theorem dX6_write_33 : decode cX6_write 33 = .ok (.aload_n 0, 1) := by decide +kernel
theorem dX6_write_34 : decode cX6_write 34 = .ok (.getfield 58, 3) := by decide +kernel
theorem dX6_write_37 : decode cX6_write 37 = .ok (.iload_n 1, 1) := by decide +kernel
theorem dX6_write_38 : decode cX6_write 38 = .ok (.aaload, 1) := by decide +kernel
theorem dX6_write_39 : decode cX6_write 39 = .ok (.getfield 254, 3) := by decide +kernel
theorem dX6_write_42 : decode cX6_write 42 = .ok (.iconst 1, 1) := by decide +kernel
theorem dX6_write_43 : decode cX6_write 43 = .ok (.isub, 1) := by decide +kernel
theorem dX6_write_44 : decode cX6_write 44 = .ok (.invokestatic 71, 3) := by decide +kernel
theorem dX6_write_47 : decode cX6_write 47 = .ok (.ifCond .ne 9, 3) := by decide +kernel
theorem dX6_write_50 : decode cX6_write 50 = .ok (.aload_n 0, 1) := by decide +kernel
theorem dX6_write_51 : decode cX6_write 51 = .ok (.iconst 0, 1) := by decide +kernel
theorem dX6_write_52 : decode cX6_write 52 = .ok (.invokevirtual 75, 3) := by decide +kernel
theorem dX6_write_55 : decode cX6_write 55 = .ok (.ireturn, 1) := by decide +kernel
theorem dX6_write_56 : decode cX6_write 56 = .ok (.aload_n 0, 1) := by decide +kernel
theorem dX6_write_57 : decode cX6_write 57 = .ok (.getfield 58, 3) := by decide +kernel
theorem dX6_write_60 : decode cX6_write 60 = .ok (.iload_n 1, 1) := by decide +kernel
theorem dX6_write_61 : decode cX6_write 61 = .ok (.aaload, 1) := by decide +kernel
theorem dX6_write_62 : decode cX6_write 62 = .ok (.iload_n 2, 1) := by decide +kernel
theorem dX6_write_63 : decode cX6_write 63 = .ok (.iload_n 3, 1) := by decide +kernel
theorem dX6_write_64 : decode cX6_write 64 = .ok (.invokevirtual 258, 3) := by decide +kernel
theorem dX6_write_67 : decode cX6_write 67 = .ok (.iconst 1, 1) := by decide +kernel
theorem dX6_write_68 : decode cX6_write 68 = .ok (.ireturn, 1) := by decide +kernel
theorem dX6_copy_0 : decode cX6_copy 0 = .ok (.iload_n 1, 1) := by decide +kernel
theorem dX6_copy_1 : decode cX6_copy 1 = .ok (.invokestatic 248, 3) := by decide +kernel
theorem dX6_copy_4 : decode cX6_copy 4 = .ok (.ifCond .eq 10, 3) := by decide +kernel
theorem dX6_copy_7 : decode cX6_copy 7 = .ok (.iload_n 3, 1) := by decide +kernel
theorem dX6_copy_8 : decode cX6_copy 8 = .ok (.invokestatic 248, 3) := by decide +kernel
theorem dX6_copy_11 : decode cX6_copy 11 = .ok (.ifCond .ne 9, 3) := by decide +kernel
theorem dX6_copy_14 : decode cX6_copy 14 = .ok (.aload_n 0, 1) := by decide +kernel
theorem dX6_copy_15 : decode cX6_copy 15 = .ok (.iconst 0, 1) := by decide +kernel
theorem dX6_copy_16 : decode cX6_copy 16 = .ok (.invokevirtual 75, 3) := by decide +kernel
theorem dX6_copy_19 : decode cX6_copy 19 = .ok (.ireturn, 1) := by decide +kernel
theorem dX6_copy_20 : decode cX6_copy 20 = .ok (.aload_n 0, 1) := by decide +kernel
theorem dX6_copy_21 : decode cX6_copy 21 = .ok (.getfield 58, 3) := by decide +kernel
theorem dX6_copy_24 : decode cX6_copy 24 = .ok (.iload_n 1, 1) := by decide +kernel
theorem dX6_copy_25 : decode cX6_copy 25 = .ok (.aaload, 1) := by decide +kernel
theorem dX6_copy_26 : decode cX6_copy 26 = .ok (.getfield 255, 3) := by decide +kernel
theorem dX6_copy_29 : decode cX6_copy 29 = .ok (.ifCond .eq 15, 3) := by decide +kernel
theorem dX6_copy_32 : decode cX6_copy 32 = .ok (.aload_n 0, 1) := by decide +kernel
theorem dX6_copy_33 : decode cX6_copy 33 = .ok (.getfield 58, 3) := by decide +kernel
theorem dX6_copy_36 : decode cX6_copy 36 = .ok (.iload_n 3, 1) := by decide +kernel
theorem dX6_copy_37 : decode cX6_copy 37 = .ok (.aaload, 1) := by decide +kernel
theorem dX6_copy_38 : decode cX6_copy 38 = .ok (.getfield 255, 3) := by decide +kernel
theorem dX6_copy_41 : decode cX6_copy 41 = .ok (.ifCond .ne 9, 3) := by decide +kernel
theorem dX6_copy_44 : decode cX6_copy 44 = .ok (.aload_n 0, 1) := by decide +kernel
theorem dX6_copy_45 : decode cX6_copy 45 = .ok (.iconst 5, 1) := by decide +kernel
theorem dX6_copy_46 : decode cX6_copy 46 = .ok (.invokevirtual 75, 3) := by decide +kernel
theorem dX6_copy_49 : decode cX6_copy 49 = .ok (.ireturn, 1) := by decide +kernel
theorem dX6_copy_50 : decode cX6_copy 50 = .ok (.aload_n 0, 1) := by decide +kernel
theorem dX6_copy_51 : decode cX6_copy 51 = .ok (.getfield 58, 3) := by decide +kernel
theorem dX6_copy_54 : decode cX6_copy 54 = .ok (.iload_n 1, 1) := by decide +kernel
theorem dX6_copy_55 : decode cX6_copy 55 = .ok (.aaload, 1) := by decide +kernel
theorem dX6_copy_56 : decode cX6_copy 56 = .ok (.getfield 255, 3) := by decide +kernel
theorem dX6_copy_59 : decode cX6_copy 59 = .ok (.aload_n 0, 1) := by decide +kernel
theorem dX6_copy_60 : decode cX6_copy 60 = .ok (.getfield 58, 3) := by decide +kernel
theorem dX6_copy_63 : decode cX6_copy 63 = .ok (.iload_n 3, 1) := by decide +kernel
theorem dX6_copy_64 : decode cX6_copy 64 = .ok (.aaload, 1) := by decide +kernel
theorem dX6_copy_65 : decode cX6_copy 65 = .ok (.getfield 255, 3) := by decide +kernel
theorem dX6_copy_68 : decode cX6_copy 68 = .ok (.if_icmp .eq 9, 3) := by decide +kernel
theorem dX6_copy_71 : decode cX6_copy 71 = .ok (.aload_n 0, 1) := by decide +kernel
theorem dX6_copy_72 : decode cX6_copy 72 = .ok (.iconst 2, 1) := by decide +kernel
theorem dX6_copy_73 : decode cX6_copy 73 = .ok (.invokevirtual 75, 3) := by decide +kernel
theorem dX6_copy_76 : decode cX6_copy 76 = .ok (.ireturn, 1) := by decide +kernel
theorem dX6_copy_77 : decode cX6_copy 77 = .ok (.aload_n 0, 1) := by decide +kernel
theorem dX6_copy_78 : decode cX6_copy 78 = .ok (.getfield 58, 3) := by decide +kernel
theorem dX6_copy_81 : decode cX6_copy 81 = .ok (.iload_n 1, 1) := by decide +kernel
theorem dX6_copy_82 : decode cX6_copy 82 = .ok (.aaload, 1) := by decide +kernel
theorem dX6_copy_83 : decode cX6_copy 83 = .ok (.iload_n 2, 1) := by decide +kernel
theorem dX6_copy_84 : decode cX6_copy 84 = .ok (.iload 5, 2) := by decide +kernel
theorem dX6_copy_86 : decode cX6_copy 86 = .ok (.invokevirtual 261, 3) := by decide +kernel
theorem dX6_copy_89 : decode cX6_copy 89 = .ok (.ifCond .eq 19, 3) := by decide +kernel
theorem dX6_copy_92 : decode cX6_copy 92 = .ok (.aload_n 0, 1) := by decide +kernel
theorem dX6_copy_93 : decode cX6_copy 93 = .ok (.getfield 58, 3) := by decide +kernel
theorem dX6_copy_96 : decode cX6_copy 96 = .ok (.iload_n 3, 1) := by decide +kernel
theorem dX6_copy_97 : decode cX6_copy 97 = .ok (.aaload, 1) := by decide +kernel
theorem dX6_copy_98 : decode cX6_copy 98 = .ok (.iload 4, 2) := by decide +kernel
theorem dX6_copy_100 : decode cX6_copy 100 = .ok (.iload 5, 2) := by decide +kernel
theorem dX6_copy_102 : decode cX6_copy 102 = .ok (.invokevirtual 261, 3) := by decide +kernel
theorem dX6_copy_105 : decode cX6_copy 105 = .ok (.ifCond .ne 9, 3) := by decide +kernel
theorem dX6_copy_108 : decode cX6_copy 108 = .ok (.aload_n 0, 1) := by decide +kernel
theorem dX6_copy_109 : decode cX6_copy 109 = .ok (.iconst 0, 1) := by decide +kernel
theorem dX6_copy_110 : decode cX6_copy 110 = .ok (.invokevirtual 75, 3) := by decide +kernel
theorem dX6_copy_113 : decode cX6_copy 113 = .ok (.ireturn, 1) := by decide +kernel
theorem dX6_copy_114 : decode cX6_copy 114 = .ok (.aload_n 0, 1) := by decide +kernel
theorem dX6_copy_115 : decode cX6_copy 115 = .ok (.getfield 58, 3) := by decide +kernel
theorem dX6_copy_118 : decode cX6_copy 118 = .ok (.iload_n 1, 1) := by decide +kernel
theorem dX6_copy_119 : decode cX6_copy 119 = .ok (.aaload, 1) := by decide +kernel
theorem dX6_copy_120 : decode cX6_copy 120 = .ok (.getfield 264, 3) := by decide +kernel
theorem dX6_copy_123 : decode cX6_copy 123 = .ok (.iload_n 2, 1) := by decide +kernel
theorem dX6_copy_124 : decode cX6_copy 124 = .ok (.aload_n 0, 1) := by decide +kernel
theorem dX6_copy_125 : decode cX6_copy 125 = .ok (.getfield 58, 3) := by decide +kernel
theorem dX6_copy_128 : decode cX6_copy 128 = .ok (.iload_n 3, 1) := by decide +kernel
theorem dX6_copy_129 : decode cX6_copy 129 = .ok (.aaload, 1) := by decide +kernel
theorem dX6_copy_130 : decode cX6_copy 130 = .ok (.getfield 264, 3) := by decide +kernel
theorem dX6_copy_133 : decode cX6_copy 133 = .ok (.iload 4, 2) := by decide +kernel
theorem dX6_copy_135 : decode cX6_copy 135 = .ok (.iload 5, 2) := by decide +kernel
theorem dX6_copy_137 : decode cX6_copy 137 = .ok (.invokestatic 267, 3) := by decide +kernel
theorem dX6_copy_140 : decode cX6_copy 140 = .ok (.iload 5, 2) := by decide +kernel
theorem dX6_copy_142 : decode cX6_copy 142 = .ok (.ireturn, 1) := by decide +kernel
theorem dX6_load_0 : decode cX6_load 0 = .ok (.iload_n 1, 1) := by decide +kernel
theorem dX6_load_1 : decode cX6_load 1 = .ok (.invokestatic 248, 3) := by decide +kernel
theorem dX6_load_4 : decode cX6_load 4 = .ok (.ifCond .ne 9, 3) := by decide +kernel
theorem dX6_load_7 : decode cX6_load 7 = .ok (.aload_n 0, 1) := by decide +kernel
theorem dX6_load_8 : decode cX6_load 8 = .ok (.iconst 0, 1) := by decide +kernel
theorem dX6_load_9 : decode cX6_load 9 = .ok (.invokevirtual 75, 3) := by decide +kernel
theorem dX6_load_12 : decode cX6_load 12 = .ok (.ireturn, 1) := by decide +kernel
theorem dX6_load_13 : decode cX6_load 13 = .ok (.aload_n 0, 1) := by decide +kernel
theorem dX6_load_14 : decode cX6_load 14 = .ok (.getfield 58, 3) := by decide +kernel
theorem dX6_load_17 : decode cX6_load 17 = .ok (.iload_n 1, 1) := by decide +kernel
theorem dX6_load_18 : decode cX6_load 18 = .ok (.aaload, 1) := by decide +kernel
theorem dX6_load_19 : decode cX6_load 19 = .ok (.astore_n 2, 1) := by decide +kernel
theorem dX6_load_20 : decode cX6_load 20 = .ok (.aload_n 2, 1) := by decide +kernel
theorem dX6_load_21 : decode cX6_load 21 = .ok (.getfield 255, 3) := by decide +kernel
theorem dX6_load_24 : decode cX6_load 24 = .ok (.ifCond .ne 9, 3) := by decide +kernel
theorem dX6_load_27 : decode cX6_load 27 = .ok (.aload_n 0, 1) := by decide +kernel
theorem dX6_load_28 : decode cX6_load 28 = .ok (.iconst 5, 1) := by decide +kernel
theorem dX6_load_29 : decode cX6_load 29 = .ok (.invokevirtual 75, 3) := by decide +kernel
theorem dX6_load_32 : decode cX6_load 32 = .ok (.ireturn, 1) := by decide +kernel
theorem dX6_load_33 : decode cX6_load 33 = .ok (.iconst 0, 1) := by decide +kernel
theorem dX6_load_34 : decode cX6_load 34 = .ok (.istore_n 3, 1) := by decide +kernel
theorem dX6_load_35 : decode cX6_load 35 = .ok (.iload_n 3, 1) := by decide +kernel
theorem dX6_load_36 : decode cX6_load 36 = .ok (.aload_n 2, 1) := by decide +kernel
theorem dX6_load_37 : decode cX6_load 37 = .ok (.getfield 254, 3) := by decide +kernel
theorem dX6_load_40 : decode cX6_load 40 = .ok (.if_icmp .ge 51, 3) := by decide +kernel
theorem dX6_load_43 : decode cX6_load 43 = .ok (.iload_n 3, 1) := by decide +kernel
theorem dX6_load_44 : decode cX6_load 44 = .ok (.aload_n 0, 1) := by decide +kernel
theorem dX6_load_45 : decode cX6_load 45 = .ok (.getfield 10, 3) := by decide +kernel
theorem dX6_load_48 : decode cX6_load 48 = .ok (.getfield 100, 3) := by decide +kernel
theorem dX6_load_51 : decode cX6_load 51 = .ok (.if_icmp .ge 40, 3) := by decide +kernel
theorem dX6_load_54 : decode cX6_load 54 = .ok (.aload_n 2, 1) := by decide +kernel
theorem dX6_load_55 : decode cX6_load 55 = .ok (.getfield 264, 3) := by decide +kernel
theorem dX6_load_58 : decode cX6_load 58 = .ok (.iload_n 3, 1) := by decide +kernel
theorem dX6_load_59 : decode cX6_load 59 = .ok (.iaload, 1) := by decide +kernel
theorem dX6_load_60 : decode cX6_load 60 = .ok (.iconst 0, 1) := by decide +kernel
theorem dX6_load_61 : decode cX6_load 61 = .ok (.sipush 4095, 3) := by decide +kernel
theorem dX6_load_64 : decode cX6_load 64 = .ok (.invokestatic 71, 3) := by decide +kernel
theorem dX6_load_67 : decode cX6_load 67 = .ok (.ifCond .eq 24, 3) := by decide +kernel
theorem dX6_load_70 : decode cX6_load 70 = .ok (.aload_n 0, 1) := by decide +kernel
theorem dX6_load_71 : decode cX6_load 71 = .ok (.getfield 10, 3) := by decide +kernel
theorem dX6_load_74 : decode cX6_load 74 = .ok (.getfield 110, 3) := by decide +kernel
theorem dX6_load_77 : decode cX6_load 77 = .ok (.iload_n 3, 1) := by decide +kernel
theorem dX6_load_78 : decode cX6_load 78 = .ok (.aload_n 2, 1) := by decide +kernel
theorem dX6_load_79 : decode cX6_load 79 = .ok (.getfield 264, 3) := by decide +kernel
theorem dX6_load_82 : decode cX6_load 82 = .ok (.iload_n 3, 1) := by decide +kernel
theorem dX6_load_83 : decode cX6_load 83 = .ok (.iaload, 1) := by decide +kernel
theorem dX6_load_84 : decode cX6_load 84 = .ok (.iastore, 1) := by decide +kernel
theorem dX6_load_85 : decode cX6_load 85 = .ok (.iinc 3 1, 3) := by decide +kernel
theorem dX6_load_88 : decode cX6_load 88 = .ok (.goto (-53), 3) := by decide +kernel
theorem dX6_load_91 : decode cX6_load 91 = .ok (.iload_n 3, 1) := by decide +kernel
theorem dX6_load_92 : decode cX6_load 92 = .ok (.ireturn, 1) := by decide +kernel
theorem dX6_judge_0 : decode cX6_judge 0 = .ok (.iload_n 1, 1) := by decide +kernel
theorem dX6_judge_1 : decode cX6_judge 1 = .ok (.invokestatic 248, 3) := by decide +kernel
theorem dX6_judge_4 : decode cX6_judge 4 = .ok (.ifCond .ne 9, 3) := by decide +kernel
theorem dX6_judge_7 : decode cX6_judge 7 = .ok (.aload_n 0, 1) := by decide +kernel
theorem dX6_judge_8 : decode cX6_judge 8 = .ok (.iconst 0, 1) := by decide +kernel
theorem dX6_judge_9 : decode cX6_judge 9 = .ok (.invokevirtual 75, 3) := by decide +kernel
theorem dX6_judge_12 : decode cX6_judge 12 = .ok (.ireturn, 1) := by decide +kernel
theorem dX6_judge_13 : decode cX6_judge 13 = .ok (.aload_n 0, 1) := by decide +kernel
theorem dX6_judge_14 : decode cX6_judge 14 = .ok (.getfield 58, 3) := by decide +kernel
theorem dX6_judge_17 : decode cX6_judge 17 = .ok (.iload_n 1, 1) := by decide +kernel
theorem dX6_judge_18 : decode cX6_judge 18 = .ok (.aaload, 1) := by decide +kernel
theorem dX6_judge_19 : decode cX6_judge 19 = .ok (.getfield 255, 3) := by decide +kernel
theorem dX6_judge_22 : decode cX6_judge 22 = .ok (.ifCond .ne 9, 3) := by decide +kernel
theorem dX6_judge_25 : decode cX6_judge 25 = .ok (.aload_n 0, 1) := by decide +kernel
theorem dX6_judge_26 : decode cX6_judge 26 = .ok (.iconst 5, 1) := by decide +kernel
theorem dX6_judge_27 : decode cX6_judge 27 = .ok (.invokevirtual 75, 3) := by decide +kernel
theorem dX6_judge_30 : decode cX6_judge 30 = .ok (.ireturn, 1) := by decide +kernel
theorem dX6_judge_31 : decode cX6_judge 31 = .ok (.aload_n 0, 1) := by decide +kernel
theorem dX6_judge_32 : decode cX6_judge 32 = .ok (.getfield 10, 3) := by decide +kernel
theorem dX6_judge_35 : decode cX6_judge 35 = .ok (.iload_n 2, 1) := by decide +kernel
theorem dX6_judge_36 : decode cX6_judge 36 = .ok (.invokevirtual 127, 3) := by decide +kernel
theorem dX6_judge_39 : decode cX6_judge 39 = .ok (.ifCond .ne 9, 3) := by decide +kernel
theorem dX6_judge_42 : decode cX6_judge 42 = .ok (.aload_n 0, 1) := by decide +kernel
theorem dX6_judge_43 : decode cX6_judge 43 = .ok (.iconst 0, 1) := by decide +kernel
theorem dX6_judge_44 : decode cX6_judge 44 = .ok (.invokevirtual 75, 3) := by decide +kernel
theorem dX6_judge_47 : decode cX6_judge 47 = .ok (.ireturn, 1) := by decide +kernel
theorem dX6_judge_48 : decode cX6_judge 48 = .ok (.aload_n 0, 1) := by decide +kernel
theorem dX6_judge_49 : decode cX6_judge 49 = .ok (.getfield 10, 3) := by decide +kernel
theorem dX6_judge_52 : decode cX6_judge 52 = .ok (.getfield 130, 3) := by decide +kernel
theorem dX6_judge_55 : decode cX6_judge 55 = .ok (.iload_n 2, 1) := by decide +kernel
theorem dX6_judge_56 : decode cX6_judge 56 = .ok (.iaload, 1) := by decide +kernel
theorem dX6_judge_57 : decode cX6_judge 57 = .ok (.istore_n 3, 1) := by decide +kernel
theorem dX6_judge_58 : decode cX6_judge 58 = .ok (.aload_n 0, 1) := by decide +kernel
theorem dX6_judge_59 : decode cX6_judge 59 = .ok (.getfield 34, 3) := by decide +kernel
theorem dX6_judge_62 : decode cX6_judge 62 = .ok (.iload_n 2, 1) := by decide +kernel
theorem dX6_judge_63 : decode cX6_judge 63 = .ok (.aload_n 0, 1) := by decide +kernel
theorem dX6_judge_64 : decode cX6_judge 64 = .ok (.getfield 58, 3) := by decide +kernel
theorem dX6_judge_67 : decode cX6_judge 67 = .ok (.iload_n 1, 1) := by decide +kernel
theorem dX6_judge_68 : decode cX6_judge 68 = .ok (.aaload, 1) := by decide +kernel
theorem dX6_judge_69 : decode cX6_judge 69 = .ok (.invokevirtual 273, 3) := by decide +kernel
theorem dX6_judge_72 : decode cX6_judge 72 = .ok (.istore 4, 2) := by decide +kernel
theorem dX6_judge_74 : decode cX6_judge 74 = .ok (.iload 4, 2) := by decide +kernel
theorem dX6_judge_76 : decode cX6_judge 76 = .ok (.iload_n 3, 1) := by decide +kernel
theorem dX6_judge_77 : decode cX6_judge 77 = .ok (.if_icmp .ne 20, 3) := by decide +kernel
theorem dX6_judge_80 : decode cX6_judge 80 = .ok (.aload_n 0, 1) := by decide +kernel
theorem dX6_judge_81 : decode cX6_judge 81 = .ok (.getfield 58, 3) := by decide +kernel
theorem dX6_judge_84 : decode cX6_judge 84 = .ok (.iload_n 1, 1) := by decide +kernel
theorem dX6_judge_85 : decode cX6_judge 85 = .ok (.aaload, 1) := by decide +kernel
theorem dX6_judge_86 : decode cX6_judge 86 = .ok (.getfield 254, 3) := by decide +kernel
theorem dX6_judge_89 : decode cX6_judge 89 = .ok (.iload_n 3, 1) := by decide +kernel
theorem dX6_judge_90 : decode cX6_judge 90 = .ok (.if_icmp .ne 7, 3) := by decide +kernel
theorem dX6_judge_93 : decode cX6_judge 93 = .ok (.iconst 0, 1) := by decide +kernel
theorem dX6_judge_94 : decode cX6_judge 94 = .ok (.goto 7, 3) := by decide +kernel
theorem dX6_judge_97 : decode cX6_judge 97 = .ok (.iload 4, 2) := by decide +kernel
theorem dX6_judge_99 : decode cX6_judge 99 = .ok (.iconst 1, 1) := by decide +kernel
theorem dX6_judge_100 : decode cX6_judge 100 = .ok (.iadd, 1) := by decide +kernel
theorem dX6_judge_101 : decode cX6_judge 101 = .ok (.ireturn, 1) := by decide +kernel
theorem dX6_image_0 : decode cX6_image 0 = .ok (.aload_n 0, 1) := by decide +kernel
theorem dX6_image_1 : decode cX6_image 1 = .ok (.getfield 16, 3) := by decide +kernel
theorem dX6_image_4 : decode cX6_image 4 = .ok (.aload_n 0, 1) := by decide +kernel
theorem dX6_image_5 : decode cX6_image 5 = .ok (.getfield 10, 3) := by decide +kernel
theorem dX6_image_8 : decode cX6_image 8 = .ok (.invokevirtual 87, 3) := by decide +kernel
theorem dX6_image_11 : decode cX6_image 11 = .ok (.aload_n 0, 1) := by decide +kernel
theorem dX6_image_12 : decode cX6_image 12 = .ok (.iconst 1, 1) := by decide +kernel
theorem dX6_image_13 : decode cX6_image 13 = .ok (.putfield 66, 3) := by decide +kernel
theorem dX6_image_16 : decode cX6_image 16 = .ok (.iconst 1, 1) := by decide +kernel
theorem dX6_image_17 : decode cX6_image 17 = .ok (.ireturn, 1) := by decide +kernel
theorem dX6_undo_0 : decode cX6_undo 0 = .ok (.aload_n 0, 1) := by decide +kernel
theorem dX6_undo_1 : decode cX6_undo 1 = .ok (.getfield 66, 3) := by decide +kernel
theorem dX6_undo_4 : decode cX6_undo 4 = .ok (.ifCond .ne 9, 3) := by decide +kernel
theorem dX6_undo_7 : decode cX6_undo 7 = .ok (.aload_n 0, 1) := by decide +kernel
theorem dX6_undo_8 : decode cX6_undo 8 = .ok (.iconst 3, 1) := by decide +kernel
theorem dX6_undo_9 : decode cX6_undo 9 = .ok (.invokevirtual 75, 3) := by decide +kernel
theorem dX6_undo_12 : decode cX6_undo 12 = .ok (.ireturn, 1) := by decide +kernel
theorem dX6_undo_13 : decode cX6_undo 13 = .ok (.aload_n 0, 1) := by decide +kernel
theorem dX6_undo_14 : decode cX6_undo 14 = .ok (.getfield 10, 3) := by decide +kernel
theorem dX6_undo_17 : decode cX6_undo 17 = .ok (.aload_n 0, 1) := by decide +kernel
theorem dX6_undo_18 : decode cX6_undo 18 = .ok (.getfield 16, 3) := by decide +kernel
theorem dX6_undo_21 : decode cX6_undo 21 = .ok (.invokevirtual 87, 3) := by decide +kernel
theorem dX6_undo_24 : decode cX6_undo 24 = .ok (.aload_n 0, 1) := by decide +kernel
theorem dX6_undo_25 : decode cX6_undo 25 = .ok (.getfield 10, 3) := by decide +kernel
theorem dX6_undo_28 : decode cX6_undo 28 = .ok (.getfield 117, 3) := by decide +kernel
theorem dX6_undo_31 : decode cX6_undo 31 = .ok (.ireturn, 1) := by decide +kernel
theorem dX6_tear_0 : decode cX6_tear 0 = .ok (.aload_n 0, 1) := by decide +kernel
theorem dX6_tear_1 : decode cX6_tear 1 = .ok (.getfield 66, 3) := by decide +kernel
theorem dX6_tear_4 : decode cX6_tear 4 = .ok (.ifCond .eq 7, 3) := by decide +kernel
theorem dX6_tear_7 : decode cX6_tear 7 = .ok (.iconst 1, 1) := by decide +kernel
theorem dX6_tear_8 : decode cX6_tear 8 = .ok (.goto 4, 3) := by decide +kernel
theorem dX6_tear_11 : decode cX6_tear 11 = .ok (.iconst 0, 1) := by decide +kernel
theorem dX6_tear_12 : decode cX6_tear 12 = .ok (.istore_n 1, 1) := by decide +kernel
theorem dX6_tear_13 : decode cX6_tear 13 = .ok (.aload_n 0, 1) := by decide +kernel
theorem dX6_tear_14 : decode cX6_tear 14 = .ok (.iconst 0, 1) := by decide +kernel
theorem dX6_tear_15 : decode cX6_tear 15 = .ok (.putfield 66, 3) := by decide +kernel
theorem dX6_tear_18 : decode cX6_tear 18 = .ok (.iload_n 1, 1) := by decide +kernel
theorem dX6_tear_19 : decode cX6_tear 19 = .ok (.ireturn, 1) := by decide +kernel
theorem dX6_count_0 : decode cX6_count 0 = .ok (.iload_n 1, 1) := by decide +kernel
theorem dX6_count_1 : decode cX6_count 1 = .ok (.tableswitch 111 0 7 #[47, 55, 63, 71, 79, 87, 95, 103], 47) := by decide +kernel
theorem dX6_count_48 : decode cX6_count 48 = .ok (.aload_n 0, 1) := by decide +kernel
theorem dX6_count_49 : decode cX6_count 49 = .ok (.getfield 10, 3) := by decide +kernel
theorem dX6_count_52 : decode cX6_count 52 = .ok (.getfield 94, 3) := by decide +kernel
theorem dX6_count_55 : decode cX6_count 55 = .ok (.ireturn, 1) := by decide +kernel
theorem dX6_count_56 : decode cX6_count 56 = .ok (.aload_n 0, 1) := by decide +kernel
theorem dX6_count_57 : decode cX6_count 57 = .ok (.getfield 10, 3) := by decide +kernel
theorem dX6_count_60 : decode cX6_count 60 = .ok (.getfield 97, 3) := by decide +kernel
theorem dX6_count_63 : decode cX6_count 63 = .ok (.ireturn, 1) := by decide +kernel
theorem dX6_count_64 : decode cX6_count 64 = .ok (.aload_n 0, 1) := by decide +kernel
theorem dX6_count_65 : decode cX6_count 65 = .ok (.getfield 10, 3) := by decide +kernel
theorem dX6_count_68 : decode cX6_count 68 = .ok (.getfield 100, 3) := by decide +kernel
theorem dX6_count_71 : decode cX6_count 71 = .ok (.ireturn, 1) := by decide +kernel
theorem dX6_count_72 : decode cX6_count 72 = .ok (.aload_n 0, 1) := by decide +kernel
theorem dX6_count_73 : decode cX6_count 73 = .ok (.getfield 10, 3) := by decide +kernel
theorem dX6_count_76 : decode cX6_count 76 = .ok (.getfield 117, 3) := by decide +kernel
theorem dX6_count_79 : decode cX6_count 79 = .ok (.ireturn, 1) := by decide +kernel
theorem dX6_count_80 : decode cX6_count 80 = .ok (.aload_n 0, 1) := by decide +kernel
theorem dX6_count_81 : decode cX6_count 81 = .ok (.getfield 10, 3) := by decide +kernel
theorem dX6_count_84 : decode cX6_count 84 = .ok (.getfield 175, 3) := by decide +kernel
theorem dX6_count_87 : decode cX6_count 87 = .ok (.ireturn, 1) := by decide +kernel
theorem dX6_count_88 : decode cX6_count 88 = .ok (.aload_n 0, 1) := by decide +kernel
theorem dX6_count_89 : decode cX6_count 89 = .ok (.getfield 25, 3) := by decide +kernel
theorem dX6_count_92 : decode cX6_count 92 = .ok (.getfield 79, 3) := by decide +kernel
theorem dX6_count_95 : decode cX6_count 95 = .ok (.ireturn, 1) := by decide +kernel
theorem dX6_count_96 : decode cX6_count 96 = .ok (.aload_n 0, 1) := by decide +kernel
theorem dX6_count_97 : decode cX6_count 97 = .ok (.getfield 10, 3) := by decide +kernel
theorem dX6_count_100 : decode cX6_count 100 = .ok (.getfield 239, 3) := by decide +kernel
theorem dX6_count_103 : decode cX6_count 103 = .ok (.ireturn, 1) := by decide +kernel
theorem dX6_count_104 : decode cX6_count 104 = .ok (.aload_n 0, 1) := by decide +kernel
theorem dX6_count_105 : decode cX6_count 105 = .ok (.getfield 10, 3) := by decide +kernel
theorem dX6_count_108 : decode cX6_count 108 = .ok (.invokevirtual 277, 3) := by decide +kernel
theorem dX6_count_111 : decode cX6_count 111 = .ok (.ireturn, 1) := by decide +kernel
theorem dX6_count_112 : decode cX6_count 112 = .ok (.aload_n 0, 1) := by decide +kernel
theorem dX6_count_113 : decode cX6_count 113 = .ok (.iconst 0, 1) := by decide +kernel
theorem dX6_count_114 : decode cX6_count 114 = .ok (.invokevirtual 75, 3) := by decide +kernel
theorem dX6_count_117 : decode cX6_count 117 = .ok (.ireturn, 1) := by decide +kernel
theorem dX6_status_0 : decode cX6_status 0 = .ok (.iload_n 1, 1) := by decide +kernel
theorem dX6_status_1 : decode cX6_status 1 = .ok (.iconst (-1), 1) := by decide +kernel
theorem dX6_status_2 : decode cX6_status 2 = .ok (.bipush 6, 2) := by decide +kernel
theorem dX6_status_4 : decode cX6_status 4 = .ok (.invokestatic 71, 3) := by decide +kernel
theorem dX6_status_7 : decode cX6_status 7 = .ok (.ifCond .ne 9, 3) := by decide +kernel
theorem dX6_status_10 : decode cX6_status 10 = .ok (.aload_n 0, 1) := by decide +kernel
theorem dX6_status_11 : decode cX6_status 11 = .ok (.iconst 0, 1) := by decide +kernel
theorem dX6_status_12 : decode cX6_status 12 = .ok (.invokevirtual 75, 3) := by decide +kernel
theorem dX6_status_15 : decode cX6_status 15 = .ok (.ireturn, 1) := by decide +kernel
theorem dX6_status_16 : decode cX6_status 16 = .ok (.iload_n 1, 1) := by decide +kernel
theorem dX6_status_17 : decode cX6_status 17 = .ok (.ifCond .lt 10, 3) := by decide +kernel
theorem dX6_status_20 : decode cX6_status 20 = .ok (.aload_n 0, 1) := by decide +kernel
theorem dX6_status_21 : decode cX6_status 21 = .ok (.getfield 62, 3) := by decide +kernel
theorem dX6_status_24 : decode cX6_status 24 = .ok (.iload_n 1, 1) := by decide +kernel
theorem dX6_status_25 : decode cX6_status 25 = .ok (.iaload, 1) := by decide +kernel
theorem dX6_status_26 : decode cX6_status 26 = .ok (.ireturn, 1) := by decide +kernel
theorem dX6_status_27 : decode cX6_status 27 = .ok (.iconst 0, 1) := by decide +kernel
theorem dX6_status_28 : decode cX6_status 28 = .ok (.istore_n 2, 1) := by decide +kernel
theorem dX6_status_29 : decode cX6_status 29 = .ok (.iconst 0, 1) := by decide +kernel
theorem dX6_status_30 : decode cX6_status 30 = .ok (.istore_n 3, 1) := by decide +kernel
theorem dX6_status_31 : decode cX6_status 31 = .ok (.iload_n 3, 1) := by decide +kernel
theorem dX6_status_32 : decode cX6_status 32 = .ok (.bipush 7, 2) := by decide +kernel
theorem dX6_status_34 : decode cX6_status 34 = .ok (.if_icmp .ge 18, 3) := by decide +kernel
theorem dX6_status_37 : decode cX6_status 37 = .ok (.iload_n 2, 1) := by decide +kernel
theorem dX6_status_38 : decode cX6_status 38 = .ok (.aload_n 0, 1) := by decide +kernel
theorem dX6_status_39 : decode cX6_status 39 = .ok (.getfield 62, 3) := by decide +kernel
theorem dX6_status_42 : decode cX6_status 42 = .ok (.iload_n 3, 1) := by decide +kernel
theorem dX6_status_43 : decode cX6_status 43 = .ok (.iaload, 1) := by decide +kernel
theorem dX6_status_44 : decode cX6_status 44 = .ok (.iadd, 1) := by decide +kernel
theorem dX6_status_45 : decode cX6_status 45 = .ok (.istore_n 2, 1) := by decide +kernel
theorem dX6_status_46 : decode cX6_status 46 = .ok (.iinc 3 1, 3) := by decide +kernel
theorem dX6_status_49 : decode cX6_status 49 = .ok (.goto (-18), 3) := by decide +kernel
theorem dX6_status_52 : decode cX6_status 52 = .ok (.iload_n 2, 1) := by decide +kernel
theorem dX6_status_53 : decode cX6_status 53 = .ok (.ireturn, 1) := by decide +kernel
theorem dX6_found_0 : decode cX6_found 0 = .ok (.iload_n 1, 1) := by decide +kernel
theorem dX6_found_1 : decode cX6_found 1 = .ok (.iconst 0, 1) := by decide +kernel
theorem dX6_found_2 : decode cX6_found 2 = .ok (.bipush 6, 2) := by decide +kernel
theorem dX6_found_4 : decode cX6_found 4 = .ok (.invokestatic 71, 3) := by decide +kernel
theorem dX6_found_7 : decode cX6_found 7 = .ok (.ifCond .eq 13, 3) := by decide +kernel
theorem dX6_found_10 : decode cX6_found 10 = .ok (.aload_n 0, 1) := by decide +kernel
theorem dX6_found_11 : decode cX6_found 11 = .ok (.getfield 62, 3) := by decide +kernel
theorem dX6_found_14 : decode cX6_found 14 = .ok (.iload_n 1, 1) := by decide +kernel
theorem dX6_found_15 : decode cX6_found 15 = .ok (.dup2, 1) := by decide +kernel
theorem dX6_found_16 : decode cX6_found 16 = .ok (.iaload, 1) := by decide +kernel
theorem dX6_found_17 : decode cX6_found 17 = .ok (.iconst 1, 1) := by decide +kernel
theorem dX6_found_18 : decode cX6_found 18 = .ok (.iadd, 1) := by decide +kernel
theorem dX6_found_19 : decode cX6_found 19 = .ok (.iastore, 1) := by decide +kernel
theorem dX6_found_20 : decode cX6_found 20 = .ok (.ldc_w 280, 3) := by decide +kernel
theorem dX6_found_23 : decode cX6_found 23 = .ok (.iload_n 1, 1) := by decide +kernel
theorem dX6_found_24 : decode cX6_found 24 = .ok (.isub, 1) := by decide +kernel
theorem dX6_found_25 : decode cX6_found 25 = .ok (.ireturn, 1) := by decide +kernel
theorem dX6_dayOrNone_0 : decode cX6_dayOrNone 0 = .ok (.iload_n 1, 1) := by decide +kernel
theorem dX6_dayOrNone_1 : decode cX6_dayOrNone 1 = .ok (.ifCond .ge 11, 3) := by decide +kernel
theorem dX6_dayOrNone_4 : decode cX6_dayOrNone 4 = .ok (.aload_n 0, 1) := by decide +kernel
theorem dX6_dayOrNone_5 : decode cX6_dayOrNone 5 = .ok (.iconst 3, 1) := by decide +kernel
theorem dX6_dayOrNone_6 : decode cX6_dayOrNone 6 = .ok (.invokevirtual 75, 3) := by decide +kernel
theorem dX6_dayOrNone_9 : decode cX6_dayOrNone 9 = .ok (.goto 4, 3) := by decide +kernel
theorem dX6_dayOrNone_12 : decode cX6_dayOrNone 12 = .ok (.iload_n 1, 1) := by decide +kernel
theorem dX6_dayOrNone_13 : decode cX6_dayOrNone 13 = .ok (.ireturn, 1) := by decide +kernel
theorem dX6_within_0 : decode cX6_within 0 = .ok (.iload_n 0, 1) := by decide +kernel
theorem dX6_within_1 : decode cX6_within 1 = .ok (.iload_n 1, 1) := by decide +kernel
theorem dX6_within_2 : decode cX6_within 2 = .ok (.if_icmp .lt 12, 3) := by decide +kernel
theorem dX6_within_5 : decode cX6_within 5 = .ok (.iload_n 0, 1) := by decide +kernel
theorem dX6_within_6 : decode cX6_within 6 = .ok (.iload_n 2, 1) := by decide +kernel
theorem dX6_within_7 : decode cX6_within 7 = .ok (.if_icmp .gt 7, 3) := by decide +kernel
theorem dX6_within_10 : decode cX6_within 10 = .ok (.iconst 1, 1) := by decide +kernel
theorem dX6_within_11 : decode cX6_within 11 = .ok (.goto 4, 3) := by decide +kernel
theorem dX6_within_14 : decode cX6_within 14 = .ok (.iconst 0, 1) := by decide +kernel
theorem dX6_within_15 : decode cX6_within 15 = .ok (.ireturn, 1) := by decide +kernel
theorem dX6_isSheet_0 : decode cX6_isSheet 0 = .ok (.iload_n 0, 1) := by decide +kernel
theorem dX6_isSheet_1 : decode cX6_isSheet 1 = .ok (.iconst 0, 1) := by decide +kernel
theorem dX6_isSheet_2 : decode cX6_isSheet 2 = .ok (.iconst 3, 1) := by decide +kernel
theorem dX6_isSheet_3 : decode cX6_isSheet 3 = .ok (.invokestatic 71, 3) := by decide +kernel
theorem dX6_isSheet_6 : decode cX6_isSheet 6 = .ok (.ireturn, 1) := by decide +kernel
theorem dX6_isSooner_0 : decode cX6_isSooner 0 = .ok (.iload_n 0, 1) := by decide +kernel
theorem dX6_isSooner_1 : decode cX6_isSooner 1 = .ok (.ifCond .lt 16, 3) := by decide +kernel
theorem dX6_isSooner_4 : decode cX6_isSooner 4 = .ok (.iload_n 1, 1) := by decide +kernel
theorem dX6_isSooner_5 : decode cX6_isSooner 5 = .ok (.ifCond .lt 8, 3) := by decide +kernel
theorem dX6_isSooner_8 : decode cX6_isSooner 8 = .ok (.iload_n 0, 1) := by decide +kernel
theorem dX6_isSooner_9 : decode cX6_isSooner 9 = .ok (.iload_n 1, 1) := by decide +kernel
theorem dX6_isSooner_10 : decode cX6_isSooner 10 = .ok (.if_icmp .ge 7, 3) := by decide +kernel
theorem dX6_isSooner_13 : decode cX6_isSooner 13 = .ok (.iconst 1, 1) := by decide +kernel
theorem dX6_isSooner_14 : decode cX6_isSooner 14 = .ok (.goto 4, 3) := by decide +kernel
theorem dX6_isSooner_17 : decode cX6_isSooner 17 = .ok (.iconst 0, 1) := by decide +kernel
theorem dX6_isSooner_18 : decode cX6_isSooner 18 = .ok (.ireturn, 1) := by decide +kernel
theorem dX6_isUnder_0 : decode cX6_isUnder 0 = .ok (.iload_n 0, 1) := by decide +kernel
theorem dX6_isUnder_1 : decode cX6_isUnder 1 = .ok (.istore_n 2, 1) := by decide +kernel
theorem dX6_isUnder_2 : decode cX6_isUnder 2 = .ok (.iconst 0, 1) := by decide +kernel
theorem dX6_isUnder_3 : decode cX6_isUnder 3 = .ok (.istore_n 3, 1) := by decide +kernel
theorem dX6_isUnder_4 : decode cX6_isUnder 4 = .ok (.iload_n 3, 1) := by decide +kernel
theorem dX6_isUnder_5 : decode cX6_isUnder 5 = .ok (.bipush 7, 2) := by decide +kernel
theorem dX6_isUnder_7 : decode cX6_isUnder 7 = .ok (.if_icmp .ge 23, 3) := by decide +kernel
theorem dX6_isUnder_10 : decode cX6_isUnder 10 = .ok (.iload_n 2, 1) := by decide +kernel
theorem dX6_isUnder_11 : decode cX6_isUnder 11 = .ok (.iload_n 1, 1) := by decide +kernel
theorem dX6_isUnder_12 : decode cX6_isUnder 12 = .ok (.if_icmp .eq 18, 3) := by decide +kernel
theorem dX6_isUnder_15 : decode cX6_isUnder 15 = .ok (.iload_n 2, 1) := by decide +kernel
theorem dX6_isUnder_16 : decode cX6_isUnder 16 = .ok (.ifCond .lt 14, 3) := by decide +kernel
theorem dX6_isUnder_19 : decode cX6_isUnder 19 = .ok (.iload_n 2, 1) := by decide +kernel
theorem dX6_isUnder_20 : decode cX6_isUnder 20 = .ok (.invokestatic 281, 3) := by decide +kernel
theorem dX6_isUnder_23 : decode cX6_isUnder 23 = .ok (.istore_n 2, 1) := by decide +kernel
theorem dX6_isUnder_24 : decode cX6_isUnder 24 = .ok (.iinc 3 1, 3) := by decide +kernel
theorem dX6_isUnder_27 : decode cX6_isUnder 27 = .ok (.goto (-23), 3) := by decide +kernel
theorem dX6_isUnder_30 : decode cX6_isUnder 30 = .ok (.iload_n 2, 1) := by decide +kernel
theorem dX6_isUnder_31 : decode cX6_isUnder 31 = .ok (.iload_n 1, 1) := by decide +kernel
theorem dX6_isUnder_32 : decode cX6_isUnder 32 = .ok (.if_icmp .ne 7, 3) := by decide +kernel
theorem dX6_isUnder_35 : decode cX6_isUnder 35 = .ok (.iconst 1, 1) := by decide +kernel
theorem dX6_isUnder_36 : decode cX6_isUnder 36 = .ok (.goto 4, 3) := by decide +kernel
theorem dX6_isUnder_39 : decode cX6_isUnder 39 = .ok (.iconst 0, 1) := by decide +kernel
theorem dX6_isUnder_40 : decode cX6_isUnder 40 = .ok (.ireturn, 1) := by decide +kernel
theorem dX6_kindAbove_0 : decode cX6_kindAbove 0 = .ok (.iload_n 0, 1) := by decide +kernel
theorem dX6_kindAbove_1 : decode cX6_kindAbove 1 = .ok (.tableswitch 47 1 6 #[39, 39, 39, 41, 43, 45], 39) := by decide +kernel
theorem dX6_kindAbove_40 : decode cX6_kindAbove 40 = .ok (.iconst 0, 1) := by decide +kernel
theorem dX6_kindAbove_41 : decode cX6_kindAbove 41 = .ok (.ireturn, 1) := by decide +kernel
theorem dX6_kindAbove_42 : decode cX6_kindAbove 42 = .ok (.iconst 1, 1) := by decide +kernel
theorem dX6_kindAbove_43 : decode cX6_kindAbove 43 = .ok (.ireturn, 1) := by decide +kernel
theorem dX6_kindAbove_44 : decode cX6_kindAbove 44 = .ok (.iconst 4, 1) := by decide +kernel
theorem dX6_kindAbove_45 : decode cX6_kindAbove 45 = .ok (.ireturn, 1) := by decide +kernel
theorem dX6_kindAbove_46 : decode cX6_kindAbove 46 = .ok (.iconst 3, 1) := by decide +kernel
theorem dX6_kindAbove_47 : decode cX6_kindAbove 47 = .ok (.ireturn, 1) := by decide +kernel
theorem dX6_kindAbove_48 : decode cX6_kindAbove 48 = .ok (.iconst (-1), 1) := by decide +kernel
theorem dX6_kindAbove_49 : decode cX6_kindAbove 49 = .ok (.ireturn, 1) := by decide +kernel
