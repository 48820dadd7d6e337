theorem dX0_init_0 : decode cX0_init 0 = .ok (.aload_n 0, 1) := by decide +kernel
theorem dX0_init_1 : decode cX0_init 1 = .ok (.invokespecial 3, 3) := by decide +kernel
theorem dX0_init_4 : decode cX0_init 4 = .ok (.aload_n 0, 1) := by decide +kernel
theorem dX0_init_5 : decode cX0_init 5 = .ok (.bipush 10, 2) := by decide +kernel
theorem dX0_init_7 : decode cX0_init 7 = .ok (.newarray .long, 2) := by decide +kernel
theorem dX0_init_9 : decode cX0_init 9 = .ok (.putfield 9, 3) := by decide +kernel
theorem dX0_init_12 : decode cX0_init 12 = .ok (.aload_n 0, 1) := by decide +kernel
theorem dX0_init_13 : decode cX0_init 13 = .ok (.bipush 10, 2) := by decide +kernel
theorem dX0_init_15 : decode cX0_init 15 = .ok (.newarray .int, 2) := by decide +kernel
theorem dX0_init_17 : decode cX0_init 17 = .ok (.putfield 15, 3) := by decide +kernel
theorem dX0_init_20 : decode cX0_init 20 = .ok (.aload_n 0, 1) := by decide +kernel
theorem dX0_init_21 : decode cX0_init 21 = .ok (.bipush 10, 2) := by decide +kernel
theorem dX0_init_23 : decode cX0_init 23 = .ok (.newarray .int, 2) := by decide +kernel
theorem dX0_init_25 : decode cX0_init 25 = .ok (.putfield 19, 3) := by decide +kernel
theorem dX0_init_28 : decode cX0_init 28 = .ok (.aload_n 0, 1) := by decide +kernel
theorem dX0_init_29 : decode cX0_init 29 = .ok (.bipush 10, 2) := by decide +kernel
theorem dX0_init_31 : decode cX0_init 31 = .ok (.newarray .int, 2) := by decide +kernel
theorem dX0_init_33 : decode cX0_init 33 = .ok (.putfield 22, 3) := by decide +kernel
theorem dX0_init_36 : decode cX0_init 36 = .ok (.aload_n 0, 1) := by decide +kernel
theorem dX0_init_37 : decode cX0_init 37 = .ok (.bipush 10, 2) := by decide +kernel
theorem dX0_init_39 : decode cX0_init 39 = .ok (.newarray .int, 2) := by decide +kernel
theorem dX0_init_41 : decode cX0_init 41 = .ok (.putfield 25, 3) := by decide +kernel
theorem dX0_init_44 : decode cX0_init 44 = .ok (.aload_n 0, 1) := by decide +kernel
theorem dX0_init_45 : decode cX0_init 45 = .ok (.bipush 10, 2) := by decide +kernel
theorem dX0_init_47 : decode cX0_init 47 = .ok (.newarray .int, 2) := by decide +kernel
theorem dX0_init_49 : decode cX0_init 49 = .ok (.putfield 28, 3) := by decide +kernel
theorem dX0_init_52 : decode cX0_init 52 = .ok (.aload_n 0, 1) := by decide +kernel
theorem dX0_init_53 : decode cX0_init 53 = .ok (.bipush 12, 2) := by decide +kernel
theorem dX0_init_55 : decode cX0_init 55 = .ok (.newarray .long, 2) := by decide +kernel
theorem dX0_init_57 : decode cX0_init 57 = .ok (.putfield 31, 3) := by decide +kernel
theorem dX0_init_60 : decode cX0_init 60 = .ok (.aload_n 0, 1) := by decide +kernel
theorem dX0_init_61 : decode cX0_init 61 = .ok (.bipush 12, 2) := by decide +kernel
theorem dX0_init_63 : decode cX0_init 63 = .ok (.newarray .int, 2) := by decide +kernel
theorem dX0_init_65 : decode cX0_init 65 = .ok (.putfield 34, 3) := by decide +kernel
theorem dX0_init_68 : decode cX0_init 68 = .ok (.aload_n 0, 1) := by decide +kernel
theorem dX0_init_69 : decode cX0_init 69 = .ok (.bipush 12, 2) := by decide +kernel
theorem dX0_init_71 : decode cX0_init 71 = .ok (.newarray .int, 2) := by decide +kernel
theorem dX0_init_73 : decode cX0_init 73 = .ok (.putfield 37, 3) := by decide +kernel
theorem dX0_init_76 : decode cX0_init 76 = .ok (.aload_n 0, 1) := by decide +kernel
theorem dX0_init_77 : decode cX0_init 77 = .ok (.bipush 12, 2) := by decide +kernel
theorem dX0_init_79 : decode cX0_init 79 = .ok (.newarray .int, 2) := by decide +kernel
theorem dX0_init_81 : decode cX0_init 81 = .ok (.putfield 40, 3) := by decide +kernel
theorem dX0_init_84 : decode cX0_init 84 = .ok (.aload_n 0, 1) := by decide +kernel
theorem dX0_init_85 : decode cX0_init 85 = .ok (.bipush 120, 2) := by decide +kernel
theorem dX0_init_87 : decode cX0_init 87 = .ok (.newarray .int, 2) := by decide +kernel
theorem dX0_init_89 : decode cX0_init 89 = .ok (.putfield 43, 3) := by decide +kernel
theorem dX0_init_92 : decode cX0_init 92 = .ok (.return_, 1) := by decide +kernel
theorem dX0_startEmpty_0 : decode cX0_startEmpty 0 = .ok (.aload_n 0, 1) := by decide +kernel
theorem dX0_startEmpty_1 : decode cX0_startEmpty 1 = .ok (.iload_n 1, 1) := by decide +kernel
theorem dX0_startEmpty_2 : decode cX0_startEmpty 2 = .ok (.putfield 46, 3) := by decide +kernel
theorem dX0_startEmpty_5 : decode cX0_startEmpty 5 = .ok (.aload_n 0, 1) := by decide +kernel
theorem dX0_startEmpty_6 : decode cX0_startEmpty 6 = .ok (.iconst 0, 1) := by decide +kernel
theorem dX0_startEmpty_7 : decode cX0_startEmpty 7 = .ok (.putfield 50, 3) := by decide +kernel
theorem dX0_startEmpty_10 : decode cX0_startEmpty 10 = .ok (.aload_n 0, 1) := by decide +kernel
theorem dX0_startEmpty_11 : decode cX0_startEmpty 11 = .ok (.iconst 0, 1) := by decide +kernel
theorem dX0_startEmpty_12 : decode cX0_startEmpty 12 = .ok (.putfield 53, 3) := by decide +kernel
theorem dX0_startEmpty_15 : decode cX0_startEmpty 15 = .ok (.aload_n 0, 1) := by decide +kernel
theorem dX0_startEmpty_16 : decode cX0_startEmpty 16 = .ok (.iconst 0, 1) := by decide +kernel
theorem dX0_startEmpty_17 : decode cX0_startEmpty 17 = .ok (.putfield 56, 3) := by decide +kernel
theorem dX0_startEmpty_20 : decode cX0_startEmpty 20 = .ok (.aload_n 0, 1) := by decide +kernel
theorem dX0_startEmpty_21 : decode cX0_startEmpty 21 = .ok (.iconst 0, 1) := by decide +kernel
theorem dX0_startEmpty_22 : decode cX0_startEmpty 22 = .ok (.putfield 59, 3) := by decide +kernel
theorem dX0_startEmpty_25 : decode cX0_startEmpty 25 = .ok (.aload_n 0, 1) := by decide +kernel
theorem dX0_startEmpty_26 : decode cX0_startEmpty 26 = .ok (.getfield 9, 3) := by decide +kernel
theorem dX0_startEmpty_29 : decode cX0_startEmpty 29 = .ok (.lconst 0, 1) := by decide +kernel
theorem dX0_startEmpty_30 : decode cX0_startEmpty 30 = .ok (.invokestatic 62, 3) := by decide +kernel
theorem dX0_startEmpty_33 : decode cX0_startEmpty 33 = .ok (.aload_n 0, 1) := by decide +kernel
theorem dX0_startEmpty_34 : decode cX0_startEmpty 34 = .ok (.getfield 15, 3) := by decide +kernel
theorem dX0_startEmpty_37 : decode cX0_startEmpty 37 = .ok (.iconst 0, 1) := by decide +kernel
theorem dX0_startEmpty_38 : decode cX0_startEmpty 38 = .ok (.invokestatic 68, 3) := by decide +kernel
theorem dX0_startEmpty_41 : decode cX0_startEmpty 41 = .ok (.aload_n 0, 1) := by decide +kernel
theorem dX0_startEmpty_42 : decode cX0_startEmpty 42 = .ok (.getfield 19, 3) := by decide +kernel
theorem dX0_startEmpty_45 : decode cX0_startEmpty 45 = .ok (.iconst 0, 1) := by decide +kernel
theorem dX0_startEmpty_46 : decode cX0_startEmpty 46 = .ok (.invokestatic 68, 3) := by decide +kernel
theorem dX0_startEmpty_49 : decode cX0_startEmpty 49 = .ok (.aload_n 0, 1) := by decide +kernel
theorem dX0_startEmpty_50 : decode cX0_startEmpty 50 = .ok (.getfield 22, 3) := by decide +kernel
theorem dX0_startEmpty_53 : decode cX0_startEmpty 53 = .ok (.iconst 0, 1) := by decide +kernel
theorem dX0_startEmpty_54 : decode cX0_startEmpty 54 = .ok (.invokestatic 68, 3) := by decide +kernel
theorem dX0_startEmpty_57 : decode cX0_startEmpty 57 = .ok (.aload_n 0, 1) := by decide +kernel
theorem dX0_startEmpty_58 : decode cX0_startEmpty 58 = .ok (.getfield 25, 3) := by decide +kernel
theorem dX0_startEmpty_61 : decode cX0_startEmpty 61 = .ok (.iconst 0, 1) := by decide +kernel
theorem dX0_startEmpty_62 : decode cX0_startEmpty 62 = .ok (.invokestatic 68, 3) := by decide +kernel
theorem dX0_startEmpty_65 : decode cX0_startEmpty 65 = .ok (.aload_n 0, 1) := by decide +kernel
theorem dX0_startEmpty_66 : decode cX0_startEmpty 66 = .ok (.getfield 28, 3) := by decide +kernel
theorem dX0_startEmpty_69 : decode cX0_startEmpty 69 = .ok (.iconst 0, 1) := by decide +kernel
theorem dX0_startEmpty_70 : decode cX0_startEmpty 70 = .ok (.invokestatic 68, 3) := by decide +kernel
theorem dX0_startEmpty_73 : decode cX0_startEmpty 73 = .ok (.aload_n 0, 1) := by decide +kernel
theorem dX0_startEmpty_74 : decode cX0_startEmpty 74 = .ok (.getfield 31, 3) := by decide +kernel
theorem dX0_startEmpty_77 : decode cX0_startEmpty 77 = .ok (.lconst 0, 1) := by decide +kernel
theorem dX0_startEmpty_78 : decode cX0_startEmpty 78 = .ok (.invokestatic 62, 3) := by decide +kernel
theorem dX0_startEmpty_81 : decode cX0_startEmpty 81 = .ok (.aload_n 0, 1) := by decide +kernel
theorem dX0_startEmpty_82 : decode cX0_startEmpty 82 = .ok (.getfield 34, 3) := by decide +kernel
theorem dX0_startEmpty_85 : decode cX0_startEmpty 85 = .ok (.iconst 0, 1) := by decide +kernel
theorem dX0_startEmpty_86 : decode cX0_startEmpty 86 = .ok (.invokestatic 68, 3) := by decide +kernel
theorem dX0_startEmpty_89 : decode cX0_startEmpty 89 = .ok (.aload_n 0, 1) := by decide +kernel
theorem dX0_startEmpty_90 : decode cX0_startEmpty 90 = .ok (.getfield 37, 3) := by decide +kernel
theorem dX0_startEmpty_93 : decode cX0_startEmpty 93 = .ok (.iconst 0, 1) := by decide +kernel
theorem dX0_startEmpty_94 : decode cX0_startEmpty 94 = .ok (.invokestatic 68, 3) := by decide +kernel
theorem dX0_startEmpty_97 : decode cX0_startEmpty 97 = .ok (.aload_n 0, 1) := by decide +kernel
theorem dX0_startEmpty_98 : decode cX0_startEmpty 98 = .ok (.getfield 40, 3) := by decide +kernel
theorem dX0_startEmpty_101 : decode cX0_startEmpty 101 = .ok (.iconst 0, 1) := by decide +kernel
theorem dX0_startEmpty_102 : decode cX0_startEmpty 102 = .ok (.invokestatic 68, 3) := by decide +kernel
theorem dX0_startEmpty_105 : decode cX0_startEmpty 105 = .ok (.aload_n 0, 1) := by decide +kernel
theorem dX0_startEmpty_106 : decode cX0_startEmpty 106 = .ok (.getfield 43, 3) := by decide +kernel
theorem dX0_startEmpty_109 : decode cX0_startEmpty 109 = .ok (.iconst 0, 1) := by decide +kernel
theorem dX0_startEmpty_110 : decode cX0_startEmpty 110 = .ok (.invokestatic 68, 3) := by decide +kernel
theorem dX0_startEmpty_113 : decode cX0_startEmpty 113 = .ok (.return_, 1) := by decide +kernel
theorem dX0_takeFrom_0 : decode cX0_takeFrom 0 = .ok (.aload_n 0, 1) := by decide +kernel
theorem dX0_takeFrom_1 : decode cX0_takeFrom 1 = .ok (.aload_n 1, 1) := by decide +kernel
theorem dX0_takeFrom_2 : decode cX0_takeFrom 2 = .ok (.getfield 46, 3) := by decide +kernel
theorem dX0_takeFrom_5 : decode cX0_takeFrom 5 = .ok (.putfield 46, 3) := by decide +kernel
theorem dX0_takeFrom_8 : decode cX0_takeFrom 8 = .ok (.aload_n 0, 1) := by decide +kernel
theorem dX0_takeFrom_9 : decode cX0_takeFrom 9 = .ok (.aload_n 1, 1) := by decide +kernel
theorem dX0_takeFrom_10 : decode cX0_takeFrom 10 = .ok (.getfield 50, 3) := by decide +kernel
theorem dX0_takeFrom_13 : decode cX0_takeFrom 13 = .ok (.putfield 50, 3) := by decide +kernel
theorem dX0_takeFrom_16 : decode cX0_takeFrom 16 = .ok (.aload_n 0, 1) := by decide +kernel
theorem dX0_takeFrom_17 : decode cX0_takeFrom 17 = .ok (.aload_n 1, 1) := by decide +kernel
theorem dX0_takeFrom_18 : decode cX0_takeFrom 18 = .ok (.getfield 53, 3) := by decide +kernel
theorem dX0_takeFrom_21 : decode cX0_takeFrom 21 = .ok (.putfield 53, 3) := by decide +kernel
theorem dX0_takeFrom_24 : decode cX0_takeFrom 24 = .ok (.aload_n 0, 1) := by decide +kernel
theorem dX0_takeFrom_25 : decode cX0_takeFrom 25 = .ok (.aload_n 1, 1) := by decide +kernel
theorem dX0_takeFrom_26 : decode cX0_takeFrom 26 = .ok (.getfield 56, 3) := by decide +kernel
theorem dX0_takeFrom_29 : decode cX0_takeFrom 29 = .ok (.putfield 56, 3) := by decide +kernel
theorem dX0_takeFrom_32 : decode cX0_takeFrom 32 = .ok (.aload_n 0, 1) := by decide +kernel
theorem dX0_takeFrom_33 : decode cX0_takeFrom 33 = .ok (.aload_n 1, 1) := by decide +kernel
theorem dX0_takeFrom_34 : decode cX0_takeFrom 34 = .ok (.getfield 59, 3) := by decide +kernel
theorem dX0_takeFrom_37 : decode cX0_takeFrom 37 = .ok (.putfield 59, 3) := by decide +kernel
theorem dX0_takeFrom_40 : decode cX0_takeFrom 40 = .ok (.aload_n 1, 1) := by decide +kernel
theorem dX0_takeFrom_41 : decode cX0_takeFrom 41 = .ok (.getfield 9, 3) := by decide +kernel
theorem dX0_takeFrom_44 : decode cX0_takeFrom 44 = .ok (.iconst 0, 1) := by decide +kernel
theorem dX0_takeFrom_45 : decode cX0_takeFrom 45 = .ok (.aload_n 0, 1) := by decide +kernel
theorem dX0_takeFrom_46 : decode cX0_takeFrom 46 = .ok (.getfield 9, 3) := by decide +kernel
theorem dX0_takeFrom_49 : decode cX0_takeFrom 49 = .ok (.iconst 0, 1) := by decide +kernel
theorem dX0_takeFrom_50 : decode cX0_takeFrom 50 = .ok (.bipush 10, 2) := by decide +kernel
theorem dX0_takeFrom_52 : decode cX0_takeFrom 52 = .ok (.invokestatic 71, 3) := by decide +kernel
theorem dX0_takeFrom_55 : decode cX0_takeFrom 55 = .ok (.aload_n 1, 1) := by decide +kernel
theorem dX0_takeFrom_56 : decode cX0_takeFrom 56 = .ok (.getfield 15, 3) := by decide +kernel
theorem dX0_takeFrom_59 : decode cX0_takeFrom 59 = .ok (.iconst 0, 1) := by decide +kernel
theorem dX0_takeFrom_60 : decode cX0_takeFrom 60 = .ok (.aload_n 0, 1) := by decide +kernel
theorem dX0_takeFrom_61 : decode cX0_takeFrom 61 = .ok (.getfield 15, 3) := by decide +kernel
theorem dX0_takeFrom_64 : decode cX0_takeFrom 64 = .ok (.iconst 0, 1) := by decide +kernel
theorem dX0_takeFrom_65 : decode cX0_takeFrom 65 = .ok (.bipush 10, 2) := by decide +kernel
theorem dX0_takeFrom_67 : decode cX0_takeFrom 67 = .ok (.invokestatic 71, 3) := by decide +kernel
theorem dX0_takeFrom_70 : decode cX0_takeFrom 70 = .ok (.aload_n 1, 1) := by decide +kernel
theorem dX0_takeFrom_71 : decode cX0_takeFrom 71 = .ok (.getfield 19, 3) := by decide +kernel
theorem dX0_takeFrom_74 : decode cX0_takeFrom 74 = .ok (.iconst 0, 1) := by decide +kernel
theorem dX0_takeFrom_75 : decode cX0_takeFrom 75 = .ok (.aload_n 0, 1) := by decide +kernel
theorem dX0_takeFrom_76 : decode cX0_takeFrom 76 = .ok (.getfield 19, 3) := by decide +kernel
theorem dX0_takeFrom_79 : decode cX0_takeFrom 79 = .ok (.iconst 0, 1) := by decide +kernel
theorem dX0_takeFrom_80 : decode cX0_takeFrom 80 = .ok (.bipush 10, 2) := by decide +kernel
theorem dX0_takeFrom_82 : decode cX0_takeFrom 82 = .ok (.invokestatic 71, 3) := by decide +kernel
theorem dX0_takeFrom_85 : decode cX0_takeFrom 85 = .ok (.aload_n 1, 1) := by decide +kernel
theorem dX0_takeFrom_86 : decode cX0_takeFrom 86 = .ok (.getfield 22, 3) := by decide +kernel
theorem dX0_takeFrom_89 : decode cX0_takeFrom 89 = .ok (.iconst 0, 1) := by decide +kernel
theorem dX0_takeFrom_90 : decode cX0_takeFrom 90 = .ok (.aload_n 0, 1) := by decide +kernel
theorem dX0_takeFrom_91 : decode cX0_takeFrom 91 = .ok (.getfield 22, 3) := by decide +kernel
theorem dX0_takeFrom_94 : decode cX0_takeFrom 94 = .ok (.iconst 0, 1) := by decide +kernel
theorem dX0_takeFrom_95 : decode cX0_takeFrom 95 = .ok (.bipush 10, 2) := by decide +kernel
theorem dX0_takeFrom_97 : decode cX0_takeFrom 97 = .ok (.invokestatic 71, 3) := by decide +kernel
theorem dX0_takeFrom_100 : decode cX0_takeFrom 100 = .ok (.aload_n 1, 1) := by decide +kernel
theorem dX0_takeFrom_101 : decode cX0_takeFrom 101 = .ok (.getfield 25, 3) := by decide +kernel
theorem dX0_takeFrom_104 : decode cX0_takeFrom 104 = .ok (.iconst 0, 1) := by decide +kernel
theorem dX0_takeFrom_105 : decode cX0_takeFrom 105 = .ok (.aload_n 0, 1) := by decide +kernel
theorem dX0_takeFrom_106 : decode cX0_takeFrom 106 = .ok (.getfield 25, 3) := by decide +kernel
theorem dX0_takeFrom_109 : decode cX0_takeFrom 109 = .ok (.iconst 0, 1) := by decide +kernel
theorem dX0_takeFrom_110 : decode cX0_takeFrom 110 = .ok (.bipush 10, 2) := by decide +kernel
theorem dX0_takeFrom_112 : decode cX0_takeFrom 112 = .ok (.invokestatic 71, 3) := by decide +kernel
theorem dX0_takeFrom_115 : decode cX0_takeFrom 115 = .ok (.aload_n 1, 1) := by decide +kernel
theorem dX0_takeFrom_116 : decode cX0_takeFrom 116 = .ok (.getfield 28, 3) := by decide +kernel
theorem dX0_takeFrom_119 : decode cX0_takeFrom 119 = .ok (.iconst 0, 1) := by decide +kernel
theorem dX0_takeFrom_120 : decode cX0_takeFrom 120 = .ok (.aload_n 0, 1) := by decide +kernel
theorem dX0_takeFrom_121 : decode cX0_takeFrom 121 = .ok (.getfield 28, 3) := by decide +kernel
theorem dX0_takeFrom_124 : decode cX0_takeFrom 124 = .ok (.iconst 0, 1) := by decide +kernel
theorem dX0_takeFrom_125 : decode cX0_takeFrom 125 = .ok (.bipush 10, 2) := by decide +kernel
theorem dX0_takeFrom_127 : decode cX0_takeFrom 127 = .ok (.invokestatic 71, 3) := by decide +kernel
theorem dX0_takeFrom_130 : decode cX0_takeFrom 130 = .ok (.aload_n 1, 1) := by decide +kernel
theorem dX0_takeFrom_131 : decode cX0_takeFrom 131 = .ok (.getfield 31, 3) := by decide +kernel
theorem dX0_takeFrom_134 : decode cX0_takeFrom 134 = .ok (.iconst 0, 1) := by decide +kernel
theorem dX0_takeFrom_135 : decode cX0_takeFrom 135 = .ok (.aload_n 0, 1) := by decide +kernel
theorem dX0_takeFrom_136 : decode cX0_takeFrom 136 = .ok (.getfield 31, 3) := by decide +kernel
theorem dX0_takeFrom_139 : decode cX0_takeFrom 139 = .ok (.iconst 0, 1) := by decide +kernel
theorem dX0_takeFrom_140 : decode cX0_takeFrom 140 = .ok (.bipush 12, 2) := by decide +kernel
theorem dX0_takeFrom_142 : decode cX0_takeFrom 142 = .ok (.invokestatic 71, 3) := by decide +kernel
theorem dX0_takeFrom_145 : decode cX0_takeFrom 145 = .ok (.aload_n 1, 1) := by decide +kernel
theorem dX0_takeFrom_146 : decode cX0_takeFrom 146 = .ok (.getfield 34, 3) := by decide +kernel
theorem dX0_takeFrom_149 : decode cX0_takeFrom 149 = .ok (.iconst 0, 1) := by decide +kernel
theorem dX0_takeFrom_150 : decode cX0_takeFrom 150 = .ok (.aload_n 0, 1) := by decide +kernel
theorem dX0_takeFrom_151 : decode cX0_takeFrom 151 = .ok (.getfield 34, 3) := by decide +kernel
theorem dX0_takeFrom_154 : decode cX0_takeFrom 154 = .ok (.iconst 0, 1) := by decide +kernel
theorem dX0_takeFrom_155 : decode cX0_takeFrom 155 = .ok (.bipush 12, 2) := by decide +kernel
theorem dX0_takeFrom_157 : decode cX0_takeFrom 157 = .ok (.invokestatic 71, 3) := by decide +kernel
theorem dX0_takeFrom_160 : decode cX0_takeFrom 160 = .ok (.aload_n 1, 1) := by decide +kernel
theorem dX0_takeFrom_161 : decode cX0_takeFrom 161 = .ok (.getfield 37, 3) := by decide +kernel
theorem dX0_takeFrom_164 : decode cX0_takeFrom 164 = .ok (.iconst 0, 1) := by decide +kernel
theorem dX0_takeFrom_165 : decode cX0_takeFrom 165 = .ok (.aload_n 0, 1) := by decide +kernel
theorem dX0_takeFrom_166 : decode cX0_takeFrom 166 = .ok (.getfield 37, 3) := by decide +kernel
theorem dX0_takeFrom_169 : decode cX0_takeFrom 169 = .ok (.iconst 0, 1) := by decide +kernel
theorem dX0_takeFrom_170 : decode cX0_takeFrom 170 = .ok (.bipush 12, 2) := by decide +kernel
theorem dX0_takeFrom_172 : decode cX0_takeFrom 172 = .ok (.invokestatic 71, 3) := by decide +kernel
theorem dX0_takeFrom_175 : decode cX0_takeFrom 175 = .ok (.aload_n 1, 1) := by decide +kernel
theorem dX0_takeFrom_176 : decode cX0_takeFrom 176 = .ok (.getfield 40, 3) := by decide +kernel
theorem dX0_takeFrom_179 : decode cX0_takeFrom 179 = .ok (.iconst 0, 1) := by decide +kernel
theorem dX0_takeFrom_180 : decode cX0_takeFrom 180 = .ok (.aload_n 0, 1) := by decide +kernel
theorem dX0_takeFrom_181 : decode cX0_takeFrom 181 = .ok (.getfield 40, 3) := by decide +kernel
theorem dX0_takeFrom_184 : decode cX0_takeFrom 184 = .ok (.iconst 0, 1) := by decide +kernel
theorem dX0_takeFrom_185 : decode cX0_takeFrom 185 = .ok (.bipush 12, 2) := by decide +kernel
theorem dX0_takeFrom_187 : decode cX0_takeFrom 187 = .ok (.invokestatic 71, 3) := by decide +kernel
theorem dX0_takeFrom_190 : decode cX0_takeFrom 190 = .ok (.aload_n 1, 1) := by decide +kernel
theorem dX0_takeFrom_191 : decode cX0_takeFrom 191 = .ok (.getfield 43, 3) := by decide +kernel
theorem dX0_takeFrom_194 : decode cX0_takeFrom 194 = .ok (.iconst 0, 1) := by decide +kernel
theorem dX0_takeFrom_195 : decode cX0_takeFrom 195 = .ok (.aload_n 0, 1) := by decide +kernel
theorem dX0_takeFrom_196 : decode cX0_takeFrom 196 = .ok (.getfield 43, 3) := by decide +kernel
theorem dX0_takeFrom_199 : decode cX0_takeFrom 199 = .ok (.iconst 0, 1) := by decide +kernel
theorem dX0_takeFrom_200 : decode cX0_takeFrom 200 = .ok (.bipush 120, 2) := by decide +kernel
theorem dX0_takeFrom_202 : decode cX0_takeFrom 202 = .ok (.invokestatic 71, 3) := by decide +kernel
theorem dX0_takeFrom_205 : decode cX0_takeFrom 205 = .ok (.return_, 1) := by decide +kernel
theorem dX0_addFamily_0 : decode cX0_addFamily 0 = .ok (.aload_n 0, 1) := by decide +kernel
theorem dX0_addFamily_1 : decode cX0_addFamily 1 = .ok (.getfield 50, 3) := by decide +kernel
theorem dX0_addFamily_4 : decode cX0_addFamily 4 = .ok (.bipush 10, 2) := by decide +kernel
theorem dX0_addFamily_6 : decode cX0_addFamily 6 = .ok (.if_icmp .lt 4, 3) := by decide +kernel
theorem dX0_addFamily_9 : decode cX0_addFamily 9 = .ok (.return_, 1) := by decide +kernel
theorem dX0_addFamily_10 : decode cX0_addFamily 10 = .ok (.aload_n 0, 1) := by decide +kernel
theorem dX0_addFamily_11 : decode cX0_addFamily 11 = .ok (.getfield 9, 3) := by decide +kernel
theorem dX0_addFamily_14 : decode cX0_addFamily 14 = .ok (.aload_n 0, 1) := by decide +kernel
theorem dX0_addFamily_15 : decode cX0_addFamily 15 = .ok (.getfield 50, 3) := by decide +kernel
theorem dX0_addFamily_18 : decode cX0_addFamily 18 = .ok (.lload_n 1, 1) := by decide +kernel
theorem dX0_addFamily_19 : decode cX0_addFamily 19 = .ok (.lastore, 1) := by decide +kernel
theorem dX0_addFamily_20 : decode cX0_addFamily 20 = .ok (.aload_n 0, 1) := by decide +kernel
theorem dX0_addFamily_21 : decode cX0_addFamily 21 = .ok (.getfield 15, 3) := by decide +kernel
theorem dX0_addFamily_24 : decode cX0_addFamily 24 = .ok (.aload_n 0, 1) := by decide +kernel
theorem dX0_addFamily_25 : decode cX0_addFamily 25 = .ok (.getfield 50, 3) := by decide +kernel
theorem dX0_addFamily_28 : decode cX0_addFamily 28 = .ok (.iload_n 3, 1) := by decide +kernel
theorem dX0_addFamily_29 : decode cX0_addFamily 29 = .ok (.iastore, 1) := by decide +kernel
theorem dX0_addFamily_30 : decode cX0_addFamily 30 = .ok (.aload_n 0, 1) := by decide +kernel
theorem dX0_addFamily_31 : decode cX0_addFamily 31 = .ok (.dup, 1) := by decide +kernel
theorem dX0_addFamily_32 : decode cX0_addFamily 32 = .ok (.getfield 50, 3) := by decide +kernel
theorem dX0_addFamily_35 : decode cX0_addFamily 35 = .ok (.iconst 1, 1) := by decide +kernel
theorem dX0_addFamily_36 : decode cX0_addFamily 36 = .ok (.iadd, 1) := by decide +kernel
theorem dX0_addFamily_37 : decode cX0_addFamily 37 = .ok (.putfield 50, 3) := by decide +kernel
theorem dX0_addFamily_40 : decode cX0_addFamily 40 = .ok (.return_, 1) := by decide +kernel
theorem dX0_addPicture_0 : decode cX0_addPicture 0 = .ok (.aload_n 0, 1) := by decide +kernel
theorem dX0_addPicture_1 : decode cX0_addPicture 1 = .ok (.getfield 53, 3) := by decide +kernel
theorem dX0_addPicture_4 : decode cX0_addPicture 4 = .ok (.bipush 12, 2) := by decide +kernel
theorem dX0_addPicture_6 : decode cX0_addPicture 6 = .ok (.if_icmp .lt 4, 3) := by decide +kernel
theorem dX0_addPicture_9 : decode cX0_addPicture 9 = .ok (.return_, 1) := by decide +kernel
theorem dX0_addPicture_10 : decode cX0_addPicture 10 = .ok (.aload_n 0, 1) := by decide +kernel
theorem dX0_addPicture_11 : decode cX0_addPicture 11 = .ok (.getfield 31, 3) := by decide +kernel
theorem dX0_addPicture_14 : decode cX0_addPicture 14 = .ok (.aload_n 0, 1) := by decide +kernel
theorem dX0_addPicture_15 : decode cX0_addPicture 15 = .ok (.getfield 53, 3) := by decide +kernel
theorem dX0_addPicture_18 : decode cX0_addPicture 18 = .ok (.lload_n 1, 1) := by decide +kernel
theorem dX0_addPicture_19 : decode cX0_addPicture 19 = .ok (.lastore, 1) := by decide +kernel
theorem dX0_addPicture_20 : decode cX0_addPicture 20 = .ok (.aload_n 0, 1) := by decide +kernel
theorem dX0_addPicture_21 : decode cX0_addPicture 21 = .ok (.getfield 34, 3) := by decide +kernel
theorem dX0_addPicture_24 : decode cX0_addPicture 24 = .ok (.aload_n 0, 1) := by decide +kernel
theorem dX0_addPicture_25 : decode cX0_addPicture 25 = .ok (.getfield 53, 3) := by decide +kernel
theorem dX0_addPicture_28 : decode cX0_addPicture 28 = .ok (.iload_n 3, 1) := by decide +kernel
theorem dX0_addPicture_29 : decode cX0_addPicture 29 = .ok (.iastore, 1) := by decide +kernel
theorem dX0_addPicture_30 : decode cX0_addPicture 30 = .ok (.aload_n 0, 1) := by decide +kernel
theorem dX0_addPicture_31 : decode cX0_addPicture 31 = .ok (.dup, 1) := by decide +kernel
theorem dX0_addPicture_32 : decode cX0_addPicture 32 = .ok (.getfield 53, 3) := by decide +kernel
theorem dX0_addPicture_35 : decode cX0_addPicture 35 = .ok (.iconst 1, 1) := by decide +kernel
theorem dX0_addPicture_36 : decode cX0_addPicture 36 = .ok (.iadd, 1) := by decide +kernel
theorem dX0_addPicture_37 : decode cX0_addPicture 37 = .ok (.putfield 53, 3) := by decide +kernel
theorem dX0_addPicture_40 : decode cX0_addPicture 40 = .ok (.return_, 1) := by decide +kernel
theorem dX0_addCopy_0 : decode cX0_addCopy 0 = .ok (.aload_n 0, 1) := by decide +kernel
theorem dX0_addCopy_1 : decode cX0_addCopy 1 = .ok (.getfield 37, 3) := by decide +kernel
theorem dX0_addCopy_4 : decode cX0_addCopy 4 = .ok (.iload_n 1, 1) := by decide +kernel
theorem dX0_addCopy_5 : decode cX0_addCopy 5 = .ok (.dup2, 1) := by decide +kernel
theorem dX0_addCopy_6 : decode cX0_addCopy 6 = .ok (.iaload, 1) := by decide +kernel
theorem dX0_addCopy_7 : decode cX0_addCopy 7 = .ok (.iconst 1, 1) := by decide +kernel
theorem dX0_addCopy_8 : decode cX0_addCopy 8 = .ok (.iload_n 2, 1) := by decide +kernel
theorem dX0_addCopy_9 : decode cX0_addCopy 9 = .ok (.ishl, 1) := by decide +kernel
theorem dX0_addCopy_10 : decode cX0_addCopy 10 = .ok (.ior, 1) := by decide +kernel
theorem dX0_addCopy_11 : decode cX0_addCopy 11 = .ok (.iastore, 1) := by decide +kernel
theorem dX0_addCopy_12 : decode cX0_addCopy 12 = .ok (.aload_n 0, 1) := by decide +kernel
theorem dX0_addCopy_13 : decode cX0_addCopy 13 = .ok (.getfield 43, 3) := by decide +kernel
theorem dX0_addCopy_16 : decode cX0_addCopy 16 = .ok (.iload_n 1, 1) := by decide +kernel
theorem dX0_addCopy_17 : decode cX0_addCopy 17 = .ok (.iload_n 2, 1) := by decide +kernel
theorem dX0_addCopy_18 : decode cX0_addCopy 18 = .ok (.invokestatic 77, 3) := by decide +kernel
theorem dX0_addCopy_21 : decode cX0_addCopy 21 = .ok (.iload_n 3, 1) := by decide +kernel
theorem dX0_addCopy_22 : decode cX0_addCopy 22 = .ok (.iastore, 1) := by decide +kernel
theorem dX0_addCopy_23 : decode cX0_addCopy 23 = .ok (.aload_n 0, 1) := by decide +kernel
theorem dX0_addCopy_24 : decode cX0_addCopy 24 = .ok (.getfield 28, 3) := by decide +kernel
theorem dX0_addCopy_27 : decode cX0_addCopy 27 = .ok (.iload_n 2, 1) := by decide +kernel
theorem dX0_addCopy_28 : decode cX0_addCopy 28 = .ok (.dup2, 1) := by decide +kernel
theorem dX0_addCopy_29 : decode cX0_addCopy 29 = .ok (.iaload, 1) := by decide +kernel
theorem dX0_addCopy_30 : decode cX0_addCopy 30 = .ok (.iconst 1, 1) := by decide +kernel
theorem dX0_addCopy_31 : decode cX0_addCopy 31 = .ok (.iadd, 1) := by decide +kernel
theorem dX0_addCopy_32 : decode cX0_addCopy 32 = .ok (.iastore, 1) := by decide +kernel
theorem dX0_addCopy_33 : decode cX0_addCopy 33 = .ok (.return_, 1) := by decide +kernel
theorem dX0_removeFamily_0 : decode cX0_removeFamily 0 = .ok (.aload_n 0, 1) := by decide +kernel
theorem dX0_removeFamily_1 : decode cX0_removeFamily 1 = .ok (.getfield 50, 3) := by decide +kernel
theorem dX0_removeFamily_4 : decode cX0_removeFamily 4 = .ok (.iload_n 1, 1) := by decide +kernel
theorem dX0_removeFamily_5 : decode cX0_removeFamily 5 = .ok (.isub, 1) := by decide +kernel
theorem dX0_removeFamily_6 : decode cX0_removeFamily 6 = .ok (.iconst 1, 1) := by decide +kernel
theorem dX0_removeFamily_7 : decode cX0_removeFamily 7 = .ok (.isub, 1) := by decide +kernel
theorem dX0_removeFamily_8 : decode cX0_removeFamily 8 = .ok (.istore_n 2, 1) := by decide +kernel
theorem dX0_removeFamily_9 : decode cX0_removeFamily 9 = .ok (.aload_n 0, 1) := by decide +kernel
theorem dX0_removeFamily_10 : decode cX0_removeFamily 10 = .ok (.getfield 50, 3) := by decide +kernel
theorem dX0_removeFamily_13 : decode cX0_removeFamily 13 = .ok (.iconst 1, 1) := by decide +kernel
theorem dX0_removeFamily_14 : decode cX0_removeFamily 14 = .ok (.isub, 1) := by decide +kernel
theorem dX0_removeFamily_15 : decode cX0_removeFamily 15 = .ok (.istore_n 3, 1) := by decide +kernel
theorem dX0_removeFamily_16 : decode cX0_removeFamily 16 = .ok (.iload_n 2, 1) := by decide +kernel
theorem dX0_removeFamily_17 : decode cX0_removeFamily 17 = .ok (.ifCond .lt 7, 3) := by decide +kernel
theorem dX0_removeFamily_20 : decode cX0_removeFamily 20 = .ok (.iload_n 3, 1) := by decide +kernel
theorem dX0_removeFamily_21 : decode cX0_removeFamily 21 = .ok (.ifCond .ge 4, 3) := by decide +kernel
theorem dX0_removeFamily_24 : decode cX0_removeFamily 24 = .ok (.return_, 1) := by decide +kernel
theorem dX0_removeFamily_25 : decode cX0_removeFamily 25 = .ok (.iconst 0, 1) := by decide +kernel
theorem dX0_removeFamily_26 : decode cX0_removeFamily 26 = .ok (.istore 4, 2) := by decide +kernel
theorem dX0_removeFamily_28 : decode cX0_removeFamily 28 = .ok (.iload 4, 2) := by decide +kernel
theorem dX0_removeFamily_30 : decode cX0_removeFamily 30 = .ok (.aload_n 0, 1) := by decide +kernel
theorem dX0_removeFamily_31 : decode cX0_removeFamily 31 = .ok (.getfield 53, 3) := by decide +kernel
theorem dX0_removeFamily_34 : decode cX0_removeFamily 34 = .ok (.if_icmp .ge 83, 3) := by decide +kernel
theorem dX0_removeFamily_37 : decode cX0_removeFamily 37 = .ok (.aload_n 0, 1) := by decide +kernel
theorem dX0_removeFamily_38 : decode cX0_removeFamily 38 = .ok (.getfield 37, 3) := by decide +kernel
theorem dX0_removeFamily_41 : decode cX0_removeFamily 41 = .ok (.iload 4, 2) := by decide +kernel
theorem dX0_removeFamily_43 : decode cX0_removeFamily 43 = .ok (.aload_n 0, 1) := by decide +kernel
theorem dX0_removeFamily_44 : decode cX0_removeFamily 44 = .ok (.getfield 37, 3) := by decide +kernel
theorem dX0_removeFamily_47 : decode cX0_removeFamily 47 = .ok (.iload 4, 2) := by decide +kernel
theorem dX0_removeFamily_49 : decode cX0_removeFamily 49 = .ok (.iaload, 1) := by decide +kernel
theorem dX0_removeFamily_50 : decode cX0_removeFamily 50 = .ok (.iload_n 1, 1) := by decide +kernel
theorem dX0_removeFamily_51 : decode cX0_removeFamily 51 = .ok (.invokestatic 81, 3) := by decide +kernel
theorem dX0_removeFamily_54 : decode cX0_removeFamily 54 = .ok (.iastore, 1) := by decide +kernel
theorem dX0_removeFamily_55 : decode cX0_removeFamily 55 = .ok (.aload_n 0, 1) := by decide +kernel
theorem dX0_removeFamily_56 : decode cX0_removeFamily 56 = .ok (.getfield 40, 3) := by decide +kernel
theorem dX0_removeFamily_59 : decode cX0_removeFamily 59 = .ok (.iload 4, 2) := by decide +kernel
theorem dX0_removeFamily_61 : decode cX0_removeFamily 61 = .ok (.aload_n 0, 1) := by decide +kernel
theorem dX0_removeFamily_62 : decode cX0_removeFamily 62 = .ok (.getfield 40, 3) := by decide +kernel
theorem dX0_removeFamily_65 : decode cX0_removeFamily 65 = .ok (.iload 4, 2) := by decide +kernel
theorem dX0_removeFamily_67 : decode cX0_removeFamily 67 = .ok (.iaload, 1) := by decide +kernel
theorem dX0_removeFamily_68 : decode cX0_removeFamily 68 = .ok (.iload_n 1, 1) := by decide +kernel
theorem dX0_removeFamily_69 : decode cX0_removeFamily 69 = .ok (.invokestatic 81, 3) := by decide +kernel
theorem dX0_removeFamily_72 : decode cX0_removeFamily 72 = .ok (.iastore, 1) := by decide +kernel
theorem dX0_removeFamily_73 : decode cX0_removeFamily 73 = .ok (.aload_n 0, 1) := by decide +kernel
theorem dX0_removeFamily_74 : decode cX0_removeFamily 74 = .ok (.getfield 43, 3) := by decide +kernel
theorem dX0_removeFamily_77 : decode cX0_removeFamily 77 = .ok (.iload 4, 2) := by decide +kernel
theorem dX0_removeFamily_79 : decode cX0_removeFamily 79 = .ok (.iload_n 1, 1) := by decide +kernel
theorem dX0_removeFamily_80 : decode cX0_removeFamily 80 = .ok (.iconst 1, 1) := by decide +kernel
theorem dX0_removeFamily_81 : decode cX0_removeFamily 81 = .ok (.iadd, 1) := by decide +kernel
theorem dX0_removeFamily_82 : decode cX0_removeFamily 82 = .ok (.invokestatic 77, 3) := by decide +kernel
theorem dX0_removeFamily_85 : decode cX0_removeFamily 85 = .ok (.aload_n 0, 1) := by decide +kernel
theorem dX0_removeFamily_86 : decode cX0_removeFamily 86 = .ok (.getfield 43, 3) := by decide +kernel
theorem dX0_removeFamily_89 : decode cX0_removeFamily 89 = .ok (.iload 4, 2) := by decide +kernel
theorem dX0_removeFamily_91 : decode cX0_removeFamily 91 = .ok (.iload_n 1, 1) := by decide +kernel
theorem dX0_removeFamily_92 : decode cX0_removeFamily 92 = .ok (.invokestatic 77, 3) := by decide +kernel
theorem dX0_removeFamily_95 : decode cX0_removeFamily 95 = .ok (.iload_n 2, 1) := by decide +kernel
theorem dX0_removeFamily_96 : decode cX0_removeFamily 96 = .ok (.invokestatic 71, 3) := by decide +kernel
theorem dX0_removeFamily_99 : decode cX0_removeFamily 99 = .ok (.aload_n 0, 1) := by decide +kernel
theorem dX0_removeFamily_100 : decode cX0_removeFamily 100 = .ok (.getfield 43, 3) := by decide +kernel
theorem dX0_removeFamily_103 : decode cX0_removeFamily 103 = .ok (.iload 4, 2) := by decide +kernel
theorem dX0_removeFamily_105 : decode cX0_removeFamily 105 = .ok (.iload_n 3, 1) := by decide +kernel
theorem dX0_removeFamily_106 : decode cX0_removeFamily 106 = .ok (.invokestatic 77, 3) := by decide +kernel
theorem dX0_removeFamily_109 : decode cX0_removeFamily 109 = .ok (.iconst 0, 1) := by decide +kernel
theorem dX0_removeFamily_110 : decode cX0_removeFamily 110 = .ok (.iastore, 1) := by decide +kernel
theorem dX0_removeFamily_111 : decode cX0_removeFamily 111 = .ok (.iinc 4 1, 3) := by decide +kernel
theorem dX0_removeFamily_114 : decode cX0_removeFamily 114 = .ok (.goto (-86), 3) := by decide +kernel
theorem dX0_removeFamily_117 : decode cX0_removeFamily 117 = .ok (.aload_n 0, 1) := by decide +kernel
theorem dX0_removeFamily_118 : decode cX0_removeFamily 118 = .ok (.getfield 9, 3) := by decide +kernel
theorem dX0_removeFamily_121 : decode cX0_removeFamily 121 = .ok (.iload_n 1, 1) := by decide +kernel
theorem dX0_removeFamily_122 : decode cX0_removeFamily 122 = .ok (.iconst 1, 1) := by decide +kernel
theorem dX0_removeFamily_123 : decode cX0_removeFamily 123 = .ok (.iadd, 1) := by decide +kernel
theorem dX0_removeFamily_124 : decode cX0_removeFamily 124 = .ok (.aload_n 0, 1) := by decide +kernel
theorem dX0_removeFamily_125 : decode cX0_removeFamily 125 = .ok (.getfield 9, 3) := by decide +kernel
theorem dX0_removeFamily_128 : decode cX0_removeFamily 128 = .ok (.iload_n 1, 1) := by decide +kernel
theorem dX0_removeFamily_129 : decode cX0_removeFamily 129 = .ok (.iload_n 2, 1) := by decide +kernel
theorem dX0_removeFamily_130 : decode cX0_removeFamily 130 = .ok (.invokestatic 71, 3) := by decide +kernel
theorem dX0_removeFamily_133 : decode cX0_removeFamily 133 = .ok (.aload_n 0, 1) := by decide +kernel
theorem dX0_removeFamily_134 : decode cX0_removeFamily 134 = .ok (.getfield 9, 3) := by decide +kernel
theorem dX0_removeFamily_137 : decode cX0_removeFamily 137 = .ok (.iload_n 3, 1) := by decide +kernel
theorem dX0_removeFamily_138 : decode cX0_removeFamily 138 = .ok (.lconst 0, 1) := by decide +kernel
theorem dX0_removeFamily_139 : decode cX0_removeFamily 139 = .ok (.lastore, 1) := by decide +kernel
theorem dX0_removeFamily_140 : decode cX0_removeFamily 140 = .ok (.aload_n 0, 1) := by decide +kernel
theorem dX0_removeFamily_141 : decode cX0_removeFamily 141 = .ok (.getfield 15, 3) := by decide +kernel
theorem dX0_removeFamily_144 : decode cX0_removeFamily 144 = .ok (.iload_n 1, 1) := by decide +kernel
theorem dX0_removeFamily_145 : decode cX0_removeFamily 145 = .ok (.iload_n 2, 1) := by decide +kernel
theorem dX0_removeFamily_146 : decode cX0_removeFamily 146 = .ok (.invokestatic 84, 3) := by decide +kernel
theorem dX0_removeFamily_149 : decode cX0_removeFamily 149 = .ok (.aload_n 0, 1) := by decide +kernel
theorem dX0_removeFamily_150 : decode cX0_removeFamily 150 = .ok (.getfield 22, 3) := by decide +kernel
theorem dX0_removeFamily_153 : decode cX0_removeFamily 153 = .ok (.iload_n 1, 1) := by decide +kernel
theorem dX0_removeFamily_154 : decode cX0_removeFamily 154 = .ok (.iload_n 2, 1) := by decide +kernel
theorem dX0_removeFamily_155 : decode cX0_removeFamily 155 = .ok (.invokestatic 84, 3) := by decide +kernel
theorem dX0_removeFamily_158 : decode cX0_removeFamily 158 = .ok (.aload_n 0, 1) := by decide +kernel
theorem dX0_removeFamily_159 : decode cX0_removeFamily 159 = .ok (.getfield 25, 3) := by decide +kernel
theorem dX0_removeFamily_162 : decode cX0_removeFamily 162 = .ok (.iload_n 1, 1) := by decide +kernel
theorem dX0_removeFamily_163 : decode cX0_removeFamily 163 = .ok (.iload_n 2, 1) := by decide +kernel
theorem dX0_removeFamily_164 : decode cX0_removeFamily 164 = .ok (.invokestatic 84, 3) := by decide +kernel
theorem dX0_removeFamily_167 : decode cX0_removeFamily 167 = .ok (.aload_n 0, 1) := by decide +kernel
theorem dX0_removeFamily_168 : decode cX0_removeFamily 168 = .ok (.getfield 28, 3) := by decide +kernel
theorem dX0_removeFamily_171 : decode cX0_removeFamily 171 = .ok (.iload_n 1, 1) := by decide +kernel
theorem dX0_removeFamily_172 : decode cX0_removeFamily 172 = .ok (.iload_n 2, 1) := by decide +kernel
theorem dX0_removeFamily_173 : decode cX0_removeFamily 173 = .ok (.invokestatic 84, 3) := by decide +kernel
theorem dX0_removeFamily_176 : decode cX0_removeFamily 176 = .ok (.aload_n 0, 1) := by decide +kernel
theorem dX0_removeFamily_177 : decode cX0_removeFamily 177 = .ok (.getfield 19, 3) := by decide +kernel
theorem dX0_removeFamily_180 : decode cX0_removeFamily 180 = .ok (.iload_n 1, 1) := by decide +kernel
theorem dX0_removeFamily_181 : decode cX0_removeFamily 181 = .ok (.iload_n 2, 1) := by decide +kernel
theorem dX0_removeFamily_182 : decode cX0_removeFamily 182 = .ok (.invokestatic 84, 3) := by decide +kernel
theorem dX0_removeFamily_185 : decode cX0_removeFamily 185 = .ok (.aload_n 0, 1) := by decide +kernel
theorem dX0_removeFamily_186 : decode cX0_removeFamily 186 = .ok (.iload_n 3, 1) := by decide +kernel
theorem dX0_removeFamily_187 : decode cX0_removeFamily 187 = .ok (.putfield 50, 3) := by decide +kernel
theorem dX0_removeFamily_190 : decode cX0_removeFamily 190 = .ok (.iconst 0, 1) := by decide +kernel
theorem dX0_removeFamily_191 : decode cX0_removeFamily 191 = .ok (.istore 4, 2) := by decide +kernel
theorem dX0_removeFamily_193 : decode cX0_removeFamily 193 = .ok (.iload 4, 2) := by decide +kernel
theorem dX0_removeFamily_195 : decode cX0_removeFamily 195 = .ok (.aload_n 0, 1) := by decide +kernel
theorem dX0_removeFamily_196 : decode cX0_removeFamily 196 = .ok (.getfield 50, 3) := by decide +kernel
theorem dX0_removeFamily_199 : decode cX0_removeFamily 199 = .ok (.if_icmp .ge 27, 3) := by decide +kernel
theorem dX0_removeFamily_202 : decode cX0_removeFamily 202 = .ok (.aload_n 0, 1) := by decide +kernel
theorem dX0_removeFamily_203 : decode cX0_removeFamily 203 = .ok (.getfield 19, 3) := by decide +kernel
theorem dX0_removeFamily_206 : decode cX0_removeFamily 206 = .ok (.iload 4, 2) := by decide +kernel
theorem dX0_removeFamily_208 : decode cX0_removeFamily 208 = .ok (.aload_n 0, 1) := by decide +kernel
theorem dX0_removeFamily_209 : decode cX0_removeFamily 209 = .ok (.getfield 19, 3) := by decide +kernel
theorem dX0_removeFamily_212 : decode cX0_removeFamily 212 = .ok (.iload 4, 2) := by decide +kernel
theorem dX0_removeFamily_214 : decode cX0_removeFamily 214 = .ok (.iaload, 1) := by decide +kernel
theorem dX0_removeFamily_215 : decode cX0_removeFamily 215 = .ok (.iload_n 1, 1) := by decide +kernel
theorem dX0_removeFamily_216 : decode cX0_removeFamily 216 = .ok (.invokestatic 81, 3) := by decide +kernel
theorem dX0_removeFamily_219 : decode cX0_removeFamily 219 = .ok (.iastore, 1) := by decide +kernel
theorem dX0_removeFamily_220 : decode cX0_removeFamily 220 = .ok (.iinc 4 1, 3) := by decide +kernel
theorem dX0_removeFamily_223 : decode cX0_removeFamily 223 = .ok (.goto (-30), 3) := by decide +kernel
theorem dX0_removeFamily_226 : decode cX0_removeFamily 226 = .ok (.return_, 1) := by decide +kernel
theorem dX0_dropRow_0 : decode cX0_dropRow 0 = .ok (.aload_n 0, 1) := by decide +kernel
theorem dX0_dropRow_1 : decode cX0_dropRow 1 = .ok (.iload_n 1, 1) := by decide +kernel
theorem dX0_dropRow_2 : decode cX0_dropRow 2 = .ok (.iconst 1, 1) := by decide +kernel
theorem dX0_dropRow_3 : decode cX0_dropRow 3 = .ok (.iadd, 1) := by decide +kernel
theorem dX0_dropRow_4 : decode cX0_dropRow 4 = .ok (.aload_n 0, 1) := by decide +kernel
theorem dX0_dropRow_5 : decode cX0_dropRow 5 = .ok (.iload_n 1, 1) := by decide +kernel
theorem dX0_dropRow_6 : decode cX0_dropRow 6 = .ok (.iload_n 2, 1) := by decide +kernel
theorem dX0_dropRow_7 : decode cX0_dropRow 7 = .ok (.invokestatic 71, 3) := by decide +kernel
theorem dX0_dropRow_10 : decode cX0_dropRow 10 = .ok (.aload_n 0, 1) := by decide +kernel
theorem dX0_dropRow_11 : decode cX0_dropRow 11 = .ok (.iload_n 1, 1) := by decide +kernel
theorem dX0_dropRow_12 : decode cX0_dropRow 12 = .ok (.iload_n 2, 1) := by decide +kernel
theorem dX0_dropRow_13 : decode cX0_dropRow 13 = .ok (.iadd, 1) := by decide +kernel
theorem dX0_dropRow_14 : decode cX0_dropRow 14 = .ok (.iconst 0, 1) := by decide +kernel
theorem dX0_dropRow_15 : decode cX0_dropRow 15 = .ok (.iastore, 1) := by decide +kernel
theorem dX0_dropRow_16 : decode cX0_dropRow 16 = .ok (.return_, 1) := by decide +kernel
theorem dX0_withoutBit_0 : decode cX0_withoutBit 0 = .ok (.iload_n 0, 1) := by decide +kernel
theorem dX0_withoutBit_1 : decode cX0_withoutBit 1 = .ok (.iconst 1, 1) := by decide +kernel
theorem dX0_withoutBit_2 : decode cX0_withoutBit 2 = .ok (.iload_n 1, 1) := by decide +kernel
theorem dX0_withoutBit_3 : decode cX0_withoutBit 3 = .ok (.ishl, 1) := by decide +kernel
theorem dX0_withoutBit_4 : decode cX0_withoutBit 4 = .ok (.iconst 1, 1) := by decide +kernel
theorem dX0_withoutBit_5 : decode cX0_withoutBit 5 = .ok (.isub, 1) := by decide +kernel
theorem dX0_withoutBit_6 : decode cX0_withoutBit 6 = .ok (.iand, 1) := by decide +kernel
theorem dX0_withoutBit_7 : decode cX0_withoutBit 7 = .ok (.istore_n 2, 1) := by decide +kernel
theorem dX0_withoutBit_8 : decode cX0_withoutBit 8 = .ok (.iload_n 0, 1) := by decide +kernel
theorem dX0_withoutBit_9 : decode cX0_withoutBit 9 = .ok (.iload_n 1, 1) := by decide +kernel
theorem dX0_withoutBit_10 : decode cX0_withoutBit 10 = .ok (.iconst 1, 1) := by decide +kernel
theorem dX0_withoutBit_11 : decode cX0_withoutBit 11 = .ok (.iadd, 1) := by decide +kernel
theorem dX0_withoutBit_12 : decode cX0_withoutBit 12 = .ok (.iushr, 1) := by decide +kernel
theorem dX0_withoutBit_13 : decode cX0_withoutBit 13 = .ok (.iload_n 1, 1) := by decide +kernel
theorem dX0_withoutBit_14 : decode cX0_withoutBit 14 = .ok (.ishl, 1) := by decide +kernel
theorem dX0_withoutBit_15 : decode cX0_withoutBit 15 = .ok (.istore_n 3, 1) := by decide +kernel
theorem dX0_withoutBit_16 : decode cX0_withoutBit 16 = .ok (.iload_n 2, 1) := by decide +kernel
theorem dX0_withoutBit_17 : decode cX0_withoutBit 17 = .ok (.iload_n 3, 1) := by decide +kernel
theorem dX0_withoutBit_18 : decode cX0_withoutBit 18 = .ok (.ior, 1) := by decide +kernel
theorem dX0_withoutBit_19 : decode cX0_withoutBit 19 = .ok (.ireturn, 1) := by decide +kernel
theorem dX0_cell_0 : decode cX0_cell 0 = .ok (.iload_n 0, 1) := by decide +kernel
theorem dX0_cell_1 : decode cX0_cell 1 = .ok (.bipush 10, 2) := by decide +kernel
theorem dX0_cell_3 : decode cX0_cell 3 = .ok (.imul, 1) := by decide +kernel
theorem dX0_cell_4 : decode cX0_cell 4 = .ok (.iload_n 1, 1) := by decide +kernel
theorem dX0_cell_5 : decode cX0_cell 5 = .ok (.iadd, 1) := by decide +kernel
theorem dX0_cell_6 : decode cX0_cell 6 = .ok (.ireturn, 1) := by decide +kernel
theorem dX0_allTiles_0 : decode cX0_allTiles 0 = .ok (.iconst 1, 1) := by decide +kernel
theorem dX0_allTiles_1 : decode cX0_allTiles 1 = .ok (.aload_n 0, 1) := by decide +kernel
theorem dX0_allTiles_2 : decode cX0_allTiles 2 = .ok (.getfield 46, 3) := by decide +kernel
theorem dX0_allTiles_5 : decode cX0_allTiles 5 = .ok (.ishl, 1) := by decide +kernel
theorem dX0_allTiles_6 : decode cX0_allTiles 6 = .ok (.iconst 1, 1) := by decide +kernel
theorem dX0_allTiles_7 : decode cX0_allTiles 7 = .ok (.isub, 1) := by decide +kernel
theorem dX0_allTiles_8 : decode cX0_allTiles 8 = .ok (.ireturn, 1) := by decide +kernel
theorem dX0_spoiledTiles_0 : decode cX0_spoiledTiles 0 = .ok (.aload_n 0, 1) := by decide +kernel
theorem dX0_spoiledTiles_1 : decode cX0_spoiledTiles 1 = .ok (.getfield 43, 3) := by decide +kernel
theorem dX0_spoiledTiles_4 : decode cX0_spoiledTiles 4 = .ok (.iload_n 1, 1) := by decide +kernel
theorem dX0_spoiledTiles_5 : decode cX0_spoiledTiles 5 = .ok (.iload_n 2, 1) := by decide +kernel
theorem dX0_spoiledTiles_6 : decode cX0_spoiledTiles 6 = .ok (.invokestatic 77, 3) := by decide +kernel
theorem dX0_spoiledTiles_9 : decode cX0_spoiledTiles 9 = .ok (.iaload, 1) := by decide +kernel
theorem dX0_spoiledTiles_10 : decode cX0_spoiledTiles 10 = .ok (.ireturn, 1) := by decide +kernel
theorem dX0_isHeld_0 : decode cX0_isHeld 0 = .ok (.aload_n 0, 1) := by decide +kernel
theorem dX0_isHeld_1 : decode cX0_isHeld 1 = .ok (.getfield 37, 3) := by decide +kernel
theorem dX0_isHeld_4 : decode cX0_isHeld 4 = .ok (.iload_n 1, 1) := by decide +kernel
theorem dX0_isHeld_5 : decode cX0_isHeld 5 = .ok (.iaload, 1) := by decide +kernel
theorem dX0_isHeld_6 : decode cX0_isHeld 6 = .ok (.iload_n 2, 1) := by decide +kernel
theorem dX0_isHeld_7 : decode cX0_isHeld 7 = .ok (.iushr, 1) := by decide +kernel
theorem dX0_isHeld_8 : decode cX0_isHeld 8 = .ok (.iconst 1, 1) := by decide +kernel
theorem dX0_isHeld_9 : decode cX0_isHeld 9 = .ok (.iand, 1) := by decide +kernel
theorem dX0_isHeld_10 : decode cX0_isHeld 10 = .ok (.ifCond .eq 7, 3) := by decide +kernel
theorem dX0_isHeld_13 : decode cX0_isHeld 13 = .ok (.iconst 1, 1) := by decide +kernel
theorem dX0_isHeld_14 : decode cX0_isHeld 14 = .ok (.goto 4, 3) := by decide +kernel
theorem dX0_isHeld_17 : decode cX0_isHeld 17 = .ok (.iconst 0, 1) := by decide +kernel
theorem dX0_isHeld_18 : decode cX0_isHeld 18 = .ok (.ireturn, 1) := by decide +kernel
theorem dX0_hasCopy_0 : decode cX0_hasCopy 0 = .ok (.aload_n 0, 1) := by decide +kernel
theorem dX0_hasCopy_1 : decode cX0_hasCopy 1 = .ok (.getfield 37, 3) := by decide +kernel
theorem dX0_hasCopy_4 : decode cX0_hasCopy 4 = .ok (.iload_n 1, 1) := by decide +kernel
theorem dX0_hasCopy_5 : decode cX0_hasCopy 5 = .ok (.iaload, 1) := by decide +kernel
theorem dX0_hasCopy_6 : decode cX0_hasCopy 6 = .ok (.aload_n 0, 1) := by decide +kernel
theorem dX0_hasCopy_7 : decode cX0_hasCopy 7 = .ok (.getfield 40, 3) := by decide +kernel
theorem dX0_hasCopy_10 : decode cX0_hasCopy 10 = .ok (.iload_n 1, 1) := by decide +kernel
theorem dX0_hasCopy_11 : decode cX0_hasCopy 11 = .ok (.iaload, 1) := by decide +kernel
theorem dX0_hasCopy_12 : decode cX0_hasCopy 12 = .ok (.ior, 1) := by decide +kernel
theorem dX0_hasCopy_13 : decode cX0_hasCopy 13 = .ok (.iload_n 2, 1) := by decide +kernel
theorem dX0_hasCopy_14 : decode cX0_hasCopy 14 = .ok (.iushr, 1) := by decide +kernel
theorem dX0_hasCopy_15 : decode cX0_hasCopy 15 = .ok (.iconst 1, 1) := by decide +kernel
theorem dX0_hasCopy_16 : decode cX0_hasCopy 16 = .ok (.iand, 1) := by decide +kernel
theorem dX0_hasCopy_17 : decode cX0_hasCopy 17 = .ok (.ifCond .eq 7, 3) := by decide +kernel
theorem dX0_hasCopy_20 : decode cX0_hasCopy 20 = .ok (.iconst 1, 1) := by decide +kernel
theorem dX0_hasCopy_21 : decode cX0_hasCopy 21 = .ok (.goto 4, 3) := by decide +kernel
theorem dX0_hasCopy_24 : decode cX0_hasCopy 24 = .ok (.iconst 0, 1) := by decide +kernel
theorem dX0_hasCopy_25 : decode cX0_hasCopy 25 = .ok (.ireturn, 1) := by decide +kernel
theorem dX0_areNeighbours_0 : decode cX0_areNeighbours 0 = .ok (.aload_n 0, 1) := by decide +kernel
theorem dX0_areNeighbours_1 : decode cX0_areNeighbours 1 = .ok (.getfield 19, 3) := by decide +kernel
theorem dX0_areNeighbours_4 : decode cX0_areNeighbours 4 = .ok (.iload_n 1, 1) := by decide +kernel
theorem dX0_areNeighbours_5 : decode cX0_areNeighbours 5 = .ok (.iaload, 1) := by decide +kernel
theorem dX0_areNeighbours_6 : decode cX0_areNeighbours 6 = .ok (.iload_n 2, 1) := by decide +kernel
theorem dX0_areNeighbours_7 : decode cX0_areNeighbours 7 = .ok (.iushr, 1) := by decide +kernel
theorem dX0_areNeighbours_8 : decode cX0_areNeighbours 8 = .ok (.iconst 1, 1) := by decide +kernel
theorem dX0_areNeighbours_9 : decode cX0_areNeighbours 9 = .ok (.iand, 1) := by decide +kernel
theorem dX0_areNeighbours_10 : decode cX0_areNeighbours 10 = .ok (.ifCond .eq 7, 3) := by decide +kernel
theorem dX0_areNeighbours_13 : decode cX0_areNeighbours 13 = .ok (.iconst 1, 1) := by decide +kernel
theorem dX0_areNeighbours_14 : decode cX0_areNeighbours 14 = .ok (.goto 4, 3) := by decide +kernel
theorem dX0_areNeighbours_17 : decode cX0_areNeighbours 17 = .ok (.iconst 0, 1) := by decide +kernel
theorem dX0_areNeighbours_18 : decode cX0_areNeighbours 18 = .ok (.ireturn, 1) := by decide +kernel
theorem dX0_makeNeighbours_0 : decode cX0_makeNeighbours 0 = .ok (.aload_n 0, 1) := by decide +kernel
theorem dX0_makeNeighbours_1 : decode cX0_makeNeighbours 1 = .ok (.getfield 19, 3) := by decide +kernel
theorem dX0_makeNeighbours_4 : decode cX0_makeNeighbours 4 = .ok (.iload_n 1, 1) := by decide +kernel
theorem dX0_makeNeighbours_5 : decode cX0_makeNeighbours 5 = .ok (.dup2, 1) := by decide +kernel
theorem dX0_makeNeighbours_6 : decode cX0_makeNeighbours 6 = .ok (.iaload, 1) := by decide +kernel
theorem dX0_makeNeighbours_7 : decode cX0_makeNeighbours 7 = .ok (.iconst 1, 1) := by decide +kernel
theorem dX0_makeNeighbours_8 : decode cX0_makeNeighbours 8 = .ok (.iload_n 2, 1) := by decide +kernel
theorem dX0_makeNeighbours_9 : decode cX0_makeNeighbours 9 = .ok (.ishl, 1) := by decide +kernel
theorem dX0_makeNeighbours_10 : decode cX0_makeNeighbours 10 = .ok (.ior, 1) := by decide +kernel
theorem dX0_makeNeighbours_11 : decode cX0_makeNeighbours 11 = .ok (.iastore, 1) := by decide +kernel
theorem dX0_makeNeighbours_12 : decode cX0_makeNeighbours 12 = .ok (.aload_n 0, 1) := by decide +kernel
theorem dX0_makeNeighbours_13 : decode cX0_makeNeighbours 13 = .ok (.getfield 19, 3) := by decide +kernel
theorem dX0_makeNeighbours_16 : decode cX0_makeNeighbours 16 = .ok (.iload_n 2, 1) := by decide +kernel
theorem dX0_makeNeighbours_17 : decode cX0_makeNeighbours 17 = .ok (.dup2, 1) := by decide +kernel
theorem dX0_makeNeighbours_18 : decode cX0_makeNeighbours 18 = .ok (.iaload, 1) := by decide +kernel
theorem dX0_makeNeighbours_19 : decode cX0_makeNeighbours 19 = .ok (.iconst 1, 1) := by decide +kernel
theorem dX0_makeNeighbours_20 : decode cX0_makeNeighbours 20 = .ok (.iload_n 1, 1) := by decide +kernel
theorem dX0_makeNeighbours_21 : decode cX0_makeNeighbours 21 = .ok (.ishl, 1) := by decide +kernel
theorem dX0_makeNeighbours_22 : decode cX0_makeNeighbours 22 = .ok (.ior, 1) := by decide +kernel
theorem dX0_makeNeighbours_23 : decode cX0_makeNeighbours 23 = .ok (.iastore, 1) := by decide +kernel
theorem dX0_makeNeighbours_24 : decode cX0_makeNeighbours 24 = .ok (.return_, 1) := by decide +kernel
theorem dX0_neighbourPairs_0 : decode cX0_neighbourPairs 0 = .ok (.iconst 0, 1) := by decide +kernel
theorem dX0_neighbourPairs_1 : decode cX0_neighbourPairs 1 = .ok (.istore_n 1, 1) := by decide +kernel
theorem dX0_neighbourPairs_2 : decode cX0_neighbourPairs 2 = .ok (.iconst 0, 1) := by decide +kernel
theorem dX0_neighbourPairs_3 : decode cX0_neighbourPairs 3 = .ok (.istore_n 2, 1) := by decide +kernel
theorem dX0_neighbourPairs_4 : decode cX0_neighbourPairs 4 = .ok (.iload_n 2, 1) := by decide +kernel
theorem dX0_neighbourPairs_5 : decode cX0_neighbourPairs 5 = .ok (.aload_n 0, 1) := by decide +kernel
theorem dX0_neighbourPairs_6 : decode cX0_neighbourPairs 6 = .ok (.getfield 50, 3) := by decide +kernel
theorem dX0_neighbourPairs_9 : decode cX0_neighbourPairs 9 = .ok (.if_icmp .ge 21, 3) := by decide +kernel
theorem dX0_neighbourPairs_12 : decode cX0_neighbourPairs 12 = .ok (.iload_n 1, 1) := by decide +kernel
theorem dX0_neighbourPairs_13 : decode cX0_neighbourPairs 13 = .ok (.aload_n 0, 1) := by decide +kernel
theorem dX0_neighbourPairs_14 : decode cX0_neighbourPairs 14 = .ok (.getfield 19, 3) := by decide +kernel
theorem dX0_neighbourPairs_17 : decode cX0_neighbourPairs 17 = .ok (.iload_n 2, 1) := by decide +kernel
theorem dX0_neighbourPairs_18 : decode cX0_neighbourPairs 18 = .ok (.iaload, 1) := by decide +kernel
theorem dX0_neighbourPairs_19 : decode cX0_neighbourPairs 19 = .ok (.invokestatic 88, 3) := by decide +kernel
theorem dX0_neighbourPairs_22 : decode cX0_neighbourPairs 22 = .ok (.iadd, 1) := by decide +kernel
theorem dX0_neighbourPairs_23 : decode cX0_neighbourPairs 23 = .ok (.istore_n 1, 1) := by decide +kernel
theorem dX0_neighbourPairs_24 : decode cX0_neighbourPairs 24 = .ok (.iinc 2 1, 3) := by decide +kernel
theorem dX0_neighbourPairs_27 : decode cX0_neighbourPairs 27 = .ok (.goto (-23), 3) := by decide +kernel
theorem dX0_neighbourPairs_30 : decode cX0_neighbourPairs 30 = .ok (.iload_n 1, 1) := by decide +kernel
theorem dX0_neighbourPairs_31 : decode cX0_neighbourPairs 31 = .ok (.iconst 2, 1) := by decide +kernel
theorem dX0_neighbourPairs_32 : decode cX0_neighbourPairs 32 = .ok (.idiv, 1) := by decide +kernel
theorem dX0_neighbourPairs_33 : decode cX0_neighbourPairs 33 = .ok (.ireturn, 1) := by decide +kernel
theorem dX0_allCopies_0 : decode cX0_allCopies 0 = .ok (.aload_n 0, 1) := by decide +kernel
theorem dX0_allCopies_1 : decode cX0_allCopies 1 = .ok (.invokevirtual 94, 3) := by decide +kernel
theorem dX0_allCopies_4 : decode cX0_allCopies 4 = .ok (.aload_n 0, 1) := by decide +kernel
theorem dX0_allCopies_5 : decode cX0_allCopies 5 = .ok (.invokevirtual 98, 3) := by decide +kernel
theorem dX0_allCopies_8 : decode cX0_allCopies 8 = .ok (.iadd, 1) := by decide +kernel
theorem dX0_allCopies_9 : decode cX0_allCopies 9 = .ok (.ireturn, 1) := by decide +kernel
theorem dX0_heldCopies_0 : decode cX0_heldCopies 0 = .ok (.iconst 0, 1) := by decide +kernel
theorem dX0_heldCopies_1 : decode cX0_heldCopies 1 = .ok (.istore_n 1, 1) := by decide +kernel
theorem dX0_heldCopies_2 : decode cX0_heldCopies 2 = .ok (.iconst 0, 1) := by decide +kernel
theorem dX0_heldCopies_3 : decode cX0_heldCopies 3 = .ok (.istore_n 2, 1) := by decide +kernel
theorem dX0_heldCopies_4 : decode cX0_heldCopies 4 = .ok (.iload_n 2, 1) := by decide +kernel
theorem dX0_heldCopies_5 : decode cX0_heldCopies 5 = .ok (.aload_n 0, 1) := by decide +kernel
theorem dX0_heldCopies_6 : decode cX0_heldCopies 6 = .ok (.getfield 53, 3) := by decide +kernel
theorem dX0_heldCopies_9 : decode cX0_heldCopies 9 = .ok (.if_icmp .ge 21, 3) := by decide +kernel
theorem dX0_heldCopies_12 : decode cX0_heldCopies 12 = .ok (.iload_n 1, 1) := by decide +kernel
theorem dX0_heldCopies_13 : decode cX0_heldCopies 13 = .ok (.aload_n 0, 1) := by decide +kernel
theorem dX0_heldCopies_14 : decode cX0_heldCopies 14 = .ok (.getfield 37, 3) := by decide +kernel
theorem dX0_heldCopies_17 : decode cX0_heldCopies 17 = .ok (.iload_n 2, 1) := by decide +kernel
theorem dX0_heldCopies_18 : decode cX0_heldCopies 18 = .ok (.iaload, 1) := by decide +kernel
theorem dX0_heldCopies_19 : decode cX0_heldCopies 19 = .ok (.invokestatic 88, 3) := by decide +kernel
theorem dX0_heldCopies_22 : decode cX0_heldCopies 22 = .ok (.iadd, 1) := by decide +kernel
theorem dX0_heldCopies_23 : decode cX0_heldCopies 23 = .ok (.istore_n 1, 1) := by decide +kernel
theorem dX0_heldCopies_24 : decode cX0_heldCopies 24 = .ok (.iinc 2 1, 3) := by decide +kernel
theorem dX0_heldCopies_27 : decode cX0_heldCopies 27 = .ok (.goto (-23), 3) := by decide +kernel
theorem dX0_heldCopies_30 : decode cX0_heldCopies 30 = .ok (.iload_n 1, 1) := by decide +kernel
theorem dX0_heldCopies_31 : decode cX0_heldCopies 31 = .ok (.ireturn, 1) := by decide +kernel
theorem dX0_brokenCopies_0 : decode cX0_brokenCopies 0 = .ok (.iconst 0, 1) := by decide +kernel
theorem dX0_brokenCopies_1 : decode cX0_brokenCopies 1 = .ok (.istore_n 1, 1) := by decide +kernel
theorem dX0_brokenCopies_2 : decode cX0_brokenCopies 2 = .ok (.iconst 0, 1) := by decide +kernel
theorem dX0_brokenCopies_3 : decode cX0_brokenCopies 3 = .ok (.istore_n 2, 1) := by decide +kernel
theorem dX0_brokenCopies_4 : decode cX0_brokenCopies 4 = .ok (.iload_n 2, 1) := by decide +kernel
theorem dX0_brokenCopies_5 : decode cX0_brokenCopies 5 = .ok (.aload_n 0, 1) := by decide +kernel
theorem dX0_brokenCopies_6 : decode cX0_brokenCopies 6 = .ok (.getfield 53, 3) := by decide +kernel
theorem dX0_brokenCopies_9 : decode cX0_brokenCopies 9 = .ok (.if_icmp .ge 21, 3) := by decide +kernel
theorem dX0_brokenCopies_12 : decode cX0_brokenCopies 12 = .ok (.iload_n 1, 1) := by decide +kernel
theorem dX0_brokenCopies_13 : decode cX0_brokenCopies 13 = .ok (.aload_n 0, 1) := by decide +kernel
theorem dX0_brokenCopies_14 : decode cX0_brokenCopies 14 = .ok (.getfield 40, 3) := by decide +kernel
theorem dX0_brokenCopies_17 : decode cX0_brokenCopies 17 = .ok (.iload_n 2, 1) := by decide +kernel
theorem dX0_brokenCopies_18 : decode cX0_brokenCopies 18 = .ok (.iaload, 1) := by decide +kernel
theorem dX0_brokenCopies_19 : decode cX0_brokenCopies 19 = .ok (.invokestatic 88, 3) := by decide +kernel
theorem dX0_brokenCopies_22 : decode cX0_brokenCopies 22 = .ok (.iadd, 1) := by decide +kernel
theorem dX0_brokenCopies_23 : decode cX0_brokenCopies 23 = .ok (.istore_n 1, 1) := by decide +kernel
theorem dX0_brokenCopies_24 : decode cX0_brokenCopies 24 = .ok (.iinc 2 1, 3) := by decide +kernel
theorem dX0_brokenCopies_27 : decode cX0_brokenCopies 27 = .ok (.goto (-23), 3) := by decide +kernel
theorem dX0_brokenCopies_30 : decode cX0_brokenCopies 30 = .ok (.iload_n 1, 1) := by decide +kernel
theorem dX0_brokenCopies_31 : decode cX0_brokenCopies 31 = .ok (.ireturn, 1) := by decide +kernel
theorem dX0_unsoundCopies_0 : decode cX0_unsoundCopies 0 = .ok (.iconst 0, 1) := by decide +kernel
theorem dX0_unsoundCopies_1 : decode cX0_unsoundCopies 1 = .ok (.istore_n 1, 1) := by decide +kernel
theorem dX0_unsoundCopies_2 : decode cX0_unsoundCopies 2 = .ok (.iconst 0, 1) := by decide +kernel
theorem dX0_unsoundCopies_3 : decode cX0_unsoundCopies 3 = .ok (.istore_n 2, 1) := by decide +kernel
theorem dX0_unsoundCopies_4 : decode cX0_unsoundCopies 4 = .ok (.iload_n 2, 1) := by decide +kernel
theorem dX0_unsoundCopies_5 : decode cX0_unsoundCopies 5 = .ok (.aload_n 0, 1) := by decide +kernel
theorem dX0_unsoundCopies_6 : decode cX0_unsoundCopies 6 = .ok (.getfield 53, 3) := by decide +kernel
theorem dX0_unsoundCopies_9 : decode cX0_unsoundCopies 9 = .ok (.if_icmp .ge 29, 3) := by decide +kernel
theorem dX0_unsoundCopies_12 : decode cX0_unsoundCopies 12 = .ok (.iload_n 1, 1) := by decide +kernel
theorem dX0_unsoundCopies_13 : decode cX0_unsoundCopies 13 = .ok (.aload_n 0, 1) := by decide +kernel
theorem dX0_unsoundCopies_14 : decode cX0_unsoundCopies 14 = .ok (.getfield 37, 3) := by decide +kernel
theorem dX0_unsoundCopies_17 : decode cX0_unsoundCopies 17 = .ok (.iload_n 2, 1) := by decide +kernel
theorem dX0_unsoundCopies_18 : decode cX0_unsoundCopies 18 = .ok (.iaload, 1) := by decide +kernel
theorem dX0_unsoundCopies_19 : decode cX0_unsoundCopies 19 = .ok (.aload_n 0, 1) := by decide +kernel
theorem dX0_unsoundCopies_20 : decode cX0_unsoundCopies 20 = .ok (.iload_n 2, 1) := by decide +kernel
theorem dX0_unsoundCopies_21 : decode cX0_unsoundCopies 21 = .ok (.invokevirtual 101, 3) := by decide +kernel
theorem dX0_unsoundCopies_24 : decode cX0_unsoundCopies 24 = .ok (.iconst (-1), 1) := by decide +kernel
theorem dX0_unsoundCopies_25 : decode cX0_unsoundCopies 25 = .ok (.ixor, 1) := by decide +kernel
theorem dX0_unsoundCopies_26 : decode cX0_unsoundCopies 26 = .ok (.iand, 1) := by decide +kernel
theorem dX0_unsoundCopies_27 : decode cX0_unsoundCopies 27 = .ok (.invokestatic 88, 3) := by decide +kernel
theorem dX0_unsoundCopies_30 : decode cX0_unsoundCopies 30 = .ok (.iadd, 1) := by decide +kernel
theorem dX0_unsoundCopies_31 : decode cX0_unsoundCopies 31 = .ok (.istore_n 1, 1) := by decide +kernel
theorem dX0_unsoundCopies_32 : decode cX0_unsoundCopies 32 = .ok (.iinc 2 1, 3) := by decide +kernel
theorem dX0_unsoundCopies_35 : decode cX0_unsoundCopies 35 = .ok (.goto (-31), 3) := by decide +kernel
theorem dX0_unsoundCopies_38 : decode cX0_unsoundCopies 38 = .ok (.iload_n 1, 1) := by decide +kernel
theorem dX0_unsoundCopies_39 : decode cX0_unsoundCopies 39 = .ok (.ireturn, 1) := by decide +kernel
theorem dX0_brokenCopiesOf_0 : decode cX0_brokenCopiesOf 0 = .ok (.iconst 0, 1) := by decide +kernel
theorem dX0_brokenCopiesOf_1 : decode cX0_brokenCopiesOf 1 = .ok (.istore_n 2, 1) := by decide +kernel
theorem dX0_brokenCopiesOf_2 : decode cX0_brokenCopiesOf 2 = .ok (.iconst 0, 1) := by decide +kernel
theorem dX0_brokenCopiesOf_3 : decode cX0_brokenCopiesOf 3 = .ok (.istore_n 3, 1) := by decide +kernel
theorem dX0_brokenCopiesOf_4 : decode cX0_brokenCopiesOf 4 = .ok (.iload_n 3, 1) := by decide +kernel
theorem dX0_brokenCopiesOf_5 : decode cX0_brokenCopiesOf 5 = .ok (.aload_n 0, 1) := by decide +kernel
theorem dX0_brokenCopiesOf_6 : decode cX0_brokenCopiesOf 6 = .ok (.getfield 53, 3) := by decide +kernel
theorem dX0_brokenCopiesOf_9 : decode cX0_brokenCopiesOf 9 = .ok (.if_icmp .ge 22, 3) := by decide +kernel
theorem dX0_brokenCopiesOf_12 : decode cX0_brokenCopiesOf 12 = .ok (.iload_n 2, 1) := by decide +kernel
theorem dX0_brokenCopiesOf_13 : decode cX0_brokenCopiesOf 13 = .ok (.aload_n 0, 1) := by decide +kernel
theorem dX0_brokenCopiesOf_14 : decode cX0_brokenCopiesOf 14 = .ok (.getfield 40, 3) := by decide +kernel
theorem dX0_brokenCopiesOf_17 : decode cX0_brokenCopiesOf 17 = .ok (.iload_n 3, 1) := by decide +kernel
theorem dX0_brokenCopiesOf_18 : decode cX0_brokenCopiesOf 18 = .ok (.iaload, 1) := by decide +kernel
theorem dX0_brokenCopiesOf_19 : decode cX0_brokenCopiesOf 19 = .ok (.iload_n 1, 1) := by decide +kernel
theorem dX0_brokenCopiesOf_20 : decode cX0_brokenCopiesOf 20 = .ok (.iushr, 1) := by decide +kernel
theorem dX0_brokenCopiesOf_21 : decode cX0_brokenCopiesOf 21 = .ok (.iconst 1, 1) := by decide +kernel
theorem dX0_brokenCopiesOf_22 : decode cX0_brokenCopiesOf 22 = .ok (.iand, 1) := by decide +kernel
theorem dX0_brokenCopiesOf_23 : decode cX0_brokenCopiesOf 23 = .ok (.iadd, 1) := by decide +kernel
theorem dX0_brokenCopiesOf_24 : decode cX0_brokenCopiesOf 24 = .ok (.istore_n 2, 1) := by decide +kernel
theorem dX0_brokenCopiesOf_25 : decode cX0_brokenCopiesOf 25 = .ok (.iinc 3 1, 3) := by decide +kernel
theorem dX0_brokenCopiesOf_28 : decode cX0_brokenCopiesOf 28 = .ok (.goto (-24), 3) := by decide +kernel
theorem dX0_brokenCopiesOf_31 : decode cX0_brokenCopiesOf 31 = .ok (.iload_n 2, 1) := by decide +kernel
theorem dX0_brokenCopiesOf_32 : decode cX0_brokenCopiesOf 32 = .ok (.ireturn, 1) := by decide +kernel
theorem dX0_soundHolders_0 : decode cX0_soundHolders 0 = .ok (.iconst 0, 1) := by decide +kernel
theorem dX0_soundHolders_1 : decode cX0_soundHolders 1 = .ok (.istore_n 2, 1) := by decide +kernel
theorem dX0_soundHolders_2 : decode cX0_soundHolders 2 = .ok (.iconst 0, 1) := by decide +kernel
theorem dX0_soundHolders_3 : decode cX0_soundHolders 3 = .ok (.istore_n 3, 1) := by decide +kernel
theorem dX0_soundHolders_4 : decode cX0_soundHolders 4 = .ok (.iload_n 3, 1) := by decide +kernel
theorem dX0_soundHolders_5 : decode cX0_soundHolders 5 = .ok (.aload_n 0, 1) := by decide +kernel
theorem dX0_soundHolders_6 : decode cX0_soundHolders 6 = .ok (.getfield 50, 3) := by decide +kernel
theorem dX0_soundHolders_9 : decode cX0_soundHolders 9 = .ok (.if_icmp .ge 33, 3) := by decide +kernel
theorem dX0_soundHolders_12 : decode cX0_soundHolders 12 = .ok (.aload_n 0, 1) := by decide +kernel
theorem dX0_soundHolders_13 : decode cX0_soundHolders 13 = .ok (.iload_n 1, 1) := by decide +kernel
theorem dX0_soundHolders_14 : decode cX0_soundHolders 14 = .ok (.iload_n 3, 1) := by decide +kernel
theorem dX0_soundHolders_15 : decode cX0_soundHolders 15 = .ok (.invokevirtual 104, 3) := by decide +kernel
theorem dX0_soundHolders_18 : decode cX0_soundHolders 18 = .ok (.ifCond .eq 18, 3) := by decide +kernel
theorem dX0_soundHolders_21 : decode cX0_soundHolders 21 = .ok (.aload_n 0, 1) := by decide +kernel
theorem dX0_soundHolders_22 : decode cX0_soundHolders 22 = .ok (.iload_n 1, 1) := by decide +kernel
theorem dX0_soundHolders_23 : decode cX0_soundHolders 23 = .ok (.iload_n 3, 1) := by decide +kernel
theorem dX0_soundHolders_24 : decode cX0_soundHolders 24 = .ok (.invokevirtual 108, 3) := by decide +kernel
theorem dX0_soundHolders_27 : decode cX0_soundHolders 27 = .ok (.ifCond .ne 9, 3) := by decide +kernel
theorem dX0_soundHolders_30 : decode cX0_soundHolders 30 = .ok (.iload_n 2, 1) := by decide +kernel
theorem dX0_soundHolders_31 : decode cX0_soundHolders 31 = .ok (.iconst 1, 1) := by decide +kernel
theorem dX0_soundHolders_32 : decode cX0_soundHolders 32 = .ok (.iload_n 3, 1) := by decide +kernel
theorem dX0_soundHolders_33 : decode cX0_soundHolders 33 = .ok (.ishl, 1) := by decide +kernel
theorem dX0_soundHolders_34 : decode cX0_soundHolders 34 = .ok (.ior, 1) := by decide +kernel
theorem dX0_soundHolders_35 : decode cX0_soundHolders 35 = .ok (.istore_n 2, 1) := by decide +kernel
theorem dX0_soundHolders_36 : decode cX0_soundHolders 36 = .ok (.iinc 3 1, 3) := by decide +kernel
theorem dX0_soundHolders_39 : decode cX0_soundHolders 39 = .ok (.goto (-35), 3) := by decide +kernel
theorem dX0_soundHolders_42 : decode cX0_soundHolders 42 = .ok (.iload_n 2, 1) := by decide +kernel
theorem dX0_soundHolders_43 : decode cX0_soundHolders 43 = .ok (.ireturn, 1) := by decide +kernel
theorem dX0_isInDanger_0 : decode cX0_isInDanger 0 = .ok (.aload_n 0, 1) := by decide +kernel
theorem dX0_isInDanger_1 : decode cX0_isInDanger 1 = .ok (.getfield 37, 3) := by decide +kernel
theorem dX0_isInDanger_4 : decode cX0_isInDanger 4 = .ok (.iload_n 1, 1) := by decide +kernel
theorem dX0_isInDanger_5 : decode cX0_isInDanger 5 = .ok (.iaload, 1) := by decide +kernel
theorem dX0_isInDanger_6 : decode cX0_isInDanger 6 = .ok (.invokestatic 88, 3) := by decide +kernel
theorem dX0_isInDanger_9 : decode cX0_isInDanger 9 = .ok (.aload_n 0, 1) := by decide +kernel
theorem dX0_isInDanger_10 : decode cX0_isInDanger 10 = .ok (.getfield 34, 3) := by decide +kernel
theorem dX0_isInDanger_13 : decode cX0_isInDanger 13 = .ok (.iload_n 1, 1) := by decide +kernel
theorem dX0_isInDanger_14 : decode cX0_isInDanger 14 = .ok (.iaload, 1) := by decide +kernel
theorem dX0_isInDanger_15 : decode cX0_isInDanger 15 = .ok (.if_icmp .ge 7, 3) := by decide +kernel
theorem dX0_isInDanger_18 : decode cX0_isInDanger 18 = .ok (.iconst 1, 1) := by decide +kernel
theorem dX0_isInDanger_19 : decode cX0_isInDanger 19 = .ok (.goto 4, 3) := by decide +kernel
theorem dX0_isInDanger_22 : decode cX0_isInDanger 22 = .ok (.iconst 0, 1) := by decide +kernel
theorem dX0_isInDanger_23 : decode cX0_isInDanger 23 = .ok (.ireturn, 1) := by decide +kernel
theorem dX0_isTrulyInDanger_0 : decode cX0_isTrulyInDanger 0 = .ok (.aload_n 0, 1) := by decide +kernel
theorem dX0_isTrulyInDanger_1 : decode cX0_isTrulyInDanger 1 = .ok (.iload_n 1, 1) := by decide +kernel
theorem dX0_isTrulyInDanger_2 : decode cX0_isTrulyInDanger 2 = .ok (.invokevirtual 101, 3) := by decide +kernel
theorem dX0_isTrulyInDanger_5 : decode cX0_isTrulyInDanger 5 = .ok (.invokestatic 88, 3) := by decide +kernel
theorem dX0_isTrulyInDanger_8 : decode cX0_isTrulyInDanger 8 = .ok (.aload_n 0, 1) := by decide +kernel
theorem dX0_isTrulyInDanger_9 : decode cX0_isTrulyInDanger 9 = .ok (.getfield 34, 3) := by decide +kernel
theorem dX0_isTrulyInDanger_12 : decode cX0_isTrulyInDanger 12 = .ok (.iload_n 1, 1) := by decide +kernel
theorem dX0_isTrulyInDanger_13 : decode cX0_isTrulyInDanger 13 = .ok (.iaload, 1) := by decide +kernel
theorem dX0_isTrulyInDanger_14 : decode cX0_isTrulyInDanger 14 = .ok (.if_icmp .ge 7, 3) := by decide +kernel
theorem dX0_isTrulyInDanger_17 : decode cX0_isTrulyInDanger 17 = .ok (.iconst 1, 1) := by decide +kernel
theorem dX0_isTrulyInDanger_18 : decode cX0_isTrulyInDanger 18 = .ok (.goto 4, 3) := by decide +kernel
theorem dX0_isTrulyInDanger_21 : decode cX0_isTrulyInDanger 21 = .ok (.iconst 0, 1) := by decide +kernel
theorem dX0_isTrulyInDanger_22 : decode cX0_isTrulyInDanger 22 = .ok (.ireturn, 1) := by decide +kernel
theorem dX0_picturesInDanger_0 : decode cX0_picturesInDanger 0 = .ok (.iconst 0, 1) := by decide +kernel
theorem dX0_picturesInDanger_1 : decode cX0_picturesInDanger 1 = .ok (.istore_n 1, 1) := by decide +kernel
theorem dX0_picturesInDanger_2 : decode cX0_picturesInDanger 2 = .ok (.iconst 0, 1) := by decide +kernel
theorem dX0_picturesInDanger_3 : decode cX0_picturesInDanger 3 = .ok (.istore_n 2, 1) := by decide +kernel
theorem dX0_picturesInDanger_4 : decode cX0_picturesInDanger 4 = .ok (.iload_n 2, 1) := by decide +kernel
theorem dX0_picturesInDanger_5 : decode cX0_picturesInDanger 5 = .ok (.aload_n 0, 1) := by decide +kernel
theorem dX0_picturesInDanger_6 : decode cX0_picturesInDanger 6 = .ok (.getfield 53, 3) := by decide +kernel
theorem dX0_picturesInDanger_9 : decode cX0_picturesInDanger 9 = .ok (.if_icmp .ge 20, 3) := by decide +kernel
theorem dX0_picturesInDanger_12 : decode cX0_picturesInDanger 12 = .ok (.aload_n 0, 1) := by decide +kernel
theorem dX0_picturesInDanger_13 : decode cX0_picturesInDanger 13 = .ok (.iload_n 2, 1) := by decide +kernel
theorem dX0_picturesInDanger_14 : decode cX0_picturesInDanger 14 = .ok (.invokevirtual 111, 3) := by decide +kernel
theorem dX0_picturesInDanger_17 : decode cX0_picturesInDanger 17 = .ok (.ifCond .eq 6, 3) := by decide +kernel
theorem dX0_picturesInDanger_20 : decode cX0_picturesInDanger 20 = .ok (.iinc 1 1, 3) := by decide +kernel
theorem dX0_picturesInDanger_23 : decode cX0_picturesInDanger 23 = .ok (.iinc 2 1, 3) := by decide +kernel
theorem dX0_picturesInDanger_26 : decode cX0_picturesInDanger 26 = .ok (.goto (-22), 3) := by decide +kernel
theorem dX0_picturesInDanger_29 : decode cX0_picturesInDanger 29 = .ok (.iload_n 1, 1) := by decide +kernel
theorem dX0_picturesInDanger_30 : decode cX0_picturesInDanger 30 = .ok (.ireturn, 1) := by decide +kernel
theorem dX0_picturesTrulyInDanger_0 : decode cX0_picturesTrulyInDanger 0 = .ok (.iconst 0, 1) := by decide +kernel
theorem dX0_picturesTrulyInDanger_1 : decode cX0_picturesTrulyInDanger 1 = .ok (.istore_n 1, 1) := by decide +kernel
theorem dX0_picturesTrulyInDanger_2 : decode cX0_picturesTrulyInDanger 2 = .ok (.iconst 0, 1) := by decide +kernel
theorem dX0_picturesTrulyInDanger_3 : decode cX0_picturesTrulyInDanger 3 = .ok (.istore_n 2, 1) := by decide +kernel
theorem dX0_picturesTrulyInDanger_4 : decode cX0_picturesTrulyInDanger 4 = .ok (.iload_n 2, 1) := by decide +kernel
theorem dX0_picturesTrulyInDanger_5 : decode cX0_picturesTrulyInDanger 5 = .ok (.aload_n 0, 1) := by decide +kernel
theorem dX0_picturesTrulyInDanger_6 : decode cX0_picturesTrulyInDanger 6 = .ok (.getfield 53, 3) := by decide +kernel
theorem dX0_picturesTrulyInDanger_9 : decode cX0_picturesTrulyInDanger 9 = .ok (.if_icmp .ge 20, 3) := by decide +kernel
theorem dX0_picturesTrulyInDanger_12 : decode cX0_picturesTrulyInDanger 12 = .ok (.aload_n 0, 1) := by decide +kernel
theorem dX0_picturesTrulyInDanger_13 : decode cX0_picturesTrulyInDanger 13 = .ok (.iload_n 2, 1) := by decide +kernel
theorem dX0_picturesTrulyInDanger_14 : decode cX0_picturesTrulyInDanger 14 = .ok (.invokevirtual 115, 3) := by decide +kernel
theorem dX0_picturesTrulyInDanger_17 : decode cX0_picturesTrulyInDanger 17 = .ok (.ifCond .eq 6, 3) := by decide +kernel
theorem dX0_picturesTrulyInDanger_20 : decode cX0_picturesTrulyInDanger 20 = .ok (.iinc 1 1, 3) := by decide +kernel
theorem dX0_picturesTrulyInDanger_23 : decode cX0_picturesTrulyInDanger 23 = .ok (.iinc 2 1, 3) := by decide +kernel
theorem dX0_picturesTrulyInDanger_26 : decode cX0_picturesTrulyInDanger 26 = .ok (.goto (-22), 3) := by decide +kernel
theorem dX0_picturesTrulyInDanger_29 : decode cX0_picturesTrulyInDanger 29 = .ok (.iload_n 1, 1) := by decide +kernel
theorem dX0_picturesTrulyInDanger_30 : decode cX0_picturesTrulyInDanger 30 = .ok (.ireturn, 1) := by decide +kernel
theorem dX0_spoilCopiesOf_0 : decode cX0_spoilCopiesOf 0 = .ok (.iconst 0, 1) := by decide +kernel
theorem dX0_spoilCopiesOf_1 : decode cX0_spoilCopiesOf 1 = .ok (.istore_n 3, 1) := by decide +kernel
theorem dX0_spoilCopiesOf_2 : decode cX0_spoilCopiesOf 2 = .ok (.iload_n 3, 1) := by decide +kernel
theorem dX0_spoilCopiesOf_3 : decode cX0_spoilCopiesOf 3 = .ok (.aload_n 0, 1) := by decide +kernel
theorem dX0_spoilCopiesOf_4 : decode cX0_spoilCopiesOf 4 = .ok (.getfield 53, 3) := by decide +kernel
theorem dX0_spoilCopiesOf_7 : decode cX0_spoilCopiesOf 7 = .ok (.if_icmp .ge 32, 3) := by decide +kernel
theorem dX0_spoilCopiesOf_10 : decode cX0_spoilCopiesOf 10 = .ok (.aload_n 0, 1) := by decide +kernel
theorem dX0_spoilCopiesOf_11 : decode cX0_spoilCopiesOf 11 = .ok (.iload_n 3, 1) := by decide +kernel
theorem dX0_spoilCopiesOf_12 : decode cX0_spoilCopiesOf 12 = .ok (.iload_n 1, 1) := by decide +kernel
theorem dX0_spoilCopiesOf_13 : decode cX0_spoilCopiesOf 13 = .ok (.invokevirtual 118, 3) := by decide +kernel
theorem dX0_spoilCopiesOf_16 : decode cX0_spoilCopiesOf 16 = .ok (.ifCond .eq 17, 3) := by decide +kernel
theorem dX0_spoilCopiesOf_19 : decode cX0_spoilCopiesOf 19 = .ok (.aload_n 0, 1) := by decide +kernel
theorem dX0_spoilCopiesOf_20 : decode cX0_spoilCopiesOf 20 = .ok (.getfield 43, 3) := by decide +kernel
theorem dX0_spoilCopiesOf_23 : decode cX0_spoilCopiesOf 23 = .ok (.iload_n 3, 1) := by decide +kernel
theorem dX0_spoilCopiesOf_24 : decode cX0_spoilCopiesOf 24 = .ok (.iload_n 1, 1) := by decide +kernel
theorem dX0_spoilCopiesOf_25 : decode cX0_spoilCopiesOf 25 = .ok (.invokestatic 77, 3) := by decide +kernel
theorem dX0_spoilCopiesOf_28 : decode cX0_spoilCopiesOf 28 = .ok (.dup2, 1) := by decide +kernel
theorem dX0_spoilCopiesOf_29 : decode cX0_spoilCopiesOf 29 = .ok (.iaload, 1) := by decide +kernel
theorem dX0_spoilCopiesOf_30 : decode cX0_spoilCopiesOf 30 = .ok (.iload_n 2, 1) := by decide +kernel
theorem dX0_spoilCopiesOf_31 : decode cX0_spoilCopiesOf 31 = .ok (.ior, 1) := by decide +kernel
theorem dX0_spoilCopiesOf_32 : decode cX0_spoilCopiesOf 32 = .ok (.iastore, 1) := by decide +kernel
theorem dX0_spoilCopiesOf_33 : decode cX0_spoilCopiesOf 33 = .ok (.iinc 3 1, 3) := by decide +kernel
theorem dX0_spoilCopiesOf_36 : decode cX0_spoilCopiesOf 36 = .ok (.goto (-34), 3) := by decide +kernel
theorem dX0_spoilCopiesOf_39 : decode cX0_spoilCopiesOf 39 = .ok (.return_, 1) := by decide +kernel
theorem dX0_trustOf_0 : decode cX0_trustOf 0 = .ok (.aload_n 0, 1) := by decide +kernel
theorem dX0_trustOf_1 : decode cX0_trustOf 1 = .ok (.getfield 22, 3) := by decide +kernel
theorem dX0_trustOf_4 : decode cX0_trustOf 4 = .ok (.iload_n 1, 1) := by decide +kernel
theorem dX0_trustOf_5 : decode cX0_trustOf 5 = .ok (.iaload, 1) := by decide +kernel
theorem dX0_trustOf_6 : decode cX0_trustOf 6 = .ok (.aload_n 0, 1) := by decide +kernel
theorem dX0_trustOf_7 : decode cX0_trustOf 7 = .ok (.getfield 25, 3) := by decide +kernel
theorem dX0_trustOf_10 : decode cX0_trustOf 10 = .ok (.iload_n 1, 1) := by decide +kernel
theorem dX0_trustOf_11 : decode cX0_trustOf 11 = .ok (.iaload, 1) := by decide +kernel
theorem dX0_trustOf_12 : decode cX0_trustOf 12 = .ok (.iadd, 1) := by decide +kernel
theorem dX0_trustOf_13 : decode cX0_trustOf 13 = .ok (.iconst 2, 1) := by decide +kernel
theorem dX0_trustOf_14 : decode cX0_trustOf 14 = .ok (.iadd, 1) := by decide +kernel
theorem dX0_trustOf_15 : decode cX0_trustOf 15 = .ok (.istore_n 2, 1) := by decide +kernel
theorem dX0_trustOf_16 : decode cX0_trustOf 16 = .ok (.iload_n 2, 1) := by decide +kernel
theorem dX0_trustOf_17 : decode cX0_trustOf 17 = .ok (.ifCond .le 19, 3) := by decide +kernel
theorem dX0_trustOf_20 : decode cX0_trustOf 20 = .ok (.bipush 100, 2) := by decide +kernel
theorem dX0_trustOf_22 : decode cX0_trustOf 22 = .ok (.aload_n 0, 1) := by decide +kernel
theorem dX0_trustOf_23 : decode cX0_trustOf 23 = .ok (.getfield 22, 3) := by decide +kernel
theorem dX0_trustOf_26 : decode cX0_trustOf 26 = .ok (.iload_n 1, 1) := by decide +kernel
theorem dX0_trustOf_27 : decode cX0_trustOf 27 = .ok (.iaload, 1) := by decide +kernel
theorem dX0_trustOf_28 : decode cX0_trustOf 28 = .ok (.iconst 1, 1) := by decide +kernel
theorem dX0_trustOf_29 : decode cX0_trustOf 29 = .ok (.iadd, 1) := by decide +kernel
theorem dX0_trustOf_30 : decode cX0_trustOf 30 = .ok (.imul, 1) := by decide +kernel
theorem dX0_trustOf_31 : decode cX0_trustOf 31 = .ok (.iload_n 2, 1) := by decide +kernel
theorem dX0_trustOf_32 : decode cX0_trustOf 32 = .ok (.idiv, 1) := by decide +kernel
theorem dX0_trustOf_33 : decode cX0_trustOf 33 = .ok (.goto 4, 3) := by decide +kernel
theorem dX0_trustOf_36 : decode cX0_trustOf 36 = .ok (.iconst 0, 1) := by decide +kernel
theorem dX0_trustOf_37 : decode cX0_trustOf 37 = .ok (.ireturn, 1) := by decide +kernel
theorem dX0_answersRight_0 : decode cX0_answersRight 0 = .ok (.aload_n 0, 1) := by decide +kernel
theorem dX0_answersRight_1 : decode cX0_answersRight 1 = .ok (.dup, 1) := by decide +kernel
theorem dX0_answersRight_2 : decode cX0_answersRight 2 = .ok (.getfield 56, 3) := by decide +kernel
theorem dX0_answersRight_5 : decode cX0_answersRight 5 = .ok (.iconst 1, 1) := by decide +kernel
theorem dX0_answersRight_6 : decode cX0_answersRight 6 = .ok (.iadd, 1) := by decide +kernel
theorem dX0_answersRight_7 : decode cX0_answersRight 7 = .ok (.putfield 56, 3) := by decide +kernel
theorem dX0_answersRight_10 : decode cX0_answersRight 10 = .ok (.aload_n 0, 1) := by decide +kernel
theorem dX0_answersRight_11 : decode cX0_answersRight 11 = .ok (.iload_n 1, 1) := by decide +kernel
theorem dX0_answersRight_12 : decode cX0_answersRight 12 = .ok (.iload_n 2, 1) := by decide +kernel
theorem dX0_answersRight_13 : decode cX0_answersRight 13 = .ok (.invokevirtual 108, 3) := by decide +kernel
theorem dX0_answersRight_16 : decode cX0_answersRight 16 = .ok (.iload_n 3, 1) := by decide +kernel
theorem dX0_answersRight_17 : decode cX0_answersRight 17 = .ok (.iushr, 1) := by decide +kernel
theorem dX0_answersRight_18 : decode cX0_answersRight 18 = .ok (.iconst 1, 1) := by decide +kernel
theorem dX0_answersRight_19 : decode cX0_answersRight 19 = .ok (.iand, 1) := by decide +kernel
theorem dX0_answersRight_20 : decode cX0_answersRight 20 = .ok (.ifCond .ne 15, 3) := by decide +kernel
theorem dX0_answersRight_23 : decode cX0_answersRight 23 = .ok (.aload_n 0, 1) := by decide +kernel
theorem dX0_answersRight_24 : decode cX0_answersRight 24 = .ok (.getfield 22, 3) := by decide +kernel
theorem dX0_answersRight_27 : decode cX0_answersRight 27 = .ok (.iload_n 2, 1) := by decide +kernel
theorem dX0_answersRight_28 : decode cX0_answersRight 28 = .ok (.dup2, 1) := by decide +kernel
theorem dX0_answersRight_29 : decode cX0_answersRight 29 = .ok (.iaload, 1) := by decide +kernel
theorem dX0_answersRight_30 : decode cX0_answersRight 30 = .ok (.iconst 1, 1) := by decide +kernel
theorem dX0_answersRight_31 : decode cX0_answersRight 31 = .ok (.iadd, 1) := by decide +kernel
theorem dX0_answersRight_32 : decode cX0_answersRight 32 = .ok (.iastore, 1) := by decide +kernel
theorem dX0_answersRight_33 : decode cX0_answersRight 33 = .ok (.iconst 1, 1) := by decide +kernel
theorem dX0_answersRight_34 : decode cX0_answersRight 34 = .ok (.ireturn, 1) := by decide +kernel
theorem dX0_answersRight_35 : decode cX0_answersRight 35 = .ok (.aload_n 0, 1) := by decide +kernel
theorem dX0_answersRight_36 : decode cX0_answersRight 36 = .ok (.getfield 25, 3) := by decide +kernel
theorem dX0_answersRight_39 : decode cX0_answersRight 39 = .ok (.iload_n 2, 1) := by decide +kernel
theorem dX0_answersRight_40 : decode cX0_answersRight 40 = .ok (.dup2, 1) := by decide +kernel
theorem dX0_answersRight_41 : decode cX0_answersRight 41 = .ok (.iaload, 1) := by decide +kernel
theorem dX0_answersRight_42 : decode cX0_answersRight 42 = .ok (.iconst 1, 1) := by decide +kernel
theorem dX0_answersRight_43 : decode cX0_answersRight 43 = .ok (.iadd, 1) := by decide +kernel
theorem dX0_answersRight_44 : decode cX0_answersRight 44 = .ok (.iastore, 1) := by decide +kernel
theorem dX0_answersRight_45 : decode cX0_answersRight 45 = .ok (.aload_n 0, 1) := by decide +kernel
theorem dX0_answersRight_46 : decode cX0_answersRight 46 = .ok (.getfield 37, 3) := by decide +kernel
theorem dX0_answersRight_49 : decode cX0_answersRight 49 = .ok (.iload_n 1, 1) := by decide +kernel
theorem dX0_answersRight_50 : decode cX0_answersRight 50 = .ok (.dup2, 1) := by decide +kernel
theorem dX0_answersRight_51 : decode cX0_answersRight 51 = .ok (.iaload, 1) := by decide +kernel
theorem dX0_answersRight_52 : decode cX0_answersRight 52 = .ok (.iconst 1, 1) := by decide +kernel
theorem dX0_answersRight_53 : decode cX0_answersRight 53 = .ok (.iload_n 2, 1) := by decide +kernel
theorem dX0_answersRight_54 : decode cX0_answersRight 54 = .ok (.ishl, 1) := by decide +kernel
theorem dX0_answersRight_55 : decode cX0_answersRight 55 = .ok (.iconst (-1), 1) := by decide +kernel
theorem dX0_answersRight_56 : decode cX0_answersRight 56 = .ok (.ixor, 1) := by decide +kernel
theorem dX0_answersRight_57 : decode cX0_answersRight 57 = .ok (.iand, 1) := by decide +kernel
theorem dX0_answersRight_58 : decode cX0_answersRight 58 = .ok (.iastore, 1) := by decide +kernel
theorem dX0_answersRight_59 : decode cX0_answersRight 59 = .ok (.aload_n 0, 1) := by decide +kernel
theorem dX0_answersRight_60 : decode cX0_answersRight 60 = .ok (.getfield 40, 3) := by decide +kernel
theorem dX0_answersRight_63 : decode cX0_answersRight 63 = .ok (.iload_n 1, 1) := by decide +kernel
theorem dX0_answersRight_64 : decode cX0_answersRight 64 = .ok (.dup2, 1) := by decide +kernel
theorem dX0_answersRight_65 : decode cX0_answersRight 65 = .ok (.iaload, 1) := by decide +kernel
theorem dX0_answersRight_66 : decode cX0_answersRight 66 = .ok (.iconst 1, 1) := by decide +kernel
theorem dX0_answersRight_67 : decode cX0_answersRight 67 = .ok (.iload_n 2, 1) := by decide +kernel
theorem dX0_answersRight_68 : decode cX0_answersRight 68 = .ok (.ishl, 1) := by decide +kernel
theorem dX0_answersRight_69 : decode cX0_answersRight 69 = .ok (.ior, 1) := by decide +kernel
theorem dX0_answersRight_70 : decode cX0_answersRight 70 = .ok (.iastore, 1) := by decide +kernel
theorem dX0_answersRight_71 : decode cX0_answersRight 71 = .ok (.iconst 0, 1) := by decide +kernel
theorem dX0_answersRight_72 : decode cX0_answersRight 72 = .ok (.ireturn, 1) := by decide +kernel
theorem dX0_askRound_0 : decode cX0_askRound 0 = .ok (.iload_n 1, 1) := by decide +kernel
theorem dX0_askRound_1 : decode cX0_askRound 1 = .ok (.istore_n 2, 1) := by decide +kernel
theorem dX0_askRound_2 : decode cX0_askRound 2 = .ok (.iconst 0, 1) := by decide +kernel
theorem dX0_askRound_3 : decode cX0_askRound 3 = .ok (.istore_n 3, 1) := by decide +kernel
theorem dX0_askRound_4 : decode cX0_askRound 4 = .ok (.iload_n 3, 1) := by decide +kernel
theorem dX0_askRound_5 : decode cX0_askRound 5 = .ok (.aload_n 0, 1) := by decide +kernel
theorem dX0_askRound_6 : decode cX0_askRound 6 = .ok (.getfield 53, 3) := by decide +kernel
theorem dX0_askRound_9 : decode cX0_askRound 9 = .ok (.if_icmp .ge 62, 3) := by decide +kernel
theorem dX0_askRound_12 : decode cX0_askRound 12 = .ok (.iconst 0, 1) := by decide +kernel
theorem dX0_askRound_13 : decode cX0_askRound 13 = .ok (.istore 4, 2) := by decide +kernel
theorem dX0_askRound_15 : decode cX0_askRound 15 = .ok (.iload 4, 2) := by decide +kernel
theorem dX0_askRound_17 : decode cX0_askRound 17 = .ok (.aload_n 0, 1) := by decide +kernel
theorem dX0_askRound_18 : decode cX0_askRound 18 = .ok (.getfield 50, 3) := by decide +kernel
theorem dX0_askRound_21 : decode cX0_askRound 21 = .ok (.if_icmp .ge 44, 3) := by decide +kernel
theorem dX0_askRound_24 : decode cX0_askRound 24 = .ok (.aload_n 0, 1) := by decide +kernel
theorem dX0_askRound_25 : decode cX0_askRound 25 = .ok (.iload_n 3, 1) := by decide +kernel
theorem dX0_askRound_26 : decode cX0_askRound 26 = .ok (.iload 4, 2) := by decide +kernel
theorem dX0_askRound_28 : decode cX0_askRound 28 = .ok (.invokevirtual 104, 3) := by decide +kernel
theorem dX0_askRound_31 : decode cX0_askRound 31 = .ok (.ifCond .eq 28, 3) := by decide +kernel
theorem dX0_askRound_34 : decode cX0_askRound 34 = .ok (.ldc 121, 2) := by decide +kernel
theorem dX0_askRound_36 : decode cX0_askRound 36 = .ok (.iload_n 2, 1) := by decide +kernel
theorem dX0_askRound_37 : decode cX0_askRound 37 = .ok (.imul, 1) := by decide +kernel
theorem dX0_askRound_38 : decode cX0_askRound 38 = .ok (.sipush 12345, 3) := by decide +kernel
theorem dX0_askRound_41 : decode cX0_askRound 41 = .ok (.iadd, 1) := by decide +kernel
theorem dX0_askRound_42 : decode cX0_askRound 42 = .ok (.ldc 122, 2) := by decide +kernel
theorem dX0_askRound_44 : decode cX0_askRound 44 = .ok (.iand, 1) := by decide +kernel
theorem dX0_askRound_45 : decode cX0_askRound 45 = .ok (.istore_n 2, 1) := by decide +kernel
theorem dX0_askRound_46 : decode cX0_askRound 46 = .ok (.aload_n 0, 1) := by decide +kernel
theorem dX0_askRound_47 : decode cX0_askRound 47 = .ok (.iload_n 3, 1) := by decide +kernel
theorem dX0_askRound_48 : decode cX0_askRound 48 = .ok (.iload 4, 2) := by decide +kernel
theorem dX0_askRound_50 : decode cX0_askRound 50 = .ok (.aload_n 0, 1) := by decide +kernel
theorem dX0_askRound_51 : decode cX0_askRound 51 = .ok (.iload_n 2, 1) := by decide +kernel
theorem dX0_askRound_52 : decode cX0_askRound 52 = .ok (.invokevirtual 123, 3) := by decide +kernel
theorem dX0_askRound_55 : decode cX0_askRound 55 = .ok (.invokevirtual 126, 3) := by decide +kernel
theorem dX0_askRound_58 : decode cX0_askRound 58 = .ok (.pop, 1) := by decide +kernel
theorem dX0_askRound_59 : decode cX0_askRound 59 = .ok (.iinc 4 1, 3) := by decide +kernel
theorem dX0_askRound_62 : decode cX0_askRound 62 = .ok (.goto (-47), 3) := by decide +kernel
theorem dX0_askRound_65 : decode cX0_askRound 65 = .ok (.iinc 3 1, 3) := by decide +kernel
theorem dX0_askRound_68 : decode cX0_askRound 68 = .ok (.goto (-64), 3) := by decide +kernel
theorem dX0_askRound_71 : decode cX0_askRound 71 = .ok (.iload_n 2, 1) := by decide +kernel
theorem dX0_askRound_72 : decode cX0_askRound 72 = .ok (.ireturn, 1) := by decide +kernel
theorem dX0_tileFor_0 : decode cX0_tileFor 0 = .ok (.aload_n 0, 1) := by decide +kernel
theorem dX0_tileFor_1 : decode cX0_tileFor 1 = .ok (.getfield 46, 3) := by decide +kernel
theorem dX0_tileFor_4 : decode cX0_tileFor 4 = .ok (.ifCond .le 15, 3) := by decide +kernel
theorem dX0_tileFor_7 : decode cX0_tileFor 7 = .ok (.iload_n 1, 1) := by decide +kernel
theorem dX0_tileFor_8 : decode cX0_tileFor 8 = .ok (.ldc 130, 2) := by decide +kernel
theorem dX0_tileFor_10 : decode cX0_tileFor 10 = .ok (.idiv, 1) := by decide +kernel
theorem dX0_tileFor_11 : decode cX0_tileFor 11 = .ok (.aload_n 0, 1) := by decide +kernel
theorem dX0_tileFor_12 : decode cX0_tileFor 12 = .ok (.getfield 46, 3) := by decide +kernel
theorem dX0_tileFor_15 : decode cX0_tileFor 15 = .ok (.irem, 1) := by decide +kernel
theorem dX0_tileFor_16 : decode cX0_tileFor 16 = .ok (.goto 4, 3) := by decide +kernel
theorem dX0_tileFor_19 : decode cX0_tileFor 19 = .ok (.iconst 0, 1) := by decide +kernel
theorem dX0_tileFor_20 : decode cX0_tileFor 20 = .ok (.ireturn, 1) := by decide +kernel
theorem dX0_chanceOfRightAnswers_0 : decode cX0_chanceOfRightAnswers 0 = .ok (.aload_n 0, 1) := by decide +kernel
theorem dX0_chanceOfRightAnswers_1 : decode cX0_chanceOfRightAnswers 1 = .ok (.getfield 46, 3) := by decide +kernel
theorem dX0_chanceOfRightAnswers_4 : decode cX0_chanceOfRightAnswers 4 = .ok (.aload_n 0, 1) := by decide +kernel
theorem dX0_chanceOfRightAnswers_5 : decode cX0_chanceOfRightAnswers 5 = .ok (.iload_n 1, 1) := by decide +kernel
theorem dX0_chanceOfRightAnswers_6 : decode cX0_chanceOfRightAnswers 6 = .ok (.iload_n 2, 1) := by decide +kernel
theorem dX0_chanceOfRightAnswers_7 : decode cX0_chanceOfRightAnswers 7 = .ok (.invokevirtual 108, 3) := by decide +kernel
theorem dX0_chanceOfRightAnswers_10 : decode cX0_chanceOfRightAnswers 10 = .ok (.invokestatic 88, 3) := by decide +kernel
theorem dX0_chanceOfRightAnswers_13 : decode cX0_chanceOfRightAnswers 13 = .ok (.isub, 1) := by decide +kernel
theorem dX0_chanceOfRightAnswers_14 : decode cX0_chanceOfRightAnswers 14 = .ok (.istore 4, 2) := by decide +kernel
theorem dX0_chanceOfRightAnswers_16 : decode cX0_chanceOfRightAnswers 16 = .ok (.dconst 1, 1) := by decide +kernel
theorem dX0_chanceOfRightAnswers_17 : decode cX0_chanceOfRightAnswers 17 = .ok (.dstore 5, 2) := by decide +kernel
theorem dX0_chanceOfRightAnswers_19 : decode cX0_chanceOfRightAnswers 19 = .ok (.iconst 0, 1) := by decide +kernel
theorem dX0_chanceOfRightAnswers_20 : decode cX0_chanceOfRightAnswers 20 = .ok (.istore 7, 2) := by decide +kernel
theorem dX0_chanceOfRightAnswers_22 : decode cX0_chanceOfRightAnswers 22 = .ok (.iload 7, 2) := by decide +kernel
theorem dX0_chanceOfRightAnswers_24 : decode cX0_chanceOfRightAnswers 24 = .ok (.iload_n 3, 1) := by decide +kernel
theorem dX0_chanceOfRightAnswers_25 : decode cX0_chanceOfRightAnswers 25 = .ok (.if_icmp .ge 49, 3) := by decide +kernel
theorem dX0_chanceOfRightAnswers_28 : decode cX0_chanceOfRightAnswers 28 = .ok (.iload 4, 2) := by decide +kernel
theorem dX0_chanceOfRightAnswers_30 : decode cX0_chanceOfRightAnswers 30 = .ok (.iload 7, 2) := by decide +kernel
theorem dX0_chanceOfRightAnswers_32 : decode cX0_chanceOfRightAnswers 32 = .ok (.isub, 1) := by decide +kernel
theorem dX0_chanceOfRightAnswers_33 : decode cX0_chanceOfRightAnswers 33 = .ok (.ifCond .le 13, 3) := by decide +kernel
theorem dX0_chanceOfRightAnswers_36 : decode cX0_chanceOfRightAnswers 36 = .ok (.aload_n 0, 1) := by decide +kernel
theorem dX0_chanceOfRightAnswers_37 : decode cX0_chanceOfRightAnswers 37 = .ok (.getfield 46, 3) := by decide +kernel
theorem dX0_chanceOfRightAnswers_40 : decode cX0_chanceOfRightAnswers 40 = .ok (.iload 7, 2) := by decide +kernel
theorem dX0_chanceOfRightAnswers_42 : decode cX0_chanceOfRightAnswers 42 = .ok (.isub, 1) := by decide +kernel
theorem dX0_chanceOfRightAnswers_43 : decode cX0_chanceOfRightAnswers 43 = .ok (.ifCond .gt 5, 3) := by decide +kernel
theorem dX0_chanceOfRightAnswers_46 : decode cX0_chanceOfRightAnswers 46 = .ok (.dconst 0, 1) := by decide +kernel
theorem dX0_chanceOfRightAnswers_47 : decode cX0_chanceOfRightAnswers 47 = .ok (.dreturn, 1) := by decide +kernel
theorem dX0_chanceOfRightAnswers_48 : decode cX0_chanceOfRightAnswers 48 = .ok (.dload 5, 2) := by decide +kernel
theorem dX0_chanceOfRightAnswers_50 : decode cX0_chanceOfRightAnswers 50 = .ok (.iload 4, 2) := by decide +kernel
theorem dX0_chanceOfRightAnswers_52 : decode cX0_chanceOfRightAnswers 52 = .ok (.iload 7, 2) := by decide +kernel
theorem dX0_chanceOfRightAnswers_54 : decode cX0_chanceOfRightAnswers 54 = .ok (.isub, 1) := by decide +kernel
theorem dX0_chanceOfRightAnswers_55 : decode cX0_chanceOfRightAnswers 55 = .ok (.i2d, 1) := by decide +kernel
theorem dX0_chanceOfRightAnswers_56 : decode cX0_chanceOfRightAnswers 56 = .ok (.aload_n 0, 1) := by decide +kernel
theorem dX0_chanceOfRightAnswers_57 : decode cX0_chanceOfRightAnswers 57 = .ok (.getfield 46, 3) := by decide +kernel
theorem dX0_chanceOfRightAnswers_60 : decode cX0_chanceOfRightAnswers 60 = .ok (.iload 7, 2) := by decide +kernel
theorem dX0_chanceOfRightAnswers_62 : decode cX0_chanceOfRightAnswers 62 = .ok (.isub, 1) := by decide +kernel
theorem dX0_chanceOfRightAnswers_63 : decode cX0_chanceOfRightAnswers 63 = .ok (.i2d, 1) := by decide +kernel
theorem dX0_chanceOfRightAnswers_64 : decode cX0_chanceOfRightAnswers 64 = .ok (.ddiv, 1) := by decide +kernel
theorem dX0_chanceOfRightAnswers_65 : decode cX0_chanceOfRightAnswers 65 = .ok (.dmul, 1) := by decide +kernel
theorem dX0_chanceOfRightAnswers_66 : decode cX0_chanceOfRightAnswers 66 = .ok (.dstore 5, 2) := by decide +kernel
theorem dX0_chanceOfRightAnswers_68 : decode cX0_chanceOfRightAnswers 68 = .ok (.iinc 7 1, 3) := by decide +kernel
theorem dX0_chanceOfRightAnswers_71 : decode cX0_chanceOfRightAnswers 71 = .ok (.goto (-49), 3) := by decide +kernel
theorem dX0_chanceOfRightAnswers_74 : decode cX0_chanceOfRightAnswers 74 = .ok (.dload 5, 2) := by decide +kernel
theorem dX0_chanceOfRightAnswers_76 : decode cX0_chanceOfRightAnswers 76 = .ok (.dreturn, 1) := by decide +kernel
theorem dX0_mostSpoiledTile_0 : decode cX0_mostSpoiledTile 0 = .ok (.iconst (-1), 1) := by decide +kernel
theorem dX0_mostSpoiledTile_1 : decode cX0_mostSpoiledTile 1 = .ok (.istore_n 2, 1) := by decide +kernel
theorem dX0_mostSpoiledTile_2 : decode cX0_mostSpoiledTile 2 = .ok (.iconst 0, 1) := by decide +kernel
theorem dX0_mostSpoiledTile_3 : decode cX0_mostSpoiledTile 3 = .ok (.istore_n 3, 1) := by decide +kernel
theorem dX0_mostSpoiledTile_4 : decode cX0_mostSpoiledTile 4 = .ok (.iconst 0, 1) := by decide +kernel
theorem dX0_mostSpoiledTile_5 : decode cX0_mostSpoiledTile 5 = .ok (.istore 4, 2) := by decide +kernel
theorem dX0_mostSpoiledTile_7 : decode cX0_mostSpoiledTile 7 = .ok (.iload 4, 2) := by decide +kernel
theorem dX0_mostSpoiledTile_9 : decode cX0_mostSpoiledTile 9 = .ok (.aload_n 0, 1) := by decide +kernel
theorem dX0_mostSpoiledTile_10 : decode cX0_mostSpoiledTile 10 = .ok (.getfield 46, 3) := by decide +kernel
theorem dX0_mostSpoiledTile_13 : decode cX0_mostSpoiledTile 13 = .ok (.if_icmp .ge 30, 3) := by decide +kernel
theorem dX0_mostSpoiledTile_16 : decode cX0_mostSpoiledTile 16 = .ok (.aload_n 0, 1) := by decide +kernel
theorem dX0_mostSpoiledTile_17 : decode cX0_mostSpoiledTile 17 = .ok (.iload_n 1, 1) := by decide +kernel
theorem dX0_mostSpoiledTile_18 : decode cX0_mostSpoiledTile 18 = .ok (.iload 4, 2) := by decide +kernel
theorem dX0_mostSpoiledTile_20 : decode cX0_mostSpoiledTile 20 = .ok (.invokevirtual 131, 3) := by decide +kernel
theorem dX0_mostSpoiledTile_23 : decode cX0_mostSpoiledTile 23 = .ok (.istore 5, 2) := by decide +kernel
theorem dX0_mostSpoiledTile_25 : decode cX0_mostSpoiledTile 25 = .ok (.iload 5, 2) := by decide +kernel
theorem dX0_mostSpoiledTile_27 : decode cX0_mostSpoiledTile 27 = .ok (.iload_n 3, 1) := by decide +kernel
theorem dX0_mostSpoiledTile_28 : decode cX0_mostSpoiledTile 28 = .ok (.if_icmp .le 9, 3) := by decide +kernel
theorem dX0_mostSpoiledTile_31 : decode cX0_mostSpoiledTile 31 = .ok (.iload 5, 2) := by decide +kernel
theorem dX0_mostSpoiledTile_33 : decode cX0_mostSpoiledTile 33 = .ok (.istore_n 3, 1) := by decide +kernel
theorem dX0_mostSpoiledTile_34 : decode cX0_mostSpoiledTile 34 = .ok (.iload 4, 2) := by decide +kernel
theorem dX0_mostSpoiledTile_36 : decode cX0_mostSpoiledTile 36 = .ok (.istore_n 2, 1) := by decide +kernel
theorem dX0_mostSpoiledTile_37 : decode cX0_mostSpoiledTile 37 = .ok (.iinc 4 1, 3) := by decide +kernel
theorem dX0_mostSpoiledTile_40 : decode cX0_mostSpoiledTile 40 = .ok (.goto (-33), 3) := by decide +kernel
theorem dX0_mostSpoiledTile_43 : decode cX0_mostSpoiledTile 43 = .ok (.iload_n 2, 1) := by decide +kernel
theorem dX0_mostSpoiledTile_44 : decode cX0_mostSpoiledTile 44 = .ok (.ireturn, 1) := by decide +kernel
theorem dX0_heldCopiesSpoiledAt_0 : decode cX0_heldCopiesSpoiledAt 0 = .ok (.iconst 0, 1) := by decide +kernel
theorem dX0_heldCopiesSpoiledAt_1 : decode cX0_heldCopiesSpoiledAt 1 = .ok (.istore_n 3, 1) := by decide +kernel
theorem dX0_heldCopiesSpoiledAt_2 : decode cX0_heldCopiesSpoiledAt 2 = .ok (.iconst 0, 1) := by decide +kernel
theorem dX0_heldCopiesSpoiledAt_3 : decode cX0_heldCopiesSpoiledAt 3 = .ok (.istore 4, 2) := by decide +kernel
theorem dX0_heldCopiesSpoiledAt_5 : decode cX0_heldCopiesSpoiledAt 5 = .ok (.iload 4, 2) := by decide +kernel
theorem dX0_heldCopiesSpoiledAt_7 : decode cX0_heldCopiesSpoiledAt 7 = .ok (.aload_n 0, 1) := by decide +kernel
theorem dX0_heldCopiesSpoiledAt_8 : decode cX0_heldCopiesSpoiledAt 8 = .ok (.getfield 50, 3) := by decide +kernel
theorem dX0_heldCopiesSpoiledAt_11 : decode cX0_heldCopiesSpoiledAt 11 = .ok (.if_icmp .ge 33, 3) := by decide +kernel
theorem dX0_heldCopiesSpoiledAt_14 : decode cX0_heldCopiesSpoiledAt 14 = .ok (.aload_n 0, 1) := by decide +kernel
theorem dX0_heldCopiesSpoiledAt_15 : decode cX0_heldCopiesSpoiledAt 15 = .ok (.iload_n 1, 1) := by decide +kernel
theorem dX0_heldCopiesSpoiledAt_16 : decode cX0_heldCopiesSpoiledAt 16 = .ok (.iload 4, 2) := by decide +kernel
theorem dX0_heldCopiesSpoiledAt_18 : decode cX0_heldCopiesSpoiledAt 18 = .ok (.invokevirtual 104, 3) := by decide +kernel
theorem dX0_heldCopiesSpoiledAt_21 : decode cX0_heldCopiesSpoiledAt 21 = .ok (.ifCond .eq 17, 3) := by decide +kernel
theorem dX0_heldCopiesSpoiledAt_24 : decode cX0_heldCopiesSpoiledAt 24 = .ok (.iload_n 3, 1) := by decide +kernel
theorem dX0_heldCopiesSpoiledAt_25 : decode cX0_heldCopiesSpoiledAt 25 = .ok (.aload_n 0, 1) := by decide +kernel
theorem dX0_heldCopiesSpoiledAt_26 : decode cX0_heldCopiesSpoiledAt 26 = .ok (.iload_n 1, 1) := by decide +kernel
theorem dX0_heldCopiesSpoiledAt_27 : decode cX0_heldCopiesSpoiledAt 27 = .ok (.iload 4, 2) := by decide +kernel
theorem dX0_heldCopiesSpoiledAt_29 : decode cX0_heldCopiesSpoiledAt 29 = .ok (.invokevirtual 108, 3) := by decide +kernel
theorem dX0_heldCopiesSpoiledAt_32 : decode cX0_heldCopiesSpoiledAt 32 = .ok (.iload_n 2, 1) := by decide +kernel
theorem dX0_heldCopiesSpoiledAt_33 : decode cX0_heldCopiesSpoiledAt 33 = .ok (.iushr, 1) := by decide +kernel
theorem dX0_heldCopiesSpoiledAt_34 : decode cX0_heldCopiesSpoiledAt 34 = .ok (.iconst 1, 1) := by decide +kernel
theorem dX0_heldCopiesSpoiledAt_35 : decode cX0_heldCopiesSpoiledAt 35 = .ok (.iand, 1) := by decide +kernel
theorem dX0_heldCopiesSpoiledAt_36 : decode cX0_heldCopiesSpoiledAt 36 = .ok (.iadd, 1) := by decide +kernel
theorem dX0_heldCopiesSpoiledAt_37 : decode cX0_heldCopiesSpoiledAt 37 = .ok (.istore_n 3, 1) := by decide +kernel
theorem dX0_heldCopiesSpoiledAt_38 : decode cX0_heldCopiesSpoiledAt 38 = .ok (.iinc 4 1, 3) := by decide +kernel
theorem dX0_heldCopiesSpoiledAt_41 : decode cX0_heldCopiesSpoiledAt 41 = .ok (.goto (-36), 3) := by decide +kernel
theorem dX0_heldCopiesSpoiledAt_44 : decode cX0_heldCopiesSpoiledAt 44 = .ok (.iload_n 3, 1) := by decide +kernel
theorem dX0_heldCopiesSpoiledAt_45 : decode cX0_heldCopiesSpoiledAt 45 = .ok (.ireturn, 1) := by decide +kernel
theorem dX0_sourcesOf_0 : decode cX0_sourcesOf 0 = .ok (.aload_n 0, 1) := by decide +kernel
theorem dX0_sourcesOf_1 : decode cX0_sourcesOf 1 = .ok (.getfield 19, 3) := by decide +kernel
theorem dX0_sourcesOf_4 : decode cX0_sourcesOf 4 = .ok (.iload_n 2, 1) := by decide +kernel
theorem dX0_sourcesOf_5 : decode cX0_sourcesOf 5 = .ok (.iaload, 1) := by decide +kernel
theorem dX0_sourcesOf_6 : decode cX0_sourcesOf 6 = .ok (.aload_n 0, 1) := by decide +kernel
theorem dX0_sourcesOf_7 : decode cX0_sourcesOf 7 = .ok (.getfield 37, 3) := by decide +kernel
theorem dX0_sourcesOf_10 : decode cX0_sourcesOf 10 = .ok (.iload_n 1, 1) := by decide +kernel
theorem dX0_sourcesOf_11 : decode cX0_sourcesOf 11 = .ok (.iaload, 1) := by decide +kernel
theorem dX0_sourcesOf_12 : decode cX0_sourcesOf 12 = .ok (.iand, 1) := by decide +kernel
theorem dX0_sourcesOf_13 : decode cX0_sourcesOf 13 = .ok (.ireturn, 1) := by decide +kernel
theorem dX0_spoiledInAll_0 : decode cX0_spoiledInAll 0 = .ok (.aload_n 0, 1) := by decide +kernel
theorem dX0_spoiledInAll_1 : decode cX0_spoiledInAll 1 = .ok (.invokevirtual 134, 3) := by decide +kernel
theorem dX0_spoiledInAll_4 : decode cX0_spoiledInAll 4 = .ok (.istore_n 3, 1) := by decide +kernel
theorem dX0_spoiledInAll_5 : decode cX0_spoiledInAll 5 = .ok (.iconst 0, 1) := by decide +kernel
theorem dX0_spoiledInAll_6 : decode cX0_spoiledInAll 6 = .ok (.istore 4, 2) := by decide +kernel
theorem dX0_spoiledInAll_8 : decode cX0_spoiledInAll 8 = .ok (.iload 4, 2) := by decide +kernel
theorem dX0_spoiledInAll_10 : decode cX0_spoiledInAll 10 = .ok (.aload_n 0, 1) := by decide +kernel
theorem dX0_spoiledInAll_11 : decode cX0_spoiledInAll 11 = .ok (.getfield 50, 3) := by decide +kernel
theorem dX0_spoiledInAll_14 : decode cX0_spoiledInAll 14 = .ok (.if_icmp .ge 28, 3) := by decide +kernel
theorem dX0_spoiledInAll_17 : decode cX0_spoiledInAll 17 = .ok (.iload_n 2, 1) := by decide +kernel
theorem dX0_spoiledInAll_18 : decode cX0_spoiledInAll 18 = .ok (.iload 4, 2) := by decide +kernel
theorem dX0_spoiledInAll_20 : decode cX0_spoiledInAll 20 = .ok (.iushr, 1) := by decide +kernel
theorem dX0_spoiledInAll_21 : decode cX0_spoiledInAll 21 = .ok (.iconst 1, 1) := by decide +kernel
theorem dX0_spoiledInAll_22 : decode cX0_spoiledInAll 22 = .ok (.iand, 1) := by decide +kernel
theorem dX0_spoiledInAll_23 : decode cX0_spoiledInAll 23 = .ok (.ifCond .eq 13, 3) := by decide +kernel
theorem dX0_spoiledInAll_26 : decode cX0_spoiledInAll 26 = .ok (.iload_n 3, 1) := by decide +kernel
theorem dX0_spoiledInAll_27 : decode cX0_spoiledInAll 27 = .ok (.aload_n 0, 1) := by decide +kernel
theorem dX0_spoiledInAll_28 : decode cX0_spoiledInAll 28 = .ok (.iload_n 1, 1) := by decide +kernel
theorem dX0_spoiledInAll_29 : decode cX0_spoiledInAll 29 = .ok (.iload 4, 2) := by decide +kernel
theorem dX0_spoiledInAll_31 : decode cX0_spoiledInAll 31 = .ok (.invokevirtual 108, 3) := by decide +kernel
theorem dX0_spoiledInAll_34 : decode cX0_spoiledInAll 34 = .ok (.iand, 1) := by decide +kernel
theorem dX0_spoiledInAll_35 : decode cX0_spoiledInAll 35 = .ok (.istore_n 3, 1) := by decide +kernel
theorem dX0_spoiledInAll_36 : decode cX0_spoiledInAll 36 = .ok (.iinc 4 1, 3) := by decide +kernel
theorem dX0_spoiledInAll_39 : decode cX0_spoiledInAll 39 = .ok (.goto (-31), 3) := by decide +kernel
theorem dX0_spoiledInAll_42 : decode cX0_spoiledInAll 42 = .ok (.iload_n 3, 1) := by decide +kernel
theorem dX0_spoiledInAll_43 : decode cX0_spoiledInAll 43 = .ok (.ireturn, 1) := by decide +kernel
theorem dX0_mendCopy_0 : decode cX0_mendCopy 0 = .ok (.aload_n 0, 1) := by decide +kernel
theorem dX0_mendCopy_1 : decode cX0_mendCopy 1 = .ok (.getfield 43, 3) := by decide +kernel
theorem dX0_mendCopy_4 : decode cX0_mendCopy 4 = .ok (.iload_n 1, 1) := by decide +kernel
theorem dX0_mendCopy_5 : decode cX0_mendCopy 5 = .ok (.iload_n 2, 1) := by decide +kernel
theorem dX0_mendCopy_6 : decode cX0_mendCopy 6 = .ok (.invokestatic 77, 3) := by decide +kernel
theorem dX0_mendCopy_9 : decode cX0_mendCopy 9 = .ok (.aload_n 0, 1) := by decide +kernel
theorem dX0_mendCopy_10 : decode cX0_mendCopy 10 = .ok (.iload_n 1, 1) := by decide +kernel
theorem dX0_mendCopy_11 : decode cX0_mendCopy 11 = .ok (.iload_n 3, 1) := by decide +kernel
theorem dX0_mendCopy_12 : decode cX0_mendCopy 12 = .ok (.invokevirtual 137, 3) := by decide +kernel
theorem dX0_mendCopy_15 : decode cX0_mendCopy 15 = .ok (.iastore, 1) := by decide +kernel
theorem dX0_mendCopy_16 : decode cX0_mendCopy 16 = .ok (.aload_n 0, 1) := by decide +kernel
theorem dX0_mendCopy_17 : decode cX0_mendCopy 17 = .ok (.getfield 37, 3) := by decide +kernel
theorem dX0_mendCopy_20 : decode cX0_mendCopy 20 = .ok (.iload_n 1, 1) := by decide +kernel
theorem dX0_mendCopy_21 : decode cX0_mendCopy 21 = .ok (.dup2, 1) := by decide +kernel
theorem dX0_mendCopy_22 : decode cX0_mendCopy 22 = .ok (.iaload, 1) := by decide +kernel
theorem dX0_mendCopy_23 : decode cX0_mendCopy 23 = .ok (.iconst 1, 1) := by decide +kernel
theorem dX0_mendCopy_24 : decode cX0_mendCopy 24 = .ok (.iload_n 2, 1) := by decide +kernel
theorem dX0_mendCopy_25 : decode cX0_mendCopy 25 = .ok (.ishl, 1) := by decide +kernel
theorem dX0_mendCopy_26 : decode cX0_mendCopy 26 = .ok (.ior, 1) := by decide +kernel
theorem dX0_mendCopy_27 : decode cX0_mendCopy 27 = .ok (.iastore, 1) := by decide +kernel
theorem dX0_mendCopy_28 : decode cX0_mendCopy 28 = .ok (.aload_n 0, 1) := by decide +kernel
theorem dX0_mendCopy_29 : decode cX0_mendCopy 29 = .ok (.getfield 40, 3) := by decide +kernel
theorem dX0_mendCopy_32 : decode cX0_mendCopy 32 = .ok (.iload_n 1, 1) := by decide +kernel
theorem dX0_mendCopy_33 : decode cX0_mendCopy 33 = .ok (.dup2, 1) := by decide +kernel
theorem dX0_mendCopy_34 : decode cX0_mendCopy 34 = .ok (.iaload, 1) := by decide +kernel
theorem dX0_mendCopy_35 : decode cX0_mendCopy 35 = .ok (.iconst 1, 1) := by decide +kernel
theorem dX0_mendCopy_36 : decode cX0_mendCopy 36 = .ok (.iload_n 2, 1) := by decide +kernel
theorem dX0_mendCopy_37 : decode cX0_mendCopy 37 = .ok (.ishl, 1) := by decide +kernel
theorem dX0_mendCopy_38 : decode cX0_mendCopy 38 = .ok (.iconst (-1), 1) := by decide +kernel
theorem dX0_mendCopy_39 : decode cX0_mendCopy 39 = .ok (.ixor, 1) := by decide +kernel
theorem dX0_mendCopy_40 : decode cX0_mendCopy 40 = .ok (.iand, 1) := by decide +kernel
theorem dX0_mendCopy_41 : decode cX0_mendCopy 41 = .ok (.iastore, 1) := by decide +kernel
theorem dX0_mendCopy_42 : decode cX0_mendCopy 42 = .ok (.aload_n 0, 1) := by decide +kernel
theorem dX0_mendCopy_43 : decode cX0_mendCopy 43 = .ok (.dup, 1) := by decide +kernel
theorem dX0_mendCopy_44 : decode cX0_mendCopy 44 = .ok (.getfield 59, 3) := by decide +kernel
theorem dX0_mendCopy_47 : decode cX0_mendCopy 47 = .ok (.iconst 1, 1) := by decide +kernel
theorem dX0_mendCopy_48 : decode cX0_mendCopy 48 = .ok (.iadd, 1) := by decide +kernel
theorem dX0_mendCopy_49 : decode cX0_mendCopy 49 = .ok (.putfield 59, 3) := by decide +kernel
theorem dX0_mendCopy_52 : decode cX0_mendCopy 52 = .ok (.return_, 1) := by decide +kernel
theorem dX0_repairAtOnce_0 : decode cX0_repairAtOnce 0 = .ok (.iconst 0, 1) := by decide +kernel
theorem dX0_repairAtOnce_1 : decode cX0_repairAtOnce 1 = .ok (.istore_n 1, 1) := by decide +kernel
theorem dX0_repairAtOnce_2 : decode cX0_repairAtOnce 2 = .ok (.iconst 0, 1) := by decide +kernel
theorem dX0_repairAtOnce_3 : decode cX0_repairAtOnce 3 = .ok (.istore_n 2, 1) := by decide +kernel
theorem dX0_repairAtOnce_4 : decode cX0_repairAtOnce 4 = .ok (.iload_n 2, 1) := by decide +kernel
theorem dX0_repairAtOnce_5 : decode cX0_repairAtOnce 5 = .ok (.aload_n 0, 1) := by decide +kernel
theorem dX0_repairAtOnce_6 : decode cX0_repairAtOnce 6 = .ok (.getfield 53, 3) := by decide +kernel
theorem dX0_repairAtOnce_9 : decode cX0_repairAtOnce 9 = .ok (.if_icmp .ge 76, 3) := by decide +kernel
theorem dX0_repairAtOnce_12 : decode cX0_repairAtOnce 12 = .ok (.aload_n 0, 1) := by decide +kernel
theorem dX0_repairAtOnce_13 : decode cX0_repairAtOnce 13 = .ok (.getfield 37, 3) := by decide +kernel
theorem dX0_repairAtOnce_16 : decode cX0_repairAtOnce 16 = .ok (.iload_n 2, 1) := by decide +kernel
theorem dX0_repairAtOnce_17 : decode cX0_repairAtOnce 17 = .ok (.iaload, 1) := by decide +kernel
theorem dX0_repairAtOnce_18 : decode cX0_repairAtOnce 18 = .ok (.istore_n 3, 1) := by decide +kernel
theorem dX0_repairAtOnce_19 : decode cX0_repairAtOnce 19 = .ok (.iconst 0, 1) := by decide +kernel
theorem dX0_repairAtOnce_20 : decode cX0_repairAtOnce 20 = .ok (.istore 4, 2) := by decide +kernel
theorem dX0_repairAtOnce_22 : decode cX0_repairAtOnce 22 = .ok (.iload 4, 2) := by decide +kernel
theorem dX0_repairAtOnce_24 : decode cX0_repairAtOnce 24 = .ok (.aload_n 0, 1) := by decide +kernel
theorem dX0_repairAtOnce_25 : decode cX0_repairAtOnce 25 = .ok (.getfield 50, 3) := by decide +kernel
theorem dX0_repairAtOnce_28 : decode cX0_repairAtOnce 28 = .ok (.if_icmp .ge 51, 3) := by decide +kernel
theorem dX0_repairAtOnce_31 : decode cX0_repairAtOnce 31 = .ok (.aload_n 0, 1) := by decide +kernel
theorem dX0_repairAtOnce_32 : decode cX0_repairAtOnce 32 = .ok (.getfield 19, 3) := by decide +kernel
theorem dX0_repairAtOnce_35 : decode cX0_repairAtOnce 35 = .ok (.iload 4, 2) := by decide +kernel
theorem dX0_repairAtOnce_37 : decode cX0_repairAtOnce 37 = .ok (.iaload, 1) := by decide +kernel
theorem dX0_repairAtOnce_38 : decode cX0_repairAtOnce 38 = .ok (.iload_n 3, 1) := by decide +kernel
theorem dX0_repairAtOnce_39 : decode cX0_repairAtOnce 39 = .ok (.iand, 1) := by decide +kernel
theorem dX0_repairAtOnce_40 : decode cX0_repairAtOnce 40 = .ok (.istore 5, 2) := by decide +kernel
theorem dX0_repairAtOnce_42 : decode cX0_repairAtOnce 42 = .ok (.aload_n 0, 1) := by decide +kernel
theorem dX0_repairAtOnce_43 : decode cX0_repairAtOnce 43 = .ok (.getfield 40, 3) := by decide +kernel
theorem dX0_repairAtOnce_46 : decode cX0_repairAtOnce 46 = .ok (.iload_n 2, 1) := by decide +kernel
theorem dX0_repairAtOnce_47 : decode cX0_repairAtOnce 47 = .ok (.iaload, 1) := by decide +kernel
theorem dX0_repairAtOnce_48 : decode cX0_repairAtOnce 48 = .ok (.iload 4, 2) := by decide +kernel
theorem dX0_repairAtOnce_50 : decode cX0_repairAtOnce 50 = .ok (.iushr, 1) := by decide +kernel
theorem dX0_repairAtOnce_51 : decode cX0_repairAtOnce 51 = .ok (.iconst 1, 1) := by decide +kernel
theorem dX0_repairAtOnce_52 : decode cX0_repairAtOnce 52 = .ok (.iand, 1) := by decide +kernel
theorem dX0_repairAtOnce_53 : decode cX0_repairAtOnce 53 = .ok (.ifCond .eq 20, 3) := by decide +kernel
theorem dX0_repairAtOnce_56 : decode cX0_repairAtOnce 56 = .ok (.iload 5, 2) := by decide +kernel
theorem dX0_repairAtOnce_58 : decode cX0_repairAtOnce 58 = .ok (.ifCond .eq 15, 3) := by decide +kernel
theorem dX0_repairAtOnce_61 : decode cX0_repairAtOnce 61 = .ok (.aload_n 0, 1) := by decide +kernel
theorem dX0_repairAtOnce_62 : decode cX0_repairAtOnce 62 = .ok (.iload_n 2, 1) := by decide +kernel
theorem dX0_repairAtOnce_63 : decode cX0_repairAtOnce 63 = .ok (.iload 4, 2) := by decide +kernel
theorem dX0_repairAtOnce_65 : decode cX0_repairAtOnce 65 = .ok (.iload 5, 2) := by decide +kernel
theorem dX0_repairAtOnce_67 : decode cX0_repairAtOnce 67 = .ok (.invokevirtual 140, 3) := by decide +kernel
theorem dX0_repairAtOnce_70 : decode cX0_repairAtOnce 70 = .ok (.iinc 1 1, 3) := by decide +kernel
theorem dX0_repairAtOnce_73 : decode cX0_repairAtOnce 73 = .ok (.iinc 4 1, 3) := by decide +kernel
theorem dX0_repairAtOnce_76 : decode cX0_repairAtOnce 76 = .ok (.goto (-54), 3) := by decide +kernel
theorem dX0_repairAtOnce_79 : decode cX0_repairAtOnce 79 = .ok (.iinc 2 1, 3) := by decide +kernel
theorem dX0_repairAtOnce_82 : decode cX0_repairAtOnce 82 = .ok (.goto (-78), 3) := by decide +kernel
theorem dX0_repairAtOnce_85 : decode cX0_repairAtOnce 85 = .ok (.iload_n 1, 1) := by decide +kernel
theorem dX0_repairAtOnce_86 : decode cX0_repairAtOnce 86 = .ok (.ireturn, 1) := by decide +kernel
theorem dX0_repairInWaves_0 : decode cX0_repairInWaves 0 = .ok (.iconst 0, 1) := by decide +kernel
theorem dX0_repairInWaves_1 : decode cX0_repairInWaves 1 = .ok (.istore_n 1, 1) := by decide +kernel
theorem dX0_repairInWaves_2 : decode cX0_repairInWaves 2 = .ok (.iload_n 1, 1) := by decide +kernel
theorem dX0_repairInWaves_3 : decode cX0_repairInWaves 3 = .ok (.bipush 120, 2) := by decide +kernel
theorem dX0_repairInWaves_5 : decode cX0_repairInWaves 5 = .ok (.if_icmp .ge 18, 3) := by decide +kernel
theorem dX0_repairInWaves_8 : decode cX0_repairInWaves 8 = .ok (.aload_n 0, 1) := by decide +kernel
theorem dX0_repairInWaves_9 : decode cX0_repairInWaves 9 = .ok (.invokevirtual 144, 3) := by decide +kernel
theorem dX0_repairInWaves_12 : decode cX0_repairInWaves 12 = .ok (.ifCond .ne 5, 3) := by decide +kernel
theorem dX0_repairInWaves_15 : decode cX0_repairInWaves 15 = .ok (.iload_n 1, 1) := by decide +kernel
theorem dX0_repairInWaves_16 : decode cX0_repairInWaves 16 = .ok (.ireturn, 1) := by decide +kernel
theorem dX0_repairInWaves_17 : decode cX0_repairInWaves 17 = .ok (.iinc 1 1, 3) := by decide +kernel
theorem dX0_repairInWaves_20 : decode cX0_repairInWaves 20 = .ok (.goto (-18), 3) := by decide +kernel
theorem dX0_repairInWaves_23 : decode cX0_repairInWaves 23 = .ok (.bipush 120, 2) := by decide +kernel
theorem dX0_repairInWaves_25 : decode cX0_repairInWaves 25 = .ok (.ireturn, 1) := by decide +kernel
theorem dX0_neededHolders_0 : decode cX0_neededHolders 0 = .ok (.aload_n 0, 1) := by decide +kernel
theorem dX0_neededHolders_1 : decode cX0_neededHolders 1 = .ok (.getfield 37, 3) := by decide +kernel
theorem dX0_neededHolders_4 : decode cX0_neededHolders 4 = .ok (.iload_n 1, 1) := by decide +kernel
theorem dX0_neededHolders_5 : decode cX0_neededHolders 5 = .ok (.iaload, 1) := by decide +kernel
theorem dX0_neededHolders_6 : decode cX0_neededHolders 6 = .ok (.invokestatic 88, 3) := by decide +kernel
theorem dX0_neededHolders_9 : decode cX0_neededHolders 9 = .ok (.aload_n 0, 1) := by decide +kernel
theorem dX0_neededHolders_10 : decode cX0_neededHolders 10 = .ok (.getfield 34, 3) := by decide +kernel
theorem dX0_neededHolders_13 : decode cX0_neededHolders 13 = .ok (.iload_n 1, 1) := by decide +kernel
theorem dX0_neededHolders_14 : decode cX0_neededHolders 14 = .ok (.iaload, 1) := by decide +kernel
theorem dX0_neededHolders_15 : decode cX0_neededHolders 15 = .ok (.if_icmp .ne 12, 3) := by decide +kernel
theorem dX0_neededHolders_18 : decode cX0_neededHolders 18 = .ok (.aload_n 0, 1) := by decide +kernel
theorem dX0_neededHolders_19 : decode cX0_neededHolders 19 = .ok (.getfield 37, 3) := by decide +kernel
theorem dX0_neededHolders_22 : decode cX0_neededHolders 22 = .ok (.iload_n 1, 1) := by decide +kernel
theorem dX0_neededHolders_23 : decode cX0_neededHolders 23 = .ok (.iaload, 1) := by decide +kernel
theorem dX0_neededHolders_24 : decode cX0_neededHolders 24 = .ok (.goto 4, 3) := by decide +kernel
theorem dX0_neededHolders_27 : decode cX0_neededHolders 27 = .ok (.iconst 0, 1) := by decide +kernel
theorem dX0_neededHolders_28 : decode cX0_neededHolders 28 = .ok (.ireturn, 1) := by decide +kernel
theorem dX0_picturesThatNeed_0 : decode cX0_picturesThatNeed 0 = .ok (.iconst 0, 1) := by decide +kernel
theorem dX0_picturesThatNeed_1 : decode cX0_picturesThatNeed 1 = .ok (.istore_n 2, 1) := by decide +kernel
theorem dX0_picturesThatNeed_2 : decode cX0_picturesThatNeed 2 = .ok (.iconst 0, 1) := by decide +kernel
theorem dX0_picturesThatNeed_3 : decode cX0_picturesThatNeed 3 = .ok (.istore_n 3, 1) := by decide +kernel
theorem dX0_picturesThatNeed_4 : decode cX0_picturesThatNeed 4 = .ok (.iload_n 3, 1) := by decide +kernel
theorem dX0_picturesThatNeed_5 : decode cX0_picturesThatNeed 5 = .ok (.aload_n 0, 1) := by decide +kernel
theorem dX0_picturesThatNeed_6 : decode cX0_picturesThatNeed 6 = .ok (.getfield 53, 3) := by decide +kernel
theorem dX0_picturesThatNeed_9 : decode cX0_picturesThatNeed 9 = .ok (.if_icmp .ge 21, 3) := by decide +kernel
theorem dX0_picturesThatNeed_12 : decode cX0_picturesThatNeed 12 = .ok (.iload_n 2, 1) := by decide +kernel
theorem dX0_picturesThatNeed_13 : decode cX0_picturesThatNeed 13 = .ok (.aload_n 0, 1) := by decide +kernel
theorem dX0_picturesThatNeed_14 : decode cX0_picturesThatNeed 14 = .ok (.iload_n 3, 1) := by decide +kernel
theorem dX0_picturesThatNeed_15 : decode cX0_picturesThatNeed 15 = .ok (.invokevirtual 147, 3) := by decide +kernel
theorem dX0_picturesThatNeed_18 : decode cX0_picturesThatNeed 18 = .ok (.iload_n 1, 1) := by decide +kernel
theorem dX0_picturesThatNeed_19 : decode cX0_picturesThatNeed 19 = .ok (.iushr, 1) := by decide +kernel
theorem dX0_picturesThatNeed_20 : decode cX0_picturesThatNeed 20 = .ok (.iconst 1, 1) := by decide +kernel
theorem dX0_picturesThatNeed_21 : decode cX0_picturesThatNeed 21 = .ok (.iand, 1) := by decide +kernel
theorem dX0_picturesThatNeed_22 : decode cX0_picturesThatNeed 22 = .ok (.iadd, 1) := by decide +kernel
theorem dX0_picturesThatNeed_23 : decode cX0_picturesThatNeed 23 = .ok (.istore_n 2, 1) := by decide +kernel
theorem dX0_picturesThatNeed_24 : decode cX0_picturesThatNeed 24 = .ok (.iinc 3 1, 3) := by decide +kernel
theorem dX0_picturesThatNeed_27 : decode cX0_picturesThatNeed 27 = .ok (.goto (-23), 3) := by decide +kernel
theorem dX0_picturesThatNeed_30 : decode cX0_picturesThatNeed 30 = .ok (.iload_n 2, 1) := by decide +kernel
theorem dX0_picturesThatNeed_31 : decode cX0_picturesThatNeed 31 = .ok (.ireturn, 1) := by decide +kernel
theorem dX0_reachedFrom_0 : decode cX0_reachedFrom 0 = .ok (.iload_n 1, 1) := by decide +kernel
theorem dX0_reachedFrom_1 : decode cX0_reachedFrom 1 = .ok (.istore_n 2, 1) := by decide +kernel
theorem dX0_reachedFrom_2 : decode cX0_reachedFrom 2 = .ok (.iconst 0, 1) := by decide +kernel
theorem dX0_reachedFrom_3 : decode cX0_reachedFrom 3 = .ok (.istore_n 3, 1) := by decide +kernel
theorem dX0_reachedFrom_4 : decode cX0_reachedFrom 4 = .ok (.iload_n 3, 1) := by decide +kernel
theorem dX0_reachedFrom_5 : decode cX0_reachedFrom 5 = .ok (.bipush 10, 2) := by decide +kernel
theorem dX0_reachedFrom_7 : decode cX0_reachedFrom 7 = .ok (.if_icmp .ge 46, 3) := by decide +kernel
theorem dX0_reachedFrom_10 : decode cX0_reachedFrom 10 = .ok (.iconst 0, 1) := by decide +kernel
theorem dX0_reachedFrom_11 : decode cX0_reachedFrom 11 = .ok (.istore 4, 2) := by decide +kernel
theorem dX0_reachedFrom_13 : decode cX0_reachedFrom 13 = .ok (.iload 4, 2) := by decide +kernel
theorem dX0_reachedFrom_15 : decode cX0_reachedFrom 15 = .ok (.aload_n 0, 1) := by decide +kernel
theorem dX0_reachedFrom_16 : decode cX0_reachedFrom 16 = .ok (.getfield 50, 3) := by decide +kernel
theorem dX0_reachedFrom_19 : decode cX0_reachedFrom 19 = .ok (.if_icmp .ge 28, 3) := by decide +kernel
theorem dX0_reachedFrom_22 : decode cX0_reachedFrom 22 = .ok (.iload_n 2, 1) := by decide +kernel
theorem dX0_reachedFrom_23 : decode cX0_reachedFrom 23 = .ok (.iload 4, 2) := by decide +kernel
theorem dX0_reachedFrom_25 : decode cX0_reachedFrom 25 = .ok (.iushr, 1) := by decide +kernel
theorem dX0_reachedFrom_26 : decode cX0_reachedFrom 26 = .ok (.iconst 1, 1) := by decide +kernel
theorem dX0_reachedFrom_27 : decode cX0_reachedFrom 27 = .ok (.iand, 1) := by decide +kernel
theorem dX0_reachedFrom_28 : decode cX0_reachedFrom 28 = .ok (.ifCond .eq 13, 3) := by decide +kernel
theorem dX0_reachedFrom_31 : decode cX0_reachedFrom 31 = .ok (.iload_n 2, 1) := by decide +kernel
theorem dX0_reachedFrom_32 : decode cX0_reachedFrom 32 = .ok (.aload_n 0, 1) := by decide +kernel
theorem dX0_reachedFrom_33 : decode cX0_reachedFrom 33 = .ok (.getfield 19, 3) := by decide +kernel
theorem dX0_reachedFrom_36 : decode cX0_reachedFrom 36 = .ok (.iload 4, 2) := by decide +kernel
theorem dX0_reachedFrom_38 : decode cX0_reachedFrom 38 = .ok (.iaload, 1) := by decide +kernel
theorem dX0_reachedFrom_39 : decode cX0_reachedFrom 39 = .ok (.ior, 1) := by decide +kernel
theorem dX0_reachedFrom_40 : decode cX0_reachedFrom 40 = .ok (.istore_n 2, 1) := by decide +kernel
theorem dX0_reachedFrom_41 : decode cX0_reachedFrom 41 = .ok (.iinc 4 1, 3) := by decide +kernel
theorem dX0_reachedFrom_44 : decode cX0_reachedFrom 44 = .ok (.goto (-31), 3) := by decide +kernel
theorem dX0_reachedFrom_47 : decode cX0_reachedFrom 47 = .ok (.iinc 3 1, 3) := by decide +kernel
theorem dX0_reachedFrom_50 : decode cX0_reachedFrom 50 = .ok (.goto (-46), 3) := by decide +kernel
theorem dX0_reachedFrom_53 : decode cX0_reachedFrom 53 = .ok (.iload_n 2, 1) := by decide +kernel
theorem dX0_reachedFrom_54 : decode cX0_reachedFrom 54 = .ok (.ireturn, 1) := by decide +kernel
theorem dX0_makeCopies_0 : decode cX0_makeCopies 0 = .ok (.iconst 0, 1) := by decide +kernel
theorem dX0_makeCopies_1 : decode cX0_makeCopies 1 = .ok (.istore_n 1, 1) := by decide +kernel
theorem dX0_makeCopies_2 : decode cX0_makeCopies 2 = .ok (.iconst 0, 1) := by decide +kernel
theorem dX0_makeCopies_3 : decode cX0_makeCopies 3 = .ok (.istore_n 2, 1) := by decide +kernel
theorem dX0_makeCopies_4 : decode cX0_makeCopies 4 = .ok (.iload_n 2, 1) := by decide +kernel
theorem dX0_makeCopies_5 : decode cX0_makeCopies 5 = .ok (.aload_n 0, 1) := by decide +kernel
theorem dX0_makeCopies_6 : decode cX0_makeCopies 6 = .ok (.getfield 53, 3) := by decide +kernel
theorem dX0_makeCopies_9 : decode cX0_makeCopies 9 = .ok (.if_icmp .ge 69, 3) := by decide +kernel
theorem dX0_makeCopies_12 : decode cX0_makeCopies 12 = .ok (.iconst 0, 1) := by decide +kernel
theorem dX0_makeCopies_13 : decode cX0_makeCopies 13 = .ok (.istore_n 3, 1) := by decide +kernel
theorem dX0_makeCopies_14 : decode cX0_makeCopies 14 = .ok (.iload_n 3, 1) := by decide +kernel
theorem dX0_makeCopies_15 : decode cX0_makeCopies 15 = .ok (.bipush 10, 2) := by decide +kernel
theorem dX0_makeCopies_17 : decode cX0_makeCopies 17 = .ok (.if_icmp .ge 55, 3) := by decide +kernel
theorem dX0_makeCopies_20 : decode cX0_makeCopies 20 = .ok (.aload_n 0, 1) := by decide +kernel
theorem dX0_makeCopies_21 : decode cX0_makeCopies 21 = .ok (.iload_n 2, 1) := by decide +kernel
theorem dX0_makeCopies_22 : decode cX0_makeCopies 22 = .ok (.invokevirtual 111, 3) := by decide +kernel
theorem dX0_makeCopies_25 : decode cX0_makeCopies 25 = .ok (.ifCond .eq 47, 3) := by decide +kernel
theorem dX0_makeCopies_28 : decode cX0_makeCopies 28 = .ok (.aload_n 0, 1) := by decide +kernel
theorem dX0_makeCopies_29 : decode cX0_makeCopies 29 = .ok (.iload_n 2, 1) := by decide +kernel
theorem dX0_makeCopies_30 : decode cX0_makeCopies 30 = .ok (.invokevirtual 150, 3) := by decide +kernel
theorem dX0_makeCopies_33 : decode cX0_makeCopies 33 = .ok (.istore 4, 2) := by decide +kernel
theorem dX0_makeCopies_35 : decode cX0_makeCopies 35 = .ok (.iload 4, 2) := by decide +kernel
theorem dX0_makeCopies_37 : decode cX0_makeCopies 37 = .ok (.iconst (-1), 1) := by decide +kernel
theorem dX0_makeCopies_38 : decode cX0_makeCopies 38 = .ok (.if_icmp .ne 6, 3) := by decide +kernel
theorem dX0_makeCopies_41 : decode cX0_makeCopies 41 = .ok (.goto 31, 3) := by decide +kernel
theorem dX0_makeCopies_44 : decode cX0_makeCopies 44 = .ok (.aload_n 0, 1) := by decide +kernel
theorem dX0_makeCopies_45 : decode cX0_makeCopies 45 = .ok (.iload_n 2, 1) := by decide +kernel
theorem dX0_makeCopies_46 : decode cX0_makeCopies 46 = .ok (.iload 4, 2) := by decide +kernel
theorem dX0_makeCopies_48 : decode cX0_makeCopies 48 = .ok (.aload_n 0, 1) := by decide +kernel
theorem dX0_makeCopies_49 : decode cX0_makeCopies 49 = .ok (.iload_n 2, 1) := by decide +kernel
theorem dX0_makeCopies_50 : decode cX0_makeCopies 50 = .ok (.aload_n 0, 1) := by decide +kernel
theorem dX0_makeCopies_51 : decode cX0_makeCopies 51 = .ok (.iload_n 2, 1) := by decide +kernel
theorem dX0_makeCopies_52 : decode cX0_makeCopies 52 = .ok (.iload 4, 2) := by decide +kernel
theorem dX0_makeCopies_54 : decode cX0_makeCopies 54 = .ok (.invokevirtual 153, 3) := by decide +kernel
theorem dX0_makeCopies_57 : decode cX0_makeCopies 57 = .ok (.invokevirtual 137, 3) := by decide +kernel
theorem dX0_makeCopies_60 : decode cX0_makeCopies 60 = .ok (.invokevirtual 156, 3) := by decide +kernel
theorem dX0_makeCopies_63 : decode cX0_makeCopies 63 = .ok (.iinc 1 1, 3) := by decide +kernel
theorem dX0_makeCopies_66 : decode cX0_makeCopies 66 = .ok (.iinc 3 1, 3) := by decide +kernel
theorem dX0_makeCopies_69 : decode cX0_makeCopies 69 = .ok (.goto (-55), 3) := by decide +kernel
theorem dX0_makeCopies_72 : decode cX0_makeCopies 72 = .ok (.iinc 2 1, 3) := by decide +kernel
theorem dX0_makeCopies_75 : decode cX0_makeCopies 75 = .ok (.goto (-71), 3) := by decide +kernel
theorem dX0_makeCopies_78 : decode cX0_makeCopies 78 = .ok (.iload_n 1, 1) := by decide +kernel
theorem dX0_makeCopies_79 : decode cX0_makeCopies 79 = .ok (.ireturn, 1) := by decide +kernel
theorem dX0_dangerBehindCopies_0 : decode cX0_dangerBehindCopies 0 = .ok (.aload_n 0, 1) := by decide +kernel
theorem dX0_dangerBehindCopies_1 : decode cX0_dangerBehindCopies 1 = .ok (.invokevirtual 159, 3) := by decide +kernel
theorem dX0_dangerBehindCopies_4 : decode cX0_dangerBehindCopies 4 = .ok (.pop, 1) := by decide +kernel
theorem dX0_dangerBehindCopies_5 : decode cX0_dangerBehindCopies 5 = .ok (.aload_n 0, 1) := by decide +kernel
theorem dX0_dangerBehindCopies_6 : decode cX0_dangerBehindCopies 6 = .ok (.invokevirtual 162, 3) := by decide +kernel
theorem dX0_dangerBehindCopies_9 : decode cX0_dangerBehindCopies 9 = .ok (.ireturn, 1) := by decide +kernel
theorem dX0_bestNewHolder_0 : decode cX0_bestNewHolder 0 = .ok (.iconst (-1), 1) := by decide +kernel
theorem dX0_bestNewHolder_1 : decode cX0_bestNewHolder 1 = .ok (.istore_n 2, 1) := by decide +kernel
theorem dX0_bestNewHolder_2 : decode cX0_bestNewHolder 2 = .ok (.iconst 0, 1) := by decide +kernel
theorem dX0_bestNewHolder_3 : decode cX0_bestNewHolder 3 = .ok (.istore_n 3, 1) := by decide +kernel
theorem dX0_bestNewHolder_4 : decode cX0_bestNewHolder 4 = .ok (.iload_n 3, 1) := by decide +kernel
theorem dX0_bestNewHolder_5 : decode cX0_bestNewHolder 5 = .ok (.aload_n 0, 1) := by decide +kernel
theorem dX0_bestNewHolder_6 : decode cX0_bestNewHolder 6 = .ok (.getfield 50, 3) := by decide +kernel
theorem dX0_bestNewHolder_9 : decode cX0_bestNewHolder 9 = .ok (.if_icmp .ge 63, 3) := by decide +kernel
theorem dX0_bestNewHolder_12 : decode cX0_bestNewHolder 12 = .ok (.aload_n 0, 1) := by decide +kernel
theorem dX0_bestNewHolder_13 : decode cX0_bestNewHolder 13 = .ok (.iload_n 1, 1) := by decide +kernel
theorem dX0_bestNewHolder_14 : decode cX0_bestNewHolder 14 = .ok (.iload_n 3, 1) := by decide +kernel
theorem dX0_bestNewHolder_15 : decode cX0_bestNewHolder 15 = .ok (.invokevirtual 118, 3) := by decide +kernel
theorem dX0_bestNewHolder_18 : decode cX0_bestNewHolder 18 = .ok (.ifCond .ne 24, 3) := by decide +kernel
theorem dX0_bestNewHolder_21 : decode cX0_bestNewHolder 21 = .ok (.aload_n 0, 1) := by decide +kernel
theorem dX0_bestNewHolder_22 : decode cX0_bestNewHolder 22 = .ok (.iload_n 3, 1) := by decide +kernel
theorem dX0_bestNewHolder_23 : decode cX0_bestNewHolder 23 = .ok (.invokevirtual 165, 3) := by decide +kernel
theorem dX0_bestNewHolder_26 : decode cX0_bestNewHolder 26 = .ok (.ifCond .le 16, 3) := by decide +kernel
theorem dX0_bestNewHolder_29 : decode cX0_bestNewHolder 29 = .ok (.aload_n 0, 1) := by decide +kernel
theorem dX0_bestNewHolder_30 : decode cX0_bestNewHolder 30 = .ok (.iload_n 1, 1) := by decide +kernel
theorem dX0_bestNewHolder_31 : decode cX0_bestNewHolder 31 = .ok (.iload_n 3, 1) := by decide +kernel
theorem dX0_bestNewHolder_32 : decode cX0_bestNewHolder 32 = .ok (.invokevirtual 153, 3) := by decide +kernel
theorem dX0_bestNewHolder_35 : decode cX0_bestNewHolder 35 = .ok (.ifCond .eq 7, 3) := by decide +kernel
theorem dX0_bestNewHolder_38 : decode cX0_bestNewHolder 38 = .ok (.iconst 1, 1) := by decide +kernel
theorem dX0_bestNewHolder_39 : decode cX0_bestNewHolder 39 = .ok (.goto 4, 3) := by decide +kernel
theorem dX0_bestNewHolder_42 : decode cX0_bestNewHolder 42 = .ok (.iconst 0, 1) := by decide +kernel
theorem dX0_bestNewHolder_43 : decode cX0_bestNewHolder 43 = .ok (.istore 4, 2) := by decide +kernel
theorem dX0_bestNewHolder_45 : decode cX0_bestNewHolder 45 = .ok (.iload 4, 2) := by decide +kernel
theorem dX0_bestNewHolder_47 : decode cX0_bestNewHolder 47 = .ok (.ifCond .eq 19, 3) := by decide +kernel
theorem dX0_bestNewHolder_50 : decode cX0_bestNewHolder 50 = .ok (.iload_n 2, 1) := by decide +kernel
theorem dX0_bestNewHolder_51 : decode cX0_bestNewHolder 51 = .ok (.iconst (-1), 1) := by decide +kernel
theorem dX0_bestNewHolder_52 : decode cX0_bestNewHolder 52 = .ok (.if_icmp .eq 12, 3) := by decide +kernel
theorem dX0_bestNewHolder_55 : decode cX0_bestNewHolder 55 = .ok (.aload_n 0, 1) := by decide +kernel
theorem dX0_bestNewHolder_56 : decode cX0_bestNewHolder 56 = .ok (.iload_n 3, 1) := by decide +kernel
theorem dX0_bestNewHolder_57 : decode cX0_bestNewHolder 57 = .ok (.iload_n 2, 1) := by decide +kernel
theorem dX0_bestNewHolder_58 : decode cX0_bestNewHolder 58 = .ok (.invokevirtual 168, 3) := by decide +kernel
theorem dX0_bestNewHolder_61 : decode cX0_bestNewHolder 61 = .ok (.ifCond .eq 5, 3) := by decide +kernel
theorem dX0_bestNewHolder_64 : decode cX0_bestNewHolder 64 = .ok (.iload_n 3, 1) := by decide +kernel
theorem dX0_bestNewHolder_65 : decode cX0_bestNewHolder 65 = .ok (.istore_n 2, 1) := by decide +kernel
theorem dX0_bestNewHolder_66 : decode cX0_bestNewHolder 66 = .ok (.iinc 3 1, 3) := by decide +kernel
theorem dX0_bestNewHolder_69 : decode cX0_bestNewHolder 69 = .ok (.goto (-65), 3) := by decide +kernel
theorem dX0_bestNewHolder_72 : decode cX0_bestNewHolder 72 = .ok (.iload_n 2, 1) := by decide +kernel
theorem dX0_bestNewHolder_73 : decode cX0_bestNewHolder 73 = .ok (.ireturn, 1) := by decide +kernel
theorem dX0_isBetterHolder_0 : decode cX0_isBetterHolder 0 = .ok (.aload_n 0, 1) := by decide +kernel
theorem dX0_isBetterHolder_1 : decode cX0_isBetterHolder 1 = .ok (.iload_n 1, 1) := by decide +kernel
theorem dX0_isBetterHolder_2 : decode cX0_isBetterHolder 2 = .ok (.invokevirtual 165, 3) := by decide +kernel
theorem dX0_isBetterHolder_5 : decode cX0_isBetterHolder 5 = .ok (.aload_n 0, 1) := by decide +kernel
theorem dX0_isBetterHolder_6 : decode cX0_isBetterHolder 6 = .ok (.iload_n 2, 1) := by decide +kernel
theorem dX0_isBetterHolder_7 : decode cX0_isBetterHolder 7 = .ok (.invokevirtual 165, 3) := by decide +kernel
theorem dX0_isBetterHolder_10 : decode cX0_isBetterHolder 10 = .ok (.if_icmp .eq 22, 3) := by decide +kernel
theorem dX0_isBetterHolder_13 : decode cX0_isBetterHolder 13 = .ok (.aload_n 0, 1) := by decide +kernel
theorem dX0_isBetterHolder_14 : decode cX0_isBetterHolder 14 = .ok (.iload_n 1, 1) := by decide +kernel
theorem dX0_isBetterHolder_15 : decode cX0_isBetterHolder 15 = .ok (.invokevirtual 165, 3) := by decide +kernel
theorem dX0_isBetterHolder_18 : decode cX0_isBetterHolder 18 = .ok (.aload_n 0, 1) := by decide +kernel
theorem dX0_isBetterHolder_19 : decode cX0_isBetterHolder 19 = .ok (.iload_n 2, 1) := by decide +kernel
theorem dX0_isBetterHolder_20 : decode cX0_isBetterHolder 20 = .ok (.invokevirtual 165, 3) := by decide +kernel
theorem dX0_isBetterHolder_23 : decode cX0_isBetterHolder 23 = .ok (.if_icmp .le 7, 3) := by decide +kernel
theorem dX0_isBetterHolder_26 : decode cX0_isBetterHolder 26 = .ok (.iconst 1, 1) := by decide +kernel
theorem dX0_isBetterHolder_27 : decode cX0_isBetterHolder 27 = .ok (.goto 4, 3) := by decide +kernel
theorem dX0_isBetterHolder_30 : decode cX0_isBetterHolder 30 = .ok (.iconst 0, 1) := by decide +kernel
theorem dX0_isBetterHolder_31 : decode cX0_isBetterHolder 31 = .ok (.ireturn, 1) := by decide +kernel
theorem dX0_isBetterHolder_32 : decode cX0_isBetterHolder 32 = .ok (.aload_n 0, 1) := by decide +kernel
theorem dX0_isBetterHolder_33 : decode cX0_isBetterHolder 33 = .ok (.iload_n 1, 1) := by decide +kernel
theorem dX0_isBetterHolder_34 : decode cX0_isBetterHolder 34 = .ok (.invokevirtual 171, 3) := by decide +kernel
theorem dX0_isBetterHolder_37 : decode cX0_isBetterHolder 37 = .ok (.aload_n 0, 1) := by decide +kernel
theorem dX0_isBetterHolder_38 : decode cX0_isBetterHolder 38 = .ok (.iload_n 2, 1) := by decide +kernel
theorem dX0_isBetterHolder_39 : decode cX0_isBetterHolder 39 = .ok (.invokevirtual 171, 3) := by decide +kernel
theorem dX0_isBetterHolder_42 : decode cX0_isBetterHolder 42 = .ok (.if_icmp .le 7, 3) := by decide +kernel
theorem dX0_isBetterHolder_45 : decode cX0_isBetterHolder 45 = .ok (.iconst 1, 1) := by decide +kernel
theorem dX0_isBetterHolder_46 : decode cX0_isBetterHolder 46 = .ok (.goto 4, 3) := by decide +kernel
theorem dX0_isBetterHolder_49 : decode cX0_isBetterHolder 49 = .ok (.iconst 0, 1) := by decide +kernel
theorem dX0_isBetterHolder_50 : decode cX0_isBetterHolder 50 = .ok (.ireturn, 1) := by decide +kernel
theorem dX0_roomLeft_0 : decode cX0_roomLeft 0 = .ok (.aload_n 0, 1) := by decide +kernel
theorem dX0_roomLeft_1 : decode cX0_roomLeft 1 = .ok (.getfield 15, 3) := by decide +kernel
theorem dX0_roomLeft_4 : decode cX0_roomLeft 4 = .ok (.iload_n 1, 1) := by decide +kernel
theorem dX0_roomLeft_5 : decode cX0_roomLeft 5 = .ok (.iaload, 1) := by decide +kernel
theorem dX0_roomLeft_6 : decode cX0_roomLeft 6 = .ok (.aload_n 0, 1) := by decide +kernel
theorem dX0_roomLeft_7 : decode cX0_roomLeft 7 = .ok (.getfield 28, 3) := by decide +kernel
theorem dX0_roomLeft_10 : decode cX0_roomLeft 10 = .ok (.iload_n 1, 1) := by decide +kernel
theorem dX0_roomLeft_11 : decode cX0_roomLeft 11 = .ok (.iaload, 1) := by decide +kernel
theorem dX0_roomLeft_12 : decode cX0_roomLeft 12 = .ok (.isub, 1) := by decide +kernel
theorem dX0_roomLeft_13 : decode cX0_roomLeft 13 = .ok (.ireturn, 1) := by decide +kernel
