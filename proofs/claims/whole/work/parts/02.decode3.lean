theorem dX5_init_0 : decode cX5_init 0 = .ok (.aload_n 0, 1) := by decide +kernel
theorem dX5_init_1 : decode cX5_init 1 = .ok (.invokespecial 3, 3) := by decide +kernel
theorem dX5_init_4 : decode cX5_init 4 = .ok (.aload_n 0, 1) := by decide +kernel
theorem dX5_init_5 : decode cX5_init 5 = .ok (.new 9, 3) := by decide +kernel
theorem dX5_init_8 : decode cX5_init 8 = .ok (.dup, 1) := by decide +kernel
theorem dX5_init_9 : decode cX5_init 9 = .ok (.invokespecial 11, 3) := by decide +kernel
theorem dX5_init_12 : decode cX5_init 12 = .ok (.putfield 12, 3) := by decide +kernel
theorem dX5_init_15 : decode cX5_init 15 = .ok (.aload_n 0, 1) := by decide +kernel
theorem dX5_init_16 : decode cX5_init 16 = .ok (.new 9, 3) := by decide +kernel
theorem dX5_init_19 : decode cX5_init 19 = .ok (.dup, 1) := by decide +kernel
theorem dX5_init_20 : decode cX5_init 20 = .ok (.invokespecial 11, 3) := by decide +kernel
theorem dX5_init_23 : decode cX5_init 23 = .ok (.putfield 16, 3) := by decide +kernel
theorem dX5_init_26 : decode cX5_init 26 = .ok (.aload_n 0, 1) := by decide +kernel
theorem dX5_init_27 : decode cX5_init 27 = .ok (.new 19, 3) := by decide +kernel
theorem dX5_init_30 : decode cX5_init 30 = .ok (.dup, 1) := by decide +kernel
theorem dX5_init_31 : decode cX5_init 31 = .ok (.invokespecial 21, 3) := by decide +kernel
theorem dX5_init_34 : decode cX5_init 34 = .ok (.putfield 22, 3) := by decide +kernel
theorem dX5_init_37 : decode cX5_init 37 = .ok (.aload_n 0, 1) := by decide +kernel
theorem dX5_init_38 : decode cX5_init 38 = .ok (.iconst 2, 1) := by decide +kernel
theorem dX5_init_39 : decode cX5_init 39 = .ok (.anewarray 9, 3) := by decide +kernel
theorem dX5_init_42 : decode cX5_init 42 = .ok (.putfield 26, 3) := by decide +kernel
theorem dX5_init_45 : decode cX5_init 45 = .ok (.aload_n 0, 1) := by decide +kernel
theorem dX5_init_46 : decode cX5_init 46 = .ok (.new 30, 3) := by decide +kernel
theorem dX5_init_49 : decode cX5_init 49 = .ok (.dup, 1) := by decide +kernel
theorem dX5_init_50 : decode cX5_init 50 = .ok (.invokespecial 32, 3) := by decide +kernel
theorem dX5_init_53 : decode cX5_init 53 = .ok (.putfield 33, 3) := by decide +kernel
theorem dX5_init_56 : decode cX5_init 56 = .ok (.aload_n 0, 1) := by decide +kernel
theorem dX5_init_57 : decode cX5_init 57 = .ok (.new 37, 3) := by decide +kernel
theorem dX5_init_60 : decode cX5_init 60 = .ok (.dup, 1) := by decide +kernel
theorem dX5_init_61 : decode cX5_init 61 = .ok (.invokespecial 39, 3) := by decide +kernel
theorem dX5_init_64 : decode cX5_init 64 = .ok (.putfield 40, 3) := by decide +kernel
theorem dX5_init_67 : decode cX5_init 67 = .ok (.aload_n 0, 1) := by decide +kernel
theorem dX5_init_68 : decode cX5_init 68 = .ok (.getfield 12, 3) := by decide +kernel
theorem dX5_init_71 : decode cX5_init 71 = .ok (.iconst 4, 1) := by decide +kernel
theorem dX5_init_72 : decode cX5_init 72 = .ok (.invokevirtual 44, 3) := by decide +kernel
theorem dX5_init_75 : decode cX5_init 75 = .ok (.aload_n 0, 1) := by decide +kernel
theorem dX5_init_76 : decode cX5_init 76 = .ok (.getfield 12, 3) := by decide +kernel
theorem dX5_init_79 : decode cX5_init 79 = .ok (.lconst 0, 1) := by decide +kernel
theorem dX5_init_80 : decode cX5_init 80 = .ok (.bipush 97, 2) := by decide +kernel
theorem dX5_init_82 : decode cX5_init 82 = .ok (.invokestatic 48, 3) := by decide +kernel
theorem dX5_init_85 : decode cX5_init 85 = .ok (.iconst 1, 1) := by decide +kernel
theorem dX5_init_86 : decode cX5_init 86 = .ok (.invokevirtual 54, 3) := by decide +kernel
theorem dX5_init_89 : decode cX5_init 89 = .ok (.aload_n 0, 1) := by decide +kernel
theorem dX5_init_90 : decode cX5_init 90 = .ok (.getfield 12, 3) := by decide +kernel
theorem dX5_init_93 : decode cX5_init 93 = .ok (.lconst 0, 1) := by decide +kernel
theorem dX5_init_94 : decode cX5_init 94 = .ok (.bipush 98, 2) := by decide +kernel
theorem dX5_init_96 : decode cX5_init 96 = .ok (.invokestatic 48, 3) := by decide +kernel
theorem dX5_init_99 : decode cX5_init 99 = .ok (.iconst 1, 1) := by decide +kernel
theorem dX5_init_100 : decode cX5_init 100 = .ok (.invokevirtual 54, 3) := by decide +kernel
theorem dX5_init_103 : decode cX5_init 103 = .ok (.return_, 1) := by decide +kernel
theorem dX5_append_0 : decode cX5_append 0 = .ok (.iload_n 1, 1) := by decide +kernel
theorem dX5_append_1 : decode cX5_append 1 = .ok (.invokestatic 58, 3) := by decide +kernel
theorem dX5_append_4 : decode cX5_append 4 = .ok (.iload_n 2, 1) := by decide +kernel
theorem dX5_append_5 : decode cX5_append 5 = .ok (.invokestatic 58, 3) := by decide +kernel
theorem dX5_append_8 : decode cX5_append 8 = .ok (.iadd, 1) := by decide +kernel
theorem dX5_append_9 : decode cX5_append 9 = .ok (.iload_n 3, 1) := by decide +kernel
theorem dX5_append_10 : decode cX5_append 10 = .ok (.invokestatic 58, 3) := by decide +kernel
theorem dX5_append_13 : decode cX5_append 13 = .ok (.iadd, 1) := by decide +kernel
theorem dX5_append_14 : decode cX5_append 14 = .ok (.iload 4, 2) := by decide +kernel
theorem dX5_append_16 : decode cX5_append 16 = .ok (.invokestatic 58, 3) := by decide +kernel
theorem dX5_append_19 : decode cX5_append 19 = .ok (.iadd, 1) := by decide +kernel
theorem dX5_append_20 : decode cX5_append 20 = .ok (.iload 5, 2) := by decide +kernel
theorem dX5_append_22 : decode cX5_append 22 = .ok (.invokestatic 58, 3) := by decide +kernel
theorem dX5_append_25 : decode cX5_append 25 = .ok (.iadd, 1) := by decide +kernel
theorem dX5_append_26 : decode cX5_append 26 = .ok (.istore 6, 2) := by decide +kernel
theorem dX5_append_28 : decode cX5_append 28 = .ok (.aload_n 0, 1) := by decide +kernel
theorem dX5_append_29 : decode cX5_append 29 = .ok (.getfield 33, 3) := by decide +kernel
theorem dX5_append_32 : decode cX5_append 32 = .ok (.getfield 62, 3) := by decide +kernel
theorem dX5_append_35 : decode cX5_append 35 = .ok (.iload 6, 2) := by decide +kernel
theorem dX5_append_37 : decode cX5_append 37 = .ok (.iadd, 1) := by decide +kernel
theorem dX5_append_38 : decode cX5_append 38 = .ok (.sipush 600, 3) := by decide +kernel
theorem dX5_append_41 : decode cX5_append 41 = .ok (.if_icmp .le 13, 3) := by decide +kernel
theorem dX5_append_44 : decode cX5_append 44 = .ok (.new 66, 3) := by decide +kernel
theorem dX5_append_47 : decode cX5_append 47 = .ok (.dup, 1) := by decide +kernel
theorem dX5_append_48 : decode cX5_append 48 = .ok (.ldc 68, 2) := by decide +kernel
theorem dX5_append_50 : decode cX5_append 50 = .ok (.invokespecial 70, 3) := by decide +kernel
theorem dX5_append_53 : decode cX5_append 53 = .ok (.athrow, 1) := by decide +kernel
theorem dX5_append_54 : decode cX5_append 54 = .ok (.aload_n 0, 1) := by decide +kernel
theorem dX5_append_55 : decode cX5_append 55 = .ok (.getfield 33, 3) := by decide +kernel
theorem dX5_append_58 : decode cX5_append 58 = .ok (.iload_n 1, 1) := by decide +kernel
theorem dX5_append_59 : decode cX5_append 59 = .ok (.invokevirtual 73, 3) := by decide +kernel
theorem dX5_append_62 : decode cX5_append 62 = .ok (.aload_n 0, 1) := by decide +kernel
theorem dX5_append_63 : decode cX5_append 63 = .ok (.getfield 33, 3) := by decide +kernel
theorem dX5_append_66 : decode cX5_append 66 = .ok (.iload_n 2, 1) := by decide +kernel
theorem dX5_append_67 : decode cX5_append 67 = .ok (.invokevirtual 73, 3) := by decide +kernel
theorem dX5_append_70 : decode cX5_append 70 = .ok (.aload_n 0, 1) := by decide +kernel
theorem dX5_append_71 : decode cX5_append 71 = .ok (.getfield 33, 3) := by decide +kernel
theorem dX5_append_74 : decode cX5_append 74 = .ok (.iload_n 3, 1) := by decide +kernel
theorem dX5_append_75 : decode cX5_append 75 = .ok (.invokevirtual 73, 3) := by decide +kernel
theorem dX5_append_78 : decode cX5_append 78 = .ok (.aload_n 0, 1) := by decide +kernel
theorem dX5_append_79 : decode cX5_append 79 = .ok (.getfield 33, 3) := by decide +kernel
theorem dX5_append_82 : decode cX5_append 82 = .ok (.iload 4, 2) := by decide +kernel
theorem dX5_append_84 : decode cX5_append 84 = .ok (.invokevirtual 73, 3) := by decide +kernel
theorem dX5_append_87 : decode cX5_append 87 = .ok (.aload_n 0, 1) := by decide +kernel
theorem dX5_append_88 : decode cX5_append 88 = .ok (.getfield 33, 3) := by decide +kernel
theorem dX5_append_91 : decode cX5_append 91 = .ok (.iload 5, 2) := by decide +kernel
theorem dX5_append_93 : decode cX5_append 93 = .ok (.invokevirtual 73, 3) := by decide +kernel
theorem dX5_append_96 : decode cX5_append 96 = .ok (.aload_n 0, 1) := by decide +kernel
theorem dX5_append_97 : decode cX5_append 97 = .ok (.getfield 33, 3) := by decide +kernel
theorem dX5_append_100 : decode cX5_append 100 = .ok (.getfield 62, 3) := by decide +kernel
theorem dX5_append_103 : decode cX5_append 103 = .ok (.ireturn, 1) := by decide +kernel
theorem dX5_load_0 : decode cX5_load 0 = .ok (.aload_n 0, 1) := by decide +kernel
theorem dX5_load_1 : decode cX5_load 1 = .ok (.getfield 33, 3) := by decide +kernel
theorem dX5_load_4 : decode cX5_load 4 = .ok (.aload_n 0, 1) := by decide +kernel
theorem dX5_load_5 : decode cX5_load 5 = .ok (.getfield 16, 3) := by decide +kernel
theorem dX5_load_8 : decode cX5_load 8 = .ok (.invokevirtual 76, 3) := by decide +kernel
theorem dX5_load_11 : decode cX5_load 11 = .ok (.ifCond .ne 11, 3) := by decide +kernel
theorem dX5_load_14 : decode cX5_load 14 = .ok (.aload_n 0, 1) := by decide +kernel
theorem dX5_load_15 : decode cX5_load 15 = .ok (.getfield 33, 3) := by decide +kernel
theorem dX5_load_18 : decode cX5_load 18 = .ok (.getfield 80, 3) := by decide +kernel
theorem dX5_load_21 : decode cX5_load 21 = .ok (.ireturn, 1) := by decide +kernel
theorem dX5_load_22 : decode cX5_load 22 = .ok (.aload_n 0, 1) := by decide +kernel
theorem dX5_load_23 : decode cX5_load 23 = .ok (.getfield 22, 3) := by decide +kernel
theorem dX5_load_26 : decode cX5_load 26 = .ok (.aload_n 0, 1) := by decide +kernel
theorem dX5_load_27 : decode cX5_load 27 = .ok (.getfield 12, 3) := by decide +kernel
theorem dX5_load_30 : decode cX5_load 30 = .ok (.invokevirtual 83, 3) := by decide +kernel
theorem dX5_load_33 : decode cX5_load 33 = .ok (.aload_n 0, 1) := by decide +kernel
theorem dX5_load_34 : decode cX5_load 34 = .ok (.getfield 12, 3) := by decide +kernel
theorem dX5_load_37 : decode cX5_load 37 = .ok (.aload_n 0, 1) := by decide +kernel
theorem dX5_load_38 : decode cX5_load 38 = .ok (.getfield 16, 3) := by decide +kernel
theorem dX5_load_41 : decode cX5_load 41 = .ok (.invokevirtual 87, 3) := by decide +kernel
theorem dX5_load_44 : decode cX5_load 44 = .ok (.aload_n 0, 1) := by decide +kernel
theorem dX5_load_45 : decode cX5_load 45 = .ok (.getfield 12, 3) := by decide +kernel
theorem dX5_load_48 : decode cX5_load 48 = .ok (.getfield 90, 3) := by decide +kernel
theorem dX5_load_51 : decode cX5_load 51 = .ok (.ireturn, 1) := by decide +kernel
theorem dX5_errorPosition_0 : decode cX5_errorPosition 0 = .ok (.aload_n 0, 1) := by decide +kernel
theorem dX5_errorPosition_1 : decode cX5_errorPosition 1 = .ok (.getfield 33, 3) := by decide +kernel
theorem dX5_errorPosition_4 : decode cX5_errorPosition 4 = .ok (.getfield 93, 3) := by decide +kernel
theorem dX5_errorPosition_7 : decode cX5_errorPosition 7 = .ok (.ireturn, 1) := by decide +kernel
theorem dX5_count_0 : decode cX5_count 0 = .ok (.iload_n 1, 1) := by decide +kernel
theorem dX5_count_1 : decode cX5_count 1 = .ok (.tableswitch 147 0 10 #[59, 67, 75, 83, 91, 99, 107, 115, 123, 131, 139], 59) := by decide +kernel
theorem dX5_count_60 : decode cX5_count 60 = .ok (.aload_n 0, 1) := by decide +kernel
theorem dX5_count_61 : decode cX5_count 61 = .ok (.getfield 12, 3) := by decide +kernel
theorem dX5_count_64 : decode cX5_count 64 = .ok (.getfield 96, 3) := by decide +kernel
theorem dX5_count_67 : decode cX5_count 67 = .ok (.ireturn, 1) := by decide +kernel
theorem dX5_count_68 : decode cX5_count 68 = .ok (.aload_n 0, 1) := by decide +kernel
theorem dX5_count_69 : decode cX5_count 69 = .ok (.getfield 12, 3) := by decide +kernel
theorem dX5_count_72 : decode cX5_count 72 = .ok (.getfield 99, 3) := by decide +kernel
theorem dX5_count_75 : decode cX5_count 75 = .ok (.ireturn, 1) := by decide +kernel
theorem dX5_count_76 : decode cX5_count 76 = .ok (.aload_n 0, 1) := by decide +kernel
theorem dX5_count_77 : decode cX5_count 77 = .ok (.getfield 12, 3) := by decide +kernel
theorem dX5_count_80 : decode cX5_count 80 = .ok (.getfield 90, 3) := by decide +kernel
theorem dX5_count_83 : decode cX5_count 83 = .ok (.ireturn, 1) := by decide +kernel
theorem dX5_count_84 : decode cX5_count 84 = .ok (.aload_n 0, 1) := by decide +kernel
theorem dX5_count_85 : decode cX5_count 85 = .ok (.getfield 12, 3) := by decide +kernel
theorem dX5_count_88 : decode cX5_count 88 = .ok (.invokevirtual 102, 3) := by decide +kernel
theorem dX5_count_91 : decode cX5_count 91 = .ok (.ireturn, 1) := by decide +kernel
theorem dX5_count_92 : decode cX5_count 92 = .ok (.aload_n 0, 1) := by decide +kernel
theorem dX5_count_93 : decode cX5_count 93 = .ok (.getfield 12, 3) := by decide +kernel
theorem dX5_count_96 : decode cX5_count 96 = .ok (.invokevirtual 106, 3) := by decide +kernel
theorem dX5_count_99 : decode cX5_count 99 = .ok (.ireturn, 1) := by decide +kernel
theorem dX5_count_100 : decode cX5_count 100 = .ok (.aload_n 0, 1) := by decide +kernel
theorem dX5_count_101 : decode cX5_count 101 = .ok (.getfield 12, 3) := by decide +kernel
theorem dX5_count_104 : decode cX5_count 104 = .ok (.invokevirtual 109, 3) := by decide +kernel
theorem dX5_count_107 : decode cX5_count 107 = .ok (.ireturn, 1) := by decide +kernel
theorem dX5_count_108 : decode cX5_count 108 = .ok (.aload_n 0, 1) := by decide +kernel
theorem dX5_count_109 : decode cX5_count 109 = .ok (.getfield 12, 3) := by decide +kernel
theorem dX5_count_112 : decode cX5_count 112 = .ok (.invokevirtual 112, 3) := by decide +kernel
theorem dX5_count_115 : decode cX5_count 115 = .ok (.ireturn, 1) := by decide +kernel
theorem dX5_count_116 : decode cX5_count 116 = .ok (.aload_n 0, 1) := by decide +kernel
theorem dX5_count_117 : decode cX5_count 117 = .ok (.getfield 12, 3) := by decide +kernel
theorem dX5_count_120 : decode cX5_count 120 = .ok (.invokevirtual 115, 3) := by decide +kernel
theorem dX5_count_123 : decode cX5_count 123 = .ok (.ireturn, 1) := by decide +kernel
theorem dX5_count_124 : decode cX5_count 124 = .ok (.aload_n 0, 1) := by decide +kernel
theorem dX5_count_125 : decode cX5_count 125 = .ok (.getfield 12, 3) := by decide +kernel
theorem dX5_count_128 : decode cX5_count 128 = .ok (.getfield 118, 3) := by decide +kernel
theorem dX5_count_131 : decode cX5_count 131 = .ok (.ireturn, 1) := by decide +kernel
theorem dX5_count_132 : decode cX5_count 132 = .ok (.aload_n 0, 1) := by decide +kernel
theorem dX5_count_133 : decode cX5_count 133 = .ok (.getfield 12, 3) := by decide +kernel
theorem dX5_count_136 : decode cX5_count 136 = .ok (.getfield 121, 3) := by decide +kernel
theorem dX5_count_139 : decode cX5_count 139 = .ok (.ireturn, 1) := by decide +kernel
theorem dX5_count_140 : decode cX5_count 140 = .ok (.aload_n 0, 1) := by decide +kernel
theorem dX5_count_141 : decode cX5_count 141 = .ok (.getfield 12, 3) := by decide +kernel
theorem dX5_count_144 : decode cX5_count 144 = .ok (.invokevirtual 124, 3) := by decide +kernel
theorem dX5_count_147 : decode cX5_count 147 = .ok (.ireturn, 1) := by decide +kernel
theorem dX5_count_148 : decode cX5_count 148 = .ok (.new 127, 3) := by decide +kernel
theorem dX5_count_151 : decode cX5_count 151 = .ok (.dup, 1) := by decide +kernel
theorem dX5_count_152 : decode cX5_count 152 = .ok (.ldc 129, 2) := by decide +kernel
theorem dX5_count_154 : decode cX5_count 154 = .ok (.invokespecial 131, 3) := by decide +kernel
theorem dX5_count_157 : decode cX5_count 157 = .ok (.athrow, 1) := by decide +kernel
theorem dX5_family_0 : decode cX5_family 0 = .ok (.aload_n 0, 1) := by decide +kernel
theorem dX5_family_1 : decode cX5_family 1 = .ok (.iload_n 1, 1) := by decide +kernel
theorem dX5_family_2 : decode cX5_family 2 = .ok (.invokevirtual 132, 3) := by decide +kernel
theorem dX5_family_5 : decode cX5_family 5 = .ok (.iload_n 2, 1) := by decide +kernel
theorem dX5_family_6 : decode cX5_family 6 = .ok (.tableswitch 110 0 6 #[42, 52, 62, 71, 81, 91, 100], 42) := by decide +kernel
theorem dX5_family_48 : decode cX5_family 48 = .ok (.aload_n 0, 1) := by decide +kernel
theorem dX5_family_49 : decode cX5_family 49 = .ok (.getfield 12, 3) := by decide +kernel
theorem dX5_family_52 : decode cX5_family 52 = .ok (.getfield 135, 3) := by decide +kernel
theorem dX5_family_55 : decode cX5_family 55 = .ok (.iload_n 1, 1) := by decide +kernel
theorem dX5_family_56 : decode cX5_family 56 = .ok (.iaload, 1) := by decide +kernel
theorem dX5_family_57 : decode cX5_family 57 = .ok (.ireturn, 1) := by decide +kernel
theorem dX5_family_58 : decode cX5_family 58 = .ok (.aload_n 0, 1) := by decide +kernel
theorem dX5_family_59 : decode cX5_family 59 = .ok (.getfield 12, 3) := by decide +kernel
theorem dX5_family_62 : decode cX5_family 62 = .ok (.getfield 139, 3) := by decide +kernel
theorem dX5_family_65 : decode cX5_family 65 = .ok (.iload_n 1, 1) := by decide +kernel
theorem dX5_family_66 : decode cX5_family 66 = .ok (.iaload, 1) := by decide +kernel
theorem dX5_family_67 : decode cX5_family 67 = .ok (.ireturn, 1) := by decide +kernel
theorem dX5_family_68 : decode cX5_family 68 = .ok (.aload_n 0, 1) := by decide +kernel
theorem dX5_family_69 : decode cX5_family 69 = .ok (.getfield 12, 3) := by decide +kernel
theorem dX5_family_72 : decode cX5_family 72 = .ok (.iload_n 1, 1) := by decide +kernel
theorem dX5_family_73 : decode cX5_family 73 = .ok (.invokevirtual 142, 3) := by decide +kernel
theorem dX5_family_76 : decode cX5_family 76 = .ok (.ireturn, 1) := by decide +kernel
theorem dX5_family_77 : decode cX5_family 77 = .ok (.aload_n 0, 1) := by decide +kernel
theorem dX5_family_78 : decode cX5_family 78 = .ok (.getfield 12, 3) := by decide +kernel
theorem dX5_family_81 : decode cX5_family 81 = .ok (.getfield 145, 3) := by decide +kernel
theorem dX5_family_84 : decode cX5_family 84 = .ok (.iload_n 1, 1) := by decide +kernel
theorem dX5_family_85 : decode cX5_family 85 = .ok (.iaload, 1) := by decide +kernel
theorem dX5_family_86 : decode cX5_family 86 = .ok (.ireturn, 1) := by decide +kernel
theorem dX5_family_87 : decode cX5_family 87 = .ok (.aload_n 0, 1) := by decide +kernel
theorem dX5_family_88 : decode cX5_family 88 = .ok (.getfield 12, 3) := by decide +kernel
theorem dX5_family_91 : decode cX5_family 91 = .ok (.getfield 148, 3) := by decide +kernel
theorem dX5_family_94 : decode cX5_family 94 = .ok (.iload_n 1, 1) := by decide +kernel
theorem dX5_family_95 : decode cX5_family 95 = .ok (.iaload, 1) := by decide +kernel
theorem dX5_family_96 : decode cX5_family 96 = .ok (.ireturn, 1) := by decide +kernel
theorem dX5_family_97 : decode cX5_family 97 = .ok (.aload_n 0, 1) := by decide +kernel
theorem dX5_family_98 : decode cX5_family 98 = .ok (.getfield 12, 3) := by decide +kernel
theorem dX5_family_101 : decode cX5_family 101 = .ok (.iload_n 1, 1) := by decide +kernel
theorem dX5_family_102 : decode cX5_family 102 = .ok (.invokevirtual 151, 3) := by decide +kernel
theorem dX5_family_105 : decode cX5_family 105 = .ok (.ireturn, 1) := by decide +kernel
theorem dX5_family_106 : decode cX5_family 106 = .ok (.aload_n 0, 1) := by decide +kernel
theorem dX5_family_107 : decode cX5_family 107 = .ok (.getfield 12, 3) := by decide +kernel
theorem dX5_family_110 : decode cX5_family 110 = .ok (.getfield 154, 3) := by decide +kernel
theorem dX5_family_113 : decode cX5_family 113 = .ok (.iload_n 1, 1) := by decide +kernel
theorem dX5_family_114 : decode cX5_family 114 = .ok (.iaload, 1) := by decide +kernel
theorem dX5_family_115 : decode cX5_family 115 = .ok (.ireturn, 1) := by decide +kernel
theorem dX5_family_116 : decode cX5_family 116 = .ok (.new 127, 3) := by decide +kernel
theorem dX5_family_119 : decode cX5_family 119 = .ok (.dup, 1) := by decide +kernel
theorem dX5_family_120 : decode cX5_family 120 = .ok (.ldc 157, 2) := by decide +kernel
theorem dX5_family_122 : decode cX5_family 122 = .ok (.invokespecial 131, 3) := by decide +kernel
theorem dX5_family_125 : decode cX5_family 125 = .ok (.athrow, 1) := by decide +kernel
theorem dX5_picture_0 : decode cX5_picture 0 = .ok (.aload_n 0, 1) := by decide +kernel
theorem dX5_picture_1 : decode cX5_picture 1 = .ok (.iload_n 1, 1) := by decide +kernel
theorem dX5_picture_2 : decode cX5_picture 2 = .ok (.invokevirtual 159, 3) := by decide +kernel
theorem dX5_picture_5 : decode cX5_picture 5 = .ok (.iload_n 2, 1) := by decide +kernel
theorem dX5_picture_6 : decode cX5_picture 6 = .ok (.tableswitch 111 0 5 #[38, 48, 58, 68, 77, 94], 38) := by decide +kernel
theorem dX5_picture_44 : decode cX5_picture 44 = .ok (.aload_n 0, 1) := by decide +kernel
theorem dX5_picture_45 : decode cX5_picture 45 = .ok (.getfield 12, 3) := by decide +kernel
theorem dX5_picture_48 : decode cX5_picture 48 = .ok (.getfield 162, 3) := by decide +kernel
theorem dX5_picture_51 : decode cX5_picture 51 = .ok (.iload_n 1, 1) := by decide +kernel
theorem dX5_picture_52 : decode cX5_picture 52 = .ok (.iaload, 1) := by decide +kernel
theorem dX5_picture_53 : decode cX5_picture 53 = .ok (.ireturn, 1) := by decide +kernel
theorem dX5_picture_54 : decode cX5_picture 54 = .ok (.aload_n 0, 1) := by decide +kernel
theorem dX5_picture_55 : decode cX5_picture 55 = .ok (.getfield 12, 3) := by decide +kernel
theorem dX5_picture_58 : decode cX5_picture 58 = .ok (.getfield 165, 3) := by decide +kernel
theorem dX5_picture_61 : decode cX5_picture 61 = .ok (.iload_n 1, 1) := by decide +kernel
theorem dX5_picture_62 : decode cX5_picture 62 = .ok (.iaload, 1) := by decide +kernel
theorem dX5_picture_63 : decode cX5_picture 63 = .ok (.ireturn, 1) := by decide +kernel
theorem dX5_picture_64 : decode cX5_picture 64 = .ok (.aload_n 0, 1) := by decide +kernel
theorem dX5_picture_65 : decode cX5_picture 65 = .ok (.getfield 12, 3) := by decide +kernel
theorem dX5_picture_68 : decode cX5_picture 68 = .ok (.getfield 168, 3) := by decide +kernel
theorem dX5_picture_71 : decode cX5_picture 71 = .ok (.iload_n 1, 1) := by decide +kernel
theorem dX5_picture_72 : decode cX5_picture 72 = .ok (.iaload, 1) := by decide +kernel
theorem dX5_picture_73 : decode cX5_picture 73 = .ok (.ireturn, 1) := by decide +kernel
theorem dX5_picture_74 : decode cX5_picture 74 = .ok (.aload_n 0, 1) := by decide +kernel
theorem dX5_picture_75 : decode cX5_picture 75 = .ok (.getfield 12, 3) := by decide +kernel
theorem dX5_picture_78 : decode cX5_picture 78 = .ok (.iload_n 1, 1) := by decide +kernel
theorem dX5_picture_79 : decode cX5_picture 79 = .ok (.invokevirtual 171, 3) := by decide +kernel
theorem dX5_picture_82 : decode cX5_picture 82 = .ok (.ireturn, 1) := by decide +kernel
theorem dX5_picture_83 : decode cX5_picture 83 = .ok (.aload_n 0, 1) := by decide +kernel
theorem dX5_picture_84 : decode cX5_picture 84 = .ok (.getfield 12, 3) := by decide +kernel
theorem dX5_picture_87 : decode cX5_picture 87 = .ok (.iload_n 1, 1) := by decide +kernel
theorem dX5_picture_88 : decode cX5_picture 88 = .ok (.invokevirtual 174, 3) := by decide +kernel
theorem dX5_picture_91 : decode cX5_picture 91 = .ok (.ifCond .eq 7, 3) := by decide +kernel
theorem dX5_picture_94 : decode cX5_picture 94 = .ok (.iconst 1, 1) := by decide +kernel
theorem dX5_picture_95 : decode cX5_picture 95 = .ok (.goto 4, 3) := by decide +kernel
theorem dX5_picture_98 : decode cX5_picture 98 = .ok (.iconst 0, 1) := by decide +kernel
theorem dX5_picture_99 : decode cX5_picture 99 = .ok (.ireturn, 1) := by decide +kernel
theorem dX5_picture_100 : decode cX5_picture 100 = .ok (.aload_n 0, 1) := by decide +kernel
theorem dX5_picture_101 : decode cX5_picture 101 = .ok (.getfield 12, 3) := by decide +kernel
theorem dX5_picture_104 : decode cX5_picture 104 = .ok (.iload_n 1, 1) := by decide +kernel
theorem dX5_picture_105 : decode cX5_picture 105 = .ok (.invokevirtual 178, 3) := by decide +kernel
theorem dX5_picture_108 : decode cX5_picture 108 = .ok (.ifCond .eq 7, 3) := by decide +kernel
theorem dX5_picture_111 : decode cX5_picture 111 = .ok (.iconst 1, 1) := by decide +kernel
theorem dX5_picture_112 : decode cX5_picture 112 = .ok (.goto 4, 3) := by decide +kernel
theorem dX5_picture_115 : decode cX5_picture 115 = .ok (.iconst 0, 1) := by decide +kernel
theorem dX5_picture_116 : decode cX5_picture 116 = .ok (.ireturn, 1) := by decide +kernel
theorem dX5_picture_117 : decode cX5_picture 117 = .ok (.new 127, 3) := by decide +kernel
theorem dX5_picture_120 : decode cX5_picture 120 = .ok (.dup, 1) := by decide +kernel
theorem dX5_picture_121 : decode cX5_picture 121 = .ok (.ldc 181, 2) := by decide +kernel
theorem dX5_picture_123 : decode cX5_picture 123 = .ok (.invokespecial 131, 3) := by decide +kernel
theorem dX5_picture_126 : decode cX5_picture 126 = .ok (.athrow, 1) := by decide +kernel
theorem dX5_copy_0 : decode cX5_copy 0 = .ok (.aload_n 0, 1) := by decide +kernel
theorem dX5_copy_1 : decode cX5_copy 1 = .ok (.iload_n 1, 1) := by decide +kernel
theorem dX5_copy_2 : decode cX5_copy 2 = .ok (.iload_n 2, 1) := by decide +kernel
theorem dX5_copy_3 : decode cX5_copy 3 = .ok (.invokevirtual 183, 3) := by decide +kernel
theorem dX5_copy_6 : decode cX5_copy 6 = .ok (.aload_n 0, 1) := by decide +kernel
theorem dX5_copy_7 : decode cX5_copy 7 = .ok (.getfield 12, 3) := by decide +kernel
theorem dX5_copy_10 : decode cX5_copy 10 = .ok (.iload_n 1, 1) := by decide +kernel
theorem dX5_copy_11 : decode cX5_copy 11 = .ok (.iload_n 2, 1) := by decide +kernel
theorem dX5_copy_12 : decode cX5_copy 12 = .ok (.invokevirtual 187, 3) := by decide +kernel
theorem dX5_copy_15 : decode cX5_copy 15 = .ok (.ifCond .eq 15, 3) := by decide +kernel
theorem dX5_copy_18 : decode cX5_copy 18 = .ok (.aload_n 0, 1) := by decide +kernel
theorem dX5_copy_19 : decode cX5_copy 19 = .ok (.getfield 12, 3) := by decide +kernel
theorem dX5_copy_22 : decode cX5_copy 22 = .ok (.iload_n 1, 1) := by decide +kernel
theorem dX5_copy_23 : decode cX5_copy 23 = .ok (.iload_n 2, 1) := by decide +kernel
theorem dX5_copy_24 : decode cX5_copy 24 = .ok (.invokevirtual 191, 3) := by decide +kernel
theorem dX5_copy_27 : decode cX5_copy 27 = .ok (.goto 4, 3) := by decide +kernel
theorem dX5_copy_30 : decode cX5_copy 30 = .ok (.iconst (-1), 1) := by decide +kernel
theorem dX5_copy_31 : decode cX5_copy 31 = .ok (.ireturn, 1) := by decide +kernel
theorem dX5_why_0 : decode cX5_why 0 = .ok (.aload_n 0, 1) := by decide +kernel
theorem dX5_why_1 : decode cX5_why 1 = .ok (.iload_n 1, 1) := by decide +kernel
theorem dX5_why_2 : decode cX5_why 2 = .ok (.iload_n 2, 1) := by decide +kernel
theorem dX5_why_3 : decode cX5_why 3 = .ok (.invokevirtual 183, 3) := by decide +kernel
theorem dX5_why_6 : decode cX5_why 6 = .ok (.aload_n 0, 1) := by decide +kernel
theorem dX5_why_7 : decode cX5_why 7 = .ok (.getfield 12, 3) := by decide +kernel
theorem dX5_why_10 : decode cX5_why 10 = .ok (.iload_n 1, 1) := by decide +kernel
theorem dX5_why_11 : decode cX5_why 11 = .ok (.iload_n 2, 1) := by decide +kernel
theorem dX5_why_12 : decode cX5_why 12 = .ok (.invokevirtual 187, 3) := by decide +kernel
theorem dX5_why_15 : decode cX5_why 15 = .ok (.ifCond .ne 5, 3) := by decide +kernel
theorem dX5_why_18 : decode cX5_why 18 = .ok (.iconst 1, 1) := by decide +kernel
theorem dX5_why_19 : decode cX5_why 19 = .ok (.ireturn, 1) := by decide +kernel
theorem dX5_why_20 : decode cX5_why 20 = .ok (.aload_n 0, 1) := by decide +kernel
theorem dX5_why_21 : decode cX5_why 21 = .ok (.getfield 12, 3) := by decide +kernel
theorem dX5_why_24 : decode cX5_why 24 = .ok (.iload_n 1, 1) := by decide +kernel
theorem dX5_why_25 : decode cX5_why 25 = .ok (.iload_n 2, 1) := by decide +kernel
theorem dX5_why_26 : decode cX5_why 26 = .ok (.invokevirtual 195, 3) := by decide +kernel
theorem dX5_why_29 : decode cX5_why 29 = .ok (.ifCond .ne 5, 3) := by decide +kernel
theorem dX5_why_32 : decode cX5_why 32 = .ok (.iconst 2, 1) := by decide +kernel
theorem dX5_why_33 : decode cX5_why 33 = .ok (.ireturn, 1) := by decide +kernel
theorem dX5_why_34 : decode cX5_why 34 = .ok (.aload_n 0, 1) := by decide +kernel
theorem dX5_why_35 : decode cX5_why 35 = .ok (.getfield 12, 3) := by decide +kernel
theorem dX5_why_38 : decode cX5_why 38 = .ok (.iload_n 1, 1) := by decide +kernel
theorem dX5_why_39 : decode cX5_why 39 = .ok (.iload_n 2, 1) := by decide +kernel
theorem dX5_why_40 : decode cX5_why 40 = .ok (.invokevirtual 191, 3) := by decide +kernel
theorem dX5_why_43 : decode cX5_why 43 = .ok (.ifCond .ne 7, 3) := by decide +kernel
theorem dX5_why_46 : decode cX5_why 46 = .ok (.iconst 0, 1) := by decide +kernel
theorem dX5_why_47 : decode cX5_why 47 = .ok (.goto 4, 3) := by decide +kernel
theorem dX5_why_50 : decode cX5_why 50 = .ok (.iconst 3, 1) := by decide +kernel
theorem dX5_why_51 : decode cX5_why 51 = .ok (.ireturn, 1) := by decide +kernel
theorem dX5_chance_0 : decode cX5_chance 0 = .ok (.aload_n 0, 1) := by decide +kernel
theorem dX5_chance_1 : decode cX5_chance 1 = .ok (.iload_n 1, 1) := by decide +kernel
theorem dX5_chance_2 : decode cX5_chance 2 = .ok (.iload_n 2, 1) := by decide +kernel
theorem dX5_chance_3 : decode cX5_chance 3 = .ok (.invokevirtual 183, 3) := by decide +kernel
theorem dX5_chance_6 : decode cX5_chance 6 = .ok (.aload_n 0, 1) := by decide +kernel
theorem dX5_chance_7 : decode cX5_chance 7 = .ok (.getfield 12, 3) := by decide +kernel
theorem dX5_chance_10 : decode cX5_chance 10 = .ok (.iload_n 1, 1) := by decide +kernel
theorem dX5_chance_11 : decode cX5_chance 11 = .ok (.iload_n 2, 1) := by decide +kernel
theorem dX5_chance_12 : decode cX5_chance 12 = .ok (.invokevirtual 195, 3) := by decide +kernel
theorem dX5_chance_15 : decode cX5_chance 15 = .ok (.ifCond .ne 13, 3) := by decide +kernel
theorem dX5_chance_18 : decode cX5_chance 18 = .ok (.new 66, 3) := by decide +kernel
theorem dX5_chance_21 : decode cX5_chance 21 = .ok (.dup, 1) := by decide +kernel
theorem dX5_chance_22 : decode cX5_chance 22 = .ok (.ldc 198, 2) := by decide +kernel
theorem dX5_chance_24 : decode cX5_chance 24 = .ok (.invokespecial 70, 3) := by decide +kernel
theorem dX5_chance_27 : decode cX5_chance 27 = .ok (.athrow, 1) := by decide +kernel
theorem dX5_chance_28 : decode cX5_chance 28 = .ok (.iload_n 3, 1) := by decide +kernel
theorem dX5_chance_29 : decode cX5_chance 29 = .ok (.ifCond .lt 14, 3) := by decide +kernel
theorem dX5_chance_32 : decode cX5_chance 32 = .ok (.iload_n 3, 1) := by decide +kernel
theorem dX5_chance_33 : decode cX5_chance 33 = .ok (.aload_n 0, 1) := by decide +kernel
theorem dX5_chance_34 : decode cX5_chance 34 = .ok (.getfield 12, 3) := by decide +kernel
theorem dX5_chance_37 : decode cX5_chance 37 = .ok (.getfield 96, 3) := by decide +kernel
theorem dX5_chance_40 : decode cX5_chance 40 = .ok (.if_icmp .le 13, 3) := by decide +kernel
theorem dX5_chance_43 : decode cX5_chance 43 = .ok (.new 127, 3) := by decide +kernel
theorem dX5_chance_46 : decode cX5_chance 46 = .ok (.dup, 1) := by decide +kernel
theorem dX5_chance_47 : decode cX5_chance 47 = .ok (.ldc 200, 2) := by decide +kernel
theorem dX5_chance_49 : decode cX5_chance 49 = .ok (.invokespecial 131, 3) := by decide +kernel
theorem dX5_chance_52 : decode cX5_chance 52 = .ok (.athrow, 1) := by decide +kernel
theorem dX5_chance_53 : decode cX5_chance 53 = .ok (.dconst 1, 1) := by decide +kernel
theorem dX5_chance_54 : decode cX5_chance 54 = .ok (.aload_n 0, 1) := by decide +kernel
theorem dX5_chance_55 : decode cX5_chance 55 = .ok (.getfield 12, 3) := by decide +kernel
theorem dX5_chance_58 : decode cX5_chance 58 = .ok (.iload_n 1, 1) := by decide +kernel
theorem dX5_chance_59 : decode cX5_chance 59 = .ok (.iload_n 2, 1) := by decide +kernel
theorem dX5_chance_60 : decode cX5_chance 60 = .ok (.iload_n 3, 1) := by decide +kernel
theorem dX5_chance_61 : decode cX5_chance 61 = .ok (.invokevirtual 202, 3) := by decide +kernel
theorem dX5_chance_64 : decode cX5_chance 64 = .ok (.dsub, 1) := by decide +kernel
theorem dX5_chance_65 : decode cX5_chance 65 = .ok (.dreturn, 1) := by decide +kernel
theorem dX5_bestTile_0 : decode cX5_bestTile 0 = .ok (.aload_n 0, 1) := by decide +kernel
theorem dX5_bestTile_1 : decode cX5_bestTile 1 = .ok (.iload_n 1, 1) := by decide +kernel
theorem dX5_bestTile_2 : decode cX5_bestTile 2 = .ok (.invokevirtual 159, 3) := by decide +kernel
theorem dX5_bestTile_5 : decode cX5_bestTile 5 = .ok (.aload_n 0, 1) := by decide +kernel
theorem dX5_bestTile_6 : decode cX5_bestTile 6 = .ok (.getfield 12, 3) := by decide +kernel
theorem dX5_bestTile_9 : decode cX5_bestTile 9 = .ok (.iload_n 1, 1) := by decide +kernel
theorem dX5_bestTile_10 : decode cX5_bestTile 10 = .ok (.invokevirtual 206, 3) := by decide +kernel
theorem dX5_bestTile_13 : decode cX5_bestTile 13 = .ok (.ireturn, 1) := by decide +kernel
theorem dX5_roundsToFind_0 : decode cX5_roundsToFind 0 = .ok (.iload_n 1, 1) := by decide +kernel
theorem dX5_roundsToFind_1 : decode cX5_roundsToFind 1 = .ok (.invokestatic 209, 3) := by decide +kernel
theorem dX5_roundsToFind_4 : decode cX5_roundsToFind 4 = .ok (.aload_n 0, 1) := by decide +kernel
theorem dX5_roundsToFind_5 : decode cX5_roundsToFind 5 = .ok (.getfield 16, 3) := by decide +kernel
theorem dX5_roundsToFind_8 : decode cX5_roundsToFind 8 = .ok (.aload_n 0, 1) := by decide +kernel
theorem dX5_roundsToFind_9 : decode cX5_roundsToFind 9 = .ok (.getfield 12, 3) := by decide +kernel
theorem dX5_roundsToFind_12 : decode cX5_roundsToFind 12 = .ok (.invokevirtual 87, 3) := by decide +kernel
theorem dX5_roundsToFind_15 : decode cX5_roundsToFind 15 = .ok (.iload_n 1, 1) := by decide +kernel
theorem dX5_roundsToFind_16 : decode cX5_roundsToFind 16 = .ok (.istore_n 2, 1) := by decide +kernel
theorem dX5_roundsToFind_17 : decode cX5_roundsToFind 17 = .ok (.iconst 0, 1) := by decide +kernel
theorem dX5_roundsToFind_18 : decode cX5_roundsToFind 18 = .ok (.istore_n 3, 1) := by decide +kernel
theorem dX5_roundsToFind_19 : decode cX5_roundsToFind 19 = .ok (.iload_n 3, 1) := by decide +kernel
theorem dX5_roundsToFind_20 : decode cX5_roundsToFind 20 = .ok (.bipush 60, 2) := by decide +kernel
theorem dX5_roundsToFind_22 : decode cX5_roundsToFind 22 = .ok (.if_icmp .ge 30, 3) := by decide +kernel
theorem dX5_roundsToFind_25 : decode cX5_roundsToFind 25 = .ok (.aload_n 0, 1) := by decide +kernel
theorem dX5_roundsToFind_26 : decode cX5_roundsToFind 26 = .ok (.getfield 16, 3) := by decide +kernel
theorem dX5_roundsToFind_29 : decode cX5_roundsToFind 29 = .ok (.invokevirtual 109, 3) := by decide +kernel
theorem dX5_roundsToFind_32 : decode cX5_roundsToFind 32 = .ok (.ifCond .ne 5, 3) := by decide +kernel
theorem dX5_roundsToFind_35 : decode cX5_roundsToFind 35 = .ok (.iload_n 3, 1) := by decide +kernel
theorem dX5_roundsToFind_36 : decode cX5_roundsToFind 36 = .ok (.ireturn, 1) := by decide +kernel
theorem dX5_roundsToFind_37 : decode cX5_roundsToFind 37 = .ok (.aload_n 0, 1) := by decide +kernel
theorem dX5_roundsToFind_38 : decode cX5_roundsToFind 38 = .ok (.getfield 16, 3) := by decide +kernel
theorem dX5_roundsToFind_41 : decode cX5_roundsToFind 41 = .ok (.iload_n 2, 1) := by decide +kernel
theorem dX5_roundsToFind_42 : decode cX5_roundsToFind 42 = .ok (.invokevirtual 212, 3) := by decide +kernel
theorem dX5_roundsToFind_45 : decode cX5_roundsToFind 45 = .ok (.istore_n 2, 1) := by decide +kernel
theorem dX5_roundsToFind_46 : decode cX5_roundsToFind 46 = .ok (.iinc 3 1, 3) := by decide +kernel
theorem dX5_roundsToFind_49 : decode cX5_roundsToFind 49 = .ok (.goto (-30), 3) := by decide +kernel
theorem dX5_roundsToFind_52 : decode cX5_roundsToFind 52 = .ok (.aload_n 0, 1) := by decide +kernel
theorem dX5_roundsToFind_53 : decode cX5_roundsToFind 53 = .ok (.getfield 16, 3) := by decide +kernel
theorem dX5_roundsToFind_56 : decode cX5_roundsToFind 56 = .ok (.invokevirtual 109, 3) := by decide +kernel
theorem dX5_roundsToFind_59 : decode cX5_roundsToFind 59 = .ok (.ifCond .ne 8, 3) := by decide +kernel
theorem dX5_roundsToFind_62 : decode cX5_roundsToFind 62 = .ok (.bipush 60, 2) := by decide +kernel
theorem dX5_roundsToFind_64 : decode cX5_roundsToFind 64 = .ok (.goto 4, 3) := by decide +kernel
theorem dX5_roundsToFind_67 : decode cX5_roundsToFind 67 = .ok (.iconst (-1), 1) := by decide +kernel
theorem dX5_roundsToFind_68 : decode cX5_roundsToFind 68 = .ok (.ireturn, 1) := by decide +kernel
theorem dX5_leastTrusted_0 : decode cX5_leastTrusted 0 = .ok (.iconst 0, 1) := by decide +kernel
theorem dX5_leastTrusted_1 : decode cX5_leastTrusted 1 = .ok (.istore_n 1, 1) := by decide +kernel
theorem dX5_leastTrusted_2 : decode cX5_leastTrusted 2 = .ok (.iconst 1, 1) := by decide +kernel
theorem dX5_leastTrusted_3 : decode cX5_leastTrusted 3 = .ok (.istore_n 2, 1) := by decide +kernel
theorem dX5_leastTrusted_4 : decode cX5_leastTrusted 4 = .ok (.iload_n 2, 1) := by decide +kernel
theorem dX5_leastTrusted_5 : decode cX5_leastTrusted 5 = .ok (.aload_n 0, 1) := by decide +kernel
theorem dX5_leastTrusted_6 : decode cX5_leastTrusted 6 = .ok (.getfield 12, 3) := by decide +kernel
theorem dX5_leastTrusted_9 : decode cX5_leastTrusted 9 = .ok (.getfield 99, 3) := by decide +kernel
theorem dX5_leastTrusted_12 : decode cX5_leastTrusted 12 = .ok (.if_icmp .ge 30, 3) := by decide +kernel
theorem dX5_leastTrusted_15 : decode cX5_leastTrusted 15 = .ok (.aload_n 0, 1) := by decide +kernel
theorem dX5_leastTrusted_16 : decode cX5_leastTrusted 16 = .ok (.getfield 12, 3) := by decide +kernel
theorem dX5_leastTrusted_19 : decode cX5_leastTrusted 19 = .ok (.iload_n 2, 1) := by decide +kernel
theorem dX5_leastTrusted_20 : decode cX5_leastTrusted 20 = .ok (.invokevirtual 151, 3) := by decide +kernel
theorem dX5_leastTrusted_23 : decode cX5_leastTrusted 23 = .ok (.aload_n 0, 1) := by decide +kernel
theorem dX5_leastTrusted_24 : decode cX5_leastTrusted 24 = .ok (.getfield 12, 3) := by decide +kernel
theorem dX5_leastTrusted_27 : decode cX5_leastTrusted 27 = .ok (.iload_n 1, 1) := by decide +kernel
theorem dX5_leastTrusted_28 : decode cX5_leastTrusted 28 = .ok (.invokevirtual 151, 3) := by decide +kernel
theorem dX5_leastTrusted_31 : decode cX5_leastTrusted 31 = .ok (.if_icmp .ge 5, 3) := by decide +kernel
theorem dX5_leastTrusted_34 : decode cX5_leastTrusted 34 = .ok (.iload_n 2, 1) := by decide +kernel
theorem dX5_leastTrusted_35 : decode cX5_leastTrusted 35 = .ok (.istore_n 1, 1) := by decide +kernel
theorem dX5_leastTrusted_36 : decode cX5_leastTrusted 36 = .ok (.iinc 2 1, 3) := by decide +kernel
theorem dX5_leastTrusted_39 : decode cX5_leastTrusted 39 = .ok (.goto (-35), 3) := by decide +kernel
theorem dX5_leastTrusted_42 : decode cX5_leastTrusted 42 = .ok (.iload_n 1, 1) := by decide +kernel
theorem dX5_leastTrusted_43 : decode cX5_leastTrusted 43 = .ok (.ireturn, 1) := by decide +kernel
theorem dX5_sources_0 : decode cX5_sources 0 = .ok (.aload_n 0, 1) := by decide +kernel
theorem dX5_sources_1 : decode cX5_sources 1 = .ok (.iload_n 1, 1) := by decide +kernel
theorem dX5_sources_2 : decode cX5_sources 2 = .ok (.iload_n 2, 1) := by decide +kernel
theorem dX5_sources_3 : decode cX5_sources 3 = .ok (.invokevirtual 183, 3) := by decide +kernel
theorem dX5_sources_6 : decode cX5_sources 6 = .ok (.aload_n 0, 1) := by decide +kernel
theorem dX5_sources_7 : decode cX5_sources 7 = .ok (.getfield 12, 3) := by decide +kernel
theorem dX5_sources_10 : decode cX5_sources 10 = .ok (.iload_n 1, 1) := by decide +kernel
theorem dX5_sources_11 : decode cX5_sources 11 = .ok (.iload_n 2, 1) := by decide +kernel
theorem dX5_sources_12 : decode cX5_sources 12 = .ok (.invokevirtual 215, 3) := by decide +kernel
theorem dX5_sources_15 : decode cX5_sources 15 = .ok (.ireturn, 1) := by decide +kernel
theorem dX5_wouldGet_0 : decode cX5_wouldGet 0 = .ok (.aload_n 0, 1) := by decide +kernel
theorem dX5_wouldGet_1 : decode cX5_wouldGet 1 = .ok (.iload_n 1, 1) := by decide +kernel
theorem dX5_wouldGet_2 : decode cX5_wouldGet 2 = .ok (.iload_n 2, 1) := by decide +kernel
theorem dX5_wouldGet_3 : decode cX5_wouldGet 3 = .ok (.invokevirtual 183, 3) := by decide +kernel
theorem dX5_wouldGet_6 : decode cX5_wouldGet 6 = .ok (.aload_n 0, 1) := by decide +kernel
theorem dX5_wouldGet_7 : decode cX5_wouldGet 7 = .ok (.getfield 12, 3) := by decide +kernel
theorem dX5_wouldGet_10 : decode cX5_wouldGet 10 = .ok (.iload_n 1, 1) := by decide +kernel
theorem dX5_wouldGet_11 : decode cX5_wouldGet 11 = .ok (.iload_n 2, 1) := by decide +kernel
theorem dX5_wouldGet_12 : decode cX5_wouldGet 12 = .ok (.invokevirtual 215, 3) := by decide +kernel
theorem dX5_wouldGet_15 : decode cX5_wouldGet 15 = .ok (.istore_n 3, 1) := by decide +kernel
theorem dX5_wouldGet_16 : decode cX5_wouldGet 16 = .ok (.iload_n 3, 1) := by decide +kernel
theorem dX5_wouldGet_17 : decode cX5_wouldGet 17 = .ok (.ifCond .ne 7, 3) := by decide +kernel
theorem dX5_wouldGet_20 : decode cX5_wouldGet 20 = .ok (.iconst (-1), 1) := by decide +kernel
theorem dX5_wouldGet_21 : decode cX5_wouldGet 21 = .ok (.goto 12, 3) := by decide +kernel
theorem dX5_wouldGet_24 : decode cX5_wouldGet 24 = .ok (.aload_n 0, 1) := by decide +kernel
theorem dX5_wouldGet_25 : decode cX5_wouldGet 25 = .ok (.getfield 12, 3) := by decide +kernel
theorem dX5_wouldGet_28 : decode cX5_wouldGet 28 = .ok (.iload_n 1, 1) := by decide +kernel
theorem dX5_wouldGet_29 : decode cX5_wouldGet 29 = .ok (.iload_n 3, 1) := by decide +kernel
theorem dX5_wouldGet_30 : decode cX5_wouldGet 30 = .ok (.invokevirtual 218, 3) := by decide +kernel
theorem dX5_wouldGet_33 : decode cX5_wouldGet 33 = .ok (.ireturn, 1) := by decide +kernel
theorem dX5_waves_0 : decode cX5_waves 0 = .ok (.aload_n 0, 1) := by decide +kernel
theorem dX5_waves_1 : decode cX5_waves 1 = .ok (.getfield 16, 3) := by decide +kernel
theorem dX5_waves_4 : decode cX5_waves 4 = .ok (.aload_n 0, 1) := by decide +kernel
theorem dX5_waves_5 : decode cX5_waves 5 = .ok (.getfield 12, 3) := by decide +kernel
theorem dX5_waves_8 : decode cX5_waves 8 = .ok (.invokevirtual 87, 3) := by decide +kernel
theorem dX5_waves_11 : decode cX5_waves 11 = .ok (.aload_n 0, 1) := by decide +kernel
theorem dX5_waves_12 : decode cX5_waves 12 = .ok (.getfield 16, 3) := by decide +kernel
theorem dX5_waves_15 : decode cX5_waves 15 = .ok (.invokevirtual 221, 3) := by decide +kernel
theorem dX5_waves_18 : decode cX5_waves 18 = .ok (.ireturn, 1) := by decide +kernel
theorem dX5_lost_0 : decode cX5_lost 0 = .ok (.aload_n 0, 1) := by decide +kernel
theorem dX5_lost_1 : decode cX5_lost 1 = .ok (.getfield 16, 3) := by decide +kernel
theorem dX5_lost_4 : decode cX5_lost 4 = .ok (.aload_n 0, 1) := by decide +kernel
theorem dX5_lost_5 : decode cX5_lost 5 = .ok (.getfield 12, 3) := by decide +kernel
theorem dX5_lost_8 : decode cX5_lost 8 = .ok (.invokevirtual 87, 3) := by decide +kernel
theorem dX5_lost_11 : decode cX5_lost 11 = .ok (.aload_n 0, 1) := by decide +kernel
theorem dX5_lost_12 : decode cX5_lost 12 = .ok (.getfield 16, 3) := by decide +kernel
theorem dX5_lost_15 : decode cX5_lost 15 = .ok (.invokevirtual 221, 3) := by decide +kernel
theorem dX5_lost_18 : decode cX5_lost 18 = .ok (.pop, 1) := by decide +kernel
theorem dX5_lost_19 : decode cX5_lost 19 = .ok (.aload_n 0, 1) := by decide +kernel
theorem dX5_lost_20 : decode cX5_lost 20 = .ok (.getfield 16, 3) := by decide +kernel
theorem dX5_lost_23 : decode cX5_lost 23 = .ok (.invokevirtual 106, 3) := by decide +kernel
theorem dX5_lost_26 : decode cX5_lost 26 = .ok (.ireturn, 1) := by decide +kernel
theorem dX5_depends_0 : decode cX5_depends 0 = .ok (.aload_n 0, 1) := by decide +kernel
theorem dX5_depends_1 : decode cX5_depends 1 = .ok (.iload_n 1, 1) := by decide +kernel
theorem dX5_depends_2 : decode cX5_depends 2 = .ok (.invokevirtual 159, 3) := by decide +kernel
theorem dX5_depends_5 : decode cX5_depends 5 = .ok (.aload_n 0, 1) := by decide +kernel
theorem dX5_depends_6 : decode cX5_depends 6 = .ok (.getfield 12, 3) := by decide +kernel
theorem dX5_depends_9 : decode cX5_depends 9 = .ok (.iload_n 1, 1) := by decide +kernel
theorem dX5_depends_10 : decode cX5_depends 10 = .ok (.invokevirtual 224, 3) := by decide +kernel
theorem dX5_depends_13 : decode cX5_depends 13 = .ok (.ireturn, 1) := by decide +kernel
theorem dX5_mostNeeded_0 : decode cX5_mostNeeded 0 = .ok (.iconst (-1), 1) := by decide +kernel
theorem dX5_mostNeeded_1 : decode cX5_mostNeeded 1 = .ok (.istore_n 1, 1) := by decide +kernel
theorem dX5_mostNeeded_2 : decode cX5_mostNeeded 2 = .ok (.iconst 0, 1) := by decide +kernel
theorem dX5_mostNeeded_3 : decode cX5_mostNeeded 3 = .ok (.istore_n 2, 1) := by decide +kernel
theorem dX5_mostNeeded_4 : decode cX5_mostNeeded 4 = .ok (.iconst 0, 1) := by decide +kernel
theorem dX5_mostNeeded_5 : decode cX5_mostNeeded 5 = .ok (.istore_n 3, 1) := by decide +kernel
theorem dX5_mostNeeded_6 : decode cX5_mostNeeded 6 = .ok (.iload_n 3, 1) := by decide +kernel
theorem dX5_mostNeeded_7 : decode cX5_mostNeeded 7 = .ok (.aload_n 0, 1) := by decide +kernel
theorem dX5_mostNeeded_8 : decode cX5_mostNeeded 8 = .ok (.getfield 12, 3) := by decide +kernel
theorem dX5_mostNeeded_11 : decode cX5_mostNeeded 11 = .ok (.getfield 99, 3) := by decide +kernel
theorem dX5_mostNeeded_14 : decode cX5_mostNeeded 14 = .ok (.if_icmp .ge 30, 3) := by decide +kernel
theorem dX5_mostNeeded_17 : decode cX5_mostNeeded 17 = .ok (.aload_n 0, 1) := by decide +kernel
theorem dX5_mostNeeded_18 : decode cX5_mostNeeded 18 = .ok (.getfield 12, 3) := by decide +kernel
theorem dX5_mostNeeded_21 : decode cX5_mostNeeded 21 = .ok (.iload_n 3, 1) := by decide +kernel
theorem dX5_mostNeeded_22 : decode cX5_mostNeeded 22 = .ok (.invokevirtual 227, 3) := by decide +kernel
theorem dX5_mostNeeded_25 : decode cX5_mostNeeded 25 = .ok (.istore 4, 2) := by decide +kernel
theorem dX5_mostNeeded_27 : decode cX5_mostNeeded 27 = .ok (.iload 4, 2) := by decide +kernel
theorem dX5_mostNeeded_29 : decode cX5_mostNeeded 29 = .ok (.iload_n 2, 1) := by decide +kernel
theorem dX5_mostNeeded_30 : decode cX5_mostNeeded 30 = .ok (.if_icmp .le 8, 3) := by decide +kernel
theorem dX5_mostNeeded_33 : decode cX5_mostNeeded 33 = .ok (.iload 4, 2) := by decide +kernel
theorem dX5_mostNeeded_35 : decode cX5_mostNeeded 35 = .ok (.istore_n 2, 1) := by decide +kernel
theorem dX5_mostNeeded_36 : decode cX5_mostNeeded 36 = .ok (.iload_n 3, 1) := by decide +kernel
theorem dX5_mostNeeded_37 : decode cX5_mostNeeded 37 = .ok (.istore_n 1, 1) := by decide +kernel
theorem dX5_mostNeeded_38 : decode cX5_mostNeeded 38 = .ok (.iinc 3 1, 3) := by decide +kernel
theorem dX5_mostNeeded_41 : decode cX5_mostNeeded 41 = .ok (.goto (-35), 3) := by decide +kernel
theorem dX5_mostNeeded_44 : decode cX5_mostNeeded 44 = .ok (.iload_n 1, 1) := by decide +kernel
theorem dX5_mostNeeded_45 : decode cX5_mostNeeded 45 = .ok (.ireturn, 1) := by decide +kernel
theorem dX5_reach_0 : decode cX5_reach 0 = .ok (.aload_n 0, 1) := by decide +kernel
theorem dX5_reach_1 : decode cX5_reach 1 = .ok (.iload_n 1, 1) := by decide +kernel
theorem dX5_reach_2 : decode cX5_reach 2 = .ok (.invokevirtual 159, 3) := by decide +kernel
theorem dX5_reach_5 : decode cX5_reach 5 = .ok (.aload_n 0, 1) := by decide +kernel
theorem dX5_reach_6 : decode cX5_reach 6 = .ok (.getfield 12, 3) := by decide +kernel
theorem dX5_reach_9 : decode cX5_reach 9 = .ok (.aload_n 0, 1) := by decide +kernel
theorem dX5_reach_10 : decode cX5_reach 10 = .ok (.getfield 12, 3) := by decide +kernel
theorem dX5_reach_13 : decode cX5_reach 13 = .ok (.getfield 165, 3) := by decide +kernel
theorem dX5_reach_16 : decode cX5_reach 16 = .ok (.iload_n 1, 1) := by decide +kernel
theorem dX5_reach_17 : decode cX5_reach 17 = .ok (.iaload, 1) := by decide +kernel
theorem dX5_reach_18 : decode cX5_reach 18 = .ok (.invokevirtual 230, 3) := by decide +kernel
theorem dX5_reach_21 : decode cX5_reach 21 = .ok (.invokestatic 233, 3) := by decide +kernel
theorem dX5_reach_24 : decode cX5_reach 24 = .ok (.ireturn, 1) := by decide +kernel
theorem dX5_wouldSpread_0 : decode cX5_wouldSpread 0 = .ok (.aload_n 0, 1) := by decide +kernel
theorem dX5_wouldSpread_1 : decode cX5_wouldSpread 1 = .ok (.getfield 16, 3) := by decide +kernel
theorem dX5_wouldSpread_4 : decode cX5_wouldSpread 4 = .ok (.aload_n 0, 1) := by decide +kernel
theorem dX5_wouldSpread_5 : decode cX5_wouldSpread 5 = .ok (.getfield 12, 3) := by decide +kernel
theorem dX5_wouldSpread_8 : decode cX5_wouldSpread 8 = .ok (.invokevirtual 87, 3) := by decide +kernel
theorem dX5_wouldSpread_11 : decode cX5_wouldSpread 11 = .ok (.aload_n 0, 1) := by decide +kernel
theorem dX5_wouldSpread_12 : decode cX5_wouldSpread 12 = .ok (.getfield 16, 3) := by decide +kernel
theorem dX5_wouldSpread_15 : decode cX5_wouldSpread 15 = .ok (.invokevirtual 238, 3) := by decide +kernel
theorem dX5_wouldSpread_18 : decode cX5_wouldSpread 18 = .ok (.ireturn, 1) := by decide +kernel
theorem dX5_bestPair_0 : decode cX5_bestPair 0 = .ok (.aload_n 0, 1) := by decide +kernel
theorem dX5_bestPair_1 : decode cX5_bestPair 1 = .ok (.getfield 16, 3) := by decide +kernel
theorem dX5_bestPair_4 : decode cX5_bestPair 4 = .ok (.aload_n 0, 1) := by decide +kernel
theorem dX5_bestPair_5 : decode cX5_bestPair 5 = .ok (.getfield 12, 3) := by decide +kernel
theorem dX5_bestPair_8 : decode cX5_bestPair 8 = .ok (.invokevirtual 87, 3) := by decide +kernel
theorem dX5_bestPair_11 : decode cX5_bestPair 11 = .ok (.aload_n 0, 1) := by decide +kernel
theorem dX5_bestPair_12 : decode cX5_bestPair 12 = .ok (.getfield 16, 3) := by decide +kernel
theorem dX5_bestPair_15 : decode cX5_bestPair 15 = .ok (.invokevirtual 241, 3) := by decide +kernel
theorem dX5_bestPair_18 : decode cX5_bestPair 18 = .ok (.istore_n 1, 1) := by decide +kernel
theorem dX5_bestPair_19 : decode cX5_bestPair 19 = .ok (.iconst (-1), 1) := by decide +kernel
theorem dX5_bestPair_20 : decode cX5_bestPair 20 = .ok (.istore_n 2, 1) := by decide +kernel
theorem dX5_bestPair_21 : decode cX5_bestPair 21 = .ok (.iconst 0, 1) := by decide +kernel
theorem dX5_bestPair_22 : decode cX5_bestPair 22 = .ok (.istore_n 3, 1) := by decide +kernel
theorem dX5_bestPair_23 : decode cX5_bestPair 23 = .ok (.iload_n 3, 1) := by decide +kernel
theorem dX5_bestPair_24 : decode cX5_bestPair 24 = .ok (.aload_n 0, 1) := by decide +kernel
theorem dX5_bestPair_25 : decode cX5_bestPair 25 = .ok (.getfield 12, 3) := by decide +kernel
theorem dX5_bestPair_28 : decode cX5_bestPair 28 = .ok (.getfield 99, 3) := by decide +kernel
theorem dX5_bestPair_31 : decode cX5_bestPair 31 = .ok (.if_icmp .ge 95, 3) := by decide +kernel
theorem dX5_bestPair_34 : decode cX5_bestPair 34 = .ok (.iload_n 3, 1) := by decide +kernel
theorem dX5_bestPair_35 : decode cX5_bestPair 35 = .ok (.iconst 1, 1) := by decide +kernel
theorem dX5_bestPair_36 : decode cX5_bestPair 36 = .ok (.iadd, 1) := by decide +kernel
theorem dX5_bestPair_37 : decode cX5_bestPair 37 = .ok (.istore 4, 2) := by decide +kernel
theorem dX5_bestPair_39 : decode cX5_bestPair 39 = .ok (.iload 4, 2) := by decide +kernel
theorem dX5_bestPair_41 : decode cX5_bestPair 41 = .ok (.aload_n 0, 1) := by decide +kernel
theorem dX5_bestPair_42 : decode cX5_bestPair 42 = .ok (.getfield 12, 3) := by decide +kernel
theorem dX5_bestPair_45 : decode cX5_bestPair 45 = .ok (.getfield 99, 3) := by decide +kernel
theorem dX5_bestPair_48 : decode cX5_bestPair 48 = .ok (.if_icmp .ge 72, 3) := by decide +kernel
theorem dX5_bestPair_51 : decode cX5_bestPair 51 = .ok (.aload_n 0, 1) := by decide +kernel
theorem dX5_bestPair_52 : decode cX5_bestPair 52 = .ok (.getfield 12, 3) := by decide +kernel
theorem dX5_bestPair_55 : decode cX5_bestPair 55 = .ok (.iload_n 3, 1) := by decide +kernel
theorem dX5_bestPair_56 : decode cX5_bestPair 56 = .ok (.iload 4, 2) := by decide +kernel
theorem dX5_bestPair_58 : decode cX5_bestPair 58 = .ok (.invokevirtual 244, 3) := by decide +kernel
theorem dX5_bestPair_61 : decode cX5_bestPair 61 = .ok (.ifCond .eq 6, 3) := by decide +kernel
theorem dX5_bestPair_64 : decode cX5_bestPair 64 = .ok (.goto 50, 3) := by decide +kernel
theorem dX5_bestPair_67 : decode cX5_bestPair 67 = .ok (.aload_n 0, 1) := by decide +kernel
theorem dX5_bestPair_68 : decode cX5_bestPair 68 = .ok (.getfield 16, 3) := by decide +kernel
theorem dX5_bestPair_71 : decode cX5_bestPair 71 = .ok (.aload_n 0, 1) := by decide +kernel
theorem dX5_bestPair_72 : decode cX5_bestPair 72 = .ok (.getfield 12, 3) := by decide +kernel
theorem dX5_bestPair_75 : decode cX5_bestPair 75 = .ok (.invokevirtual 87, 3) := by decide +kernel
theorem dX5_bestPair_78 : decode cX5_bestPair 78 = .ok (.aload_n 0, 1) := by decide +kernel
theorem dX5_bestPair_79 : decode cX5_bestPair 79 = .ok (.getfield 16, 3) := by decide +kernel
theorem dX5_bestPair_82 : decode cX5_bestPair 82 = .ok (.iload_n 3, 1) := by decide +kernel
theorem dX5_bestPair_83 : decode cX5_bestPair 83 = .ok (.iload 4, 2) := by decide +kernel
theorem dX5_bestPair_85 : decode cX5_bestPair 85 = .ok (.invokevirtual 247, 3) := by decide +kernel
theorem dX5_bestPair_88 : decode cX5_bestPair 88 = .ok (.aload_n 0, 1) := by decide +kernel
theorem dX5_bestPair_89 : decode cX5_bestPair 89 = .ok (.getfield 16, 3) := by decide +kernel
theorem dX5_bestPair_92 : decode cX5_bestPair 92 = .ok (.invokevirtual 241, 3) := by decide +kernel
theorem dX5_bestPair_95 : decode cX5_bestPair 95 = .ok (.istore 5, 2) := by decide +kernel
theorem dX5_bestPair_97 : decode cX5_bestPair 97 = .ok (.iload 5, 2) := by decide +kernel
theorem dX5_bestPair_99 : decode cX5_bestPair 99 = .ok (.iload_n 1, 1) := by decide +kernel
theorem dX5_bestPair_100 : decode cX5_bestPair 100 = .ok (.if_icmp .ge 14, 3) := by decide +kernel
theorem dX5_bestPair_103 : decode cX5_bestPair 103 = .ok (.iload 5, 2) := by decide +kernel
theorem dX5_bestPair_105 : decode cX5_bestPair 105 = .ok (.istore_n 1, 1) := by decide +kernel
theorem dX5_bestPair_106 : decode cX5_bestPair 106 = .ok (.bipush 10, 2) := by decide +kernel
theorem dX5_bestPair_108 : decode cX5_bestPair 108 = .ok (.iload_n 3, 1) := by decide +kernel
theorem dX5_bestPair_109 : decode cX5_bestPair 109 = .ok (.imul, 1) := by decide +kernel
theorem dX5_bestPair_110 : decode cX5_bestPair 110 = .ok (.iload 4, 2) := by decide +kernel
theorem dX5_bestPair_112 : decode cX5_bestPair 112 = .ok (.iadd, 1) := by decide +kernel
theorem dX5_bestPair_113 : decode cX5_bestPair 113 = .ok (.istore_n 2, 1) := by decide +kernel
theorem dX5_bestPair_114 : decode cX5_bestPair 114 = .ok (.iinc 4 1, 3) := by decide +kernel
theorem dX5_bestPair_117 : decode cX5_bestPair 117 = .ok (.goto (-78), 3) := by decide +kernel
theorem dX5_bestPair_120 : decode cX5_bestPair 120 = .ok (.iinc 3 1, 3) := by decide +kernel
theorem dX5_bestPair_123 : decode cX5_bestPair 123 = .ok (.goto (-100), 3) := by decide +kernel
theorem dX5_bestPair_126 : decode cX5_bestPair 126 = .ok (.iload_n 2, 1) := by decide +kernel
theorem dX5_bestPair_127 : decode cX5_bestPair 127 = .ok (.ireturn, 1) := by decide +kernel
theorem dX5_soundness_0 : decode cX5_soundness 0 = .ok (.aload_n 0, 1) := by decide +kernel
theorem dX5_soundness_1 : decode cX5_soundness 1 = .ok (.getfield 12, 3) := by decide +kernel
theorem dX5_soundness_4 : decode cX5_soundness 4 = .ok (.invokevirtual 250, 3) := by decide +kernel
theorem dX5_soundness_7 : decode cX5_soundness 7 = .ok (.istore_n 1, 1) := by decide +kernel
theorem dX5_soundness_8 : decode cX5_soundness 8 = .ok (.iload_n 1, 1) := by decide +kernel
theorem dX5_soundness_9 : decode cX5_soundness 9 = .ok (.ifCond .ne 5, 3) := by decide +kernel
theorem dX5_soundness_12 : decode cX5_soundness 12 = .ok (.fconst 0, 1) := by decide +kernel
theorem dX5_soundness_13 : decode cX5_soundness 13 = .ok (.freturn, 1) := by decide +kernel
theorem dX5_soundness_14 : decode cX5_soundness 14 = .ok (.iload_n 1, 1) := by decide +kernel
theorem dX5_soundness_15 : decode cX5_soundness 15 = .ok (.aload_n 0, 1) := by decide +kernel
theorem dX5_soundness_16 : decode cX5_soundness 16 = .ok (.getfield 12, 3) := by decide +kernel
theorem dX5_soundness_19 : decode cX5_soundness 19 = .ok (.invokevirtual 109, 3) := by decide +kernel
theorem dX5_soundness_22 : decode cX5_soundness 22 = .ok (.isub, 1) := by decide +kernel
theorem dX5_soundness_23 : decode cX5_soundness 23 = .ok (.i2f, 1) := by decide +kernel
theorem dX5_soundness_24 : decode cX5_soundness 24 = .ok (.iload_n 1, 1) := by decide +kernel
theorem dX5_soundness_25 : decode cX5_soundness 25 = .ok (.i2f, 1) := by decide +kernel
theorem dX5_soundness_26 : decode cX5_soundness 26 = .ok (.fdiv, 1) := by decide +kernel
theorem dX5_soundness_27 : decode cX5_soundness 27 = .ok (.freturn, 1) := by decide +kernel
theorem dX5_ask_0 : decode cX5_ask 0 = .ok (.aload_n 0, 1) := by decide +kernel
theorem dX5_ask_1 : decode cX5_ask 1 = .ok (.iload_n 1, 1) := by decide +kernel
theorem dX5_ask_2 : decode cX5_ask 2 = .ok (.iload_n 2, 1) := by decide +kernel
theorem dX5_ask_3 : decode cX5_ask 3 = .ok (.invokevirtual 183, 3) := by decide +kernel
theorem dX5_ask_6 : decode cX5_ask 6 = .ok (.iload_n 3, 1) := by decide +kernel
theorem dX5_ask_7 : decode cX5_ask 7 = .ok (.ifCond .lt 14, 3) := by decide +kernel
theorem dX5_ask_10 : decode cX5_ask 10 = .ok (.iload_n 3, 1) := by decide +kernel
theorem dX5_ask_11 : decode cX5_ask 11 = .ok (.aload_n 0, 1) := by decide +kernel
theorem dX5_ask_12 : decode cX5_ask 12 = .ok (.getfield 12, 3) := by decide +kernel
theorem dX5_ask_15 : decode cX5_ask 15 = .ok (.getfield 96, 3) := by decide +kernel
theorem dX5_ask_18 : decode cX5_ask 18 = .ok (.if_icmp .lt 13, 3) := by decide +kernel
theorem dX5_ask_21 : decode cX5_ask 21 = .ok (.new 253, 3) := by decide +kernel
theorem dX5_ask_24 : decode cX5_ask 24 = .ok (.dup, 1) := by decide +kernel
theorem dX5_ask_25 : decode cX5_ask 25 = .ok (.ldc 255, 2) := by decide +kernel
theorem dX5_ask_27 : decode cX5_ask 27 = .ok (.invokespecial 257, 3) := by decide +kernel
theorem dX5_ask_30 : decode cX5_ask 30 = .ok (.athrow, 1) := by decide +kernel
theorem dX5_ask_31 : decode cX5_ask 31 = .ok (.aload_n 0, 1) := by decide +kernel
theorem dX5_ask_32 : decode cX5_ask 32 = .ok (.getfield 12, 3) := by decide +kernel
theorem dX5_ask_35 : decode cX5_ask 35 = .ok (.iload_n 1, 1) := by decide +kernel
theorem dX5_ask_36 : decode cX5_ask 36 = .ok (.iload_n 2, 1) := by decide +kernel
theorem dX5_ask_37 : decode cX5_ask 37 = .ok (.invokevirtual 187, 3) := by decide +kernel
theorem dX5_ask_40 : decode cX5_ask 40 = .ok (.ifCond .ne 6, 3) := by decide +kernel
theorem dX5_ask_43 : decode cX5_ask 43 = .ok (.bipush (-11), 2) := by decide +kernel
theorem dX5_ask_45 : decode cX5_ask 45 = .ok (.ireturn, 1) := by decide +kernel
theorem dX5_ask_46 : decode cX5_ask 46 = .ok (.aload_n 0, 1) := by decide +kernel
theorem dX5_ask_47 : decode cX5_ask 47 = .ok (.getfield 12, 3) := by decide +kernel
theorem dX5_ask_50 : decode cX5_ask 50 = .ok (.iload_n 1, 1) := by decide +kernel
theorem dX5_ask_51 : decode cX5_ask 51 = .ok (.iload_n 2, 1) := by decide +kernel
theorem dX5_ask_52 : decode cX5_ask 52 = .ok (.invokevirtual 195, 3) := by decide +kernel
theorem dX5_ask_55 : decode cX5_ask 55 = .ok (.ifCond .ne 6, 3) := by decide +kernel
theorem dX5_ask_58 : decode cX5_ask 58 = .ok (.bipush (-12), 2) := by decide +kernel
theorem dX5_ask_60 : decode cX5_ask 60 = .ok (.ireturn, 1) := by decide +kernel
theorem dX5_ask_61 : decode cX5_ask 61 = .ok (.aload_n 0, 1) := by decide +kernel
theorem dX5_ask_62 : decode cX5_ask 62 = .ok (.getfield 22, 3) := by decide +kernel
theorem dX5_ask_65 : decode cX5_ask 65 = .ok (.aload_n 0, 1) := by decide +kernel
theorem dX5_ask_66 : decode cX5_ask 66 = .ok (.getfield 12, 3) := by decide +kernel
theorem dX5_ask_69 : decode cX5_ask 69 = .ok (.invokevirtual 83, 3) := by decide +kernel
theorem dX5_ask_72 : decode cX5_ask 72 = .ok (.aload_n 0, 1) := by decide +kernel
theorem dX5_ask_73 : decode cX5_ask 73 = .ok (.getfield 12, 3) := by decide +kernel
theorem dX5_ask_76 : decode cX5_ask 76 = .ok (.iload_n 1, 1) := by decide +kernel
theorem dX5_ask_77 : decode cX5_ask 77 = .ok (.iload_n 2, 1) := by decide +kernel
theorem dX5_ask_78 : decode cX5_ask 78 = .ok (.iload_n 3, 1) := by decide +kernel
theorem dX5_ask_79 : decode cX5_ask 79 = .ok (.invokevirtual 258, 3) := by decide +kernel
theorem dX5_ask_82 : decode cX5_ask 82 = .ok (.ifCond .eq 7, 3) := by decide +kernel
theorem dX5_ask_85 : decode cX5_ask 85 = .ok (.iconst 1, 1) := by decide +kernel
theorem dX5_ask_86 : decode cX5_ask 86 = .ok (.goto 4, 3) := by decide +kernel
theorem dX5_ask_89 : decode cX5_ask 89 = .ok (.iconst 0, 1) := by decide +kernel
theorem dX5_ask_90 : decode cX5_ask 90 = .ok (.ireturn, 1) := by decide +kernel
theorem dX5_round_0 : decode cX5_round 0 = .ok (.iload_n 1, 1) := by decide +kernel
theorem dX5_round_1 : decode cX5_round 1 = .ok (.invokestatic 209, 3) := by decide +kernel
theorem dX5_round_4 : decode cX5_round 4 = .ok (.aload_n 0, 1) := by decide +kernel
theorem dX5_round_5 : decode cX5_round 5 = .ok (.getfield 22, 3) := by decide +kernel
theorem dX5_round_8 : decode cX5_round 8 = .ok (.aload_n 0, 1) := by decide +kernel
theorem dX5_round_9 : decode cX5_round 9 = .ok (.getfield 12, 3) := by decide +kernel
theorem dX5_round_12 : decode cX5_round 12 = .ok (.invokevirtual 83, 3) := by decide +kernel
theorem dX5_round_15 : decode cX5_round 15 = .ok (.aload_n 0, 1) := by decide +kernel
theorem dX5_round_16 : decode cX5_round 16 = .ok (.getfield 12, 3) := by decide +kernel
theorem dX5_round_19 : decode cX5_round 19 = .ok (.invokevirtual 106, 3) := by decide +kernel
theorem dX5_round_22 : decode cX5_round 22 = .ok (.istore_n 2, 1) := by decide +kernel
theorem dX5_round_23 : decode cX5_round 23 = .ok (.aload_n 0, 1) := by decide +kernel
theorem dX5_round_24 : decode cX5_round 24 = .ok (.getfield 12, 3) := by decide +kernel
theorem dX5_round_27 : decode cX5_round 27 = .ok (.iload_n 1, 1) := by decide +kernel
theorem dX5_round_28 : decode cX5_round 28 = .ok (.invokevirtual 212, 3) := by decide +kernel
theorem dX5_round_31 : decode cX5_round 31 = .ok (.pop, 1) := by decide +kernel
theorem dX5_round_32 : decode cX5_round 32 = .ok (.aload_n 0, 1) := by decide +kernel
theorem dX5_round_33 : decode cX5_round 33 = .ok (.getfield 12, 3) := by decide +kernel
theorem dX5_round_36 : decode cX5_round 36 = .ok (.invokevirtual 106, 3) := by decide +kernel
theorem dX5_round_39 : decode cX5_round 39 = .ok (.iload_n 2, 1) := by decide +kernel
theorem dX5_round_40 : decode cX5_round 40 = .ok (.isub, 1) := by decide +kernel
theorem dX5_round_41 : decode cX5_round 41 = .ok (.ireturn, 1) := by decide +kernel
theorem dX5_harm_0 : decode cX5_harm 0 = .ok (.aload_n 0, 1) := by decide +kernel
theorem dX5_harm_1 : decode cX5_harm 1 = .ok (.iload_n 1, 1) := by decide +kernel
theorem dX5_harm_2 : decode cX5_harm 2 = .ok (.invokevirtual 132, 3) := by decide +kernel
theorem dX5_harm_5 : decode cX5_harm 5 = .ok (.iload_n 2, 1) := by decide +kernel
theorem dX5_harm_6 : decode cX5_harm 6 = .ok (.ifCond .eq 17, 3) := by decide +kernel
theorem dX5_harm_9 : decode cX5_harm 9 = .ok (.iload_n 2, 1) := by decide +kernel
theorem dX5_harm_10 : decode cX5_harm 10 = .ok (.aload_n 0, 1) := by decide +kernel
theorem dX5_harm_11 : decode cX5_harm 11 = .ok (.getfield 12, 3) := by decide +kernel
theorem dX5_harm_14 : decode cX5_harm 14 = .ok (.invokevirtual 262, 3) := by decide +kernel
theorem dX5_harm_17 : decode cX5_harm 17 = .ok (.iconst (-1), 1) := by decide +kernel
theorem dX5_harm_18 : decode cX5_harm 18 = .ok (.ixor, 1) := by decide +kernel
theorem dX5_harm_19 : decode cX5_harm 19 = .ok (.iand, 1) := by decide +kernel
theorem dX5_harm_20 : decode cX5_harm 20 = .ok (.ifCond .eq 14, 3) := by decide +kernel
theorem dX5_harm_23 : decode cX5_harm 23 = .ok (.new 127, 3) := by decide +kernel
theorem dX5_harm_26 : decode cX5_harm 26 = .ok (.dup, 1) := by decide +kernel
theorem dX5_harm_27 : decode cX5_harm 27 = .ok (.ldc_w 265, 3) := by decide +kernel
theorem dX5_harm_30 : decode cX5_harm 30 = .ok (.invokespecial 131, 3) := by decide +kernel
theorem dX5_harm_33 : decode cX5_harm 33 = .ok (.athrow, 1) := by decide +kernel
theorem dX5_harm_34 : decode cX5_harm 34 = .ok (.aload_n 0, 1) := by decide +kernel
theorem dX5_harm_35 : decode cX5_harm 35 = .ok (.getfield 22, 3) := by decide +kernel
theorem dX5_harm_38 : decode cX5_harm 38 = .ok (.aload_n 0, 1) := by decide +kernel
theorem dX5_harm_39 : decode cX5_harm 39 = .ok (.getfield 12, 3) := by decide +kernel
theorem dX5_harm_42 : decode cX5_harm 42 = .ok (.invokevirtual 83, 3) := by decide +kernel
theorem dX5_harm_45 : decode cX5_harm 45 = .ok (.aload_n 0, 1) := by decide +kernel
theorem dX5_harm_46 : decode cX5_harm 46 = .ok (.getfield 12, 3) := by decide +kernel
theorem dX5_harm_49 : decode cX5_harm 49 = .ok (.invokevirtual 109, 3) := by decide +kernel
theorem dX5_harm_52 : decode cX5_harm 52 = .ok (.istore_n 3, 1) := by decide +kernel
theorem dX5_harm_53 : decode cX5_harm 53 = .ok (.aload_n 0, 1) := by decide +kernel
theorem dX5_harm_54 : decode cX5_harm 54 = .ok (.getfield 12, 3) := by decide +kernel
theorem dX5_harm_57 : decode cX5_harm 57 = .ok (.iload_n 1, 1) := by decide +kernel
theorem dX5_harm_58 : decode cX5_harm 58 = .ok (.iload_n 2, 1) := by decide +kernel
theorem dX5_harm_59 : decode cX5_harm 59 = .ok (.invokevirtual 267, 3) := by decide +kernel
theorem dX5_harm_62 : decode cX5_harm 62 = .ok (.aload_n 0, 1) := by decide +kernel
theorem dX5_harm_63 : decode cX5_harm 63 = .ok (.getfield 12, 3) := by decide +kernel
theorem dX5_harm_66 : decode cX5_harm 66 = .ok (.invokevirtual 109, 3) := by decide +kernel
theorem dX5_harm_69 : decode cX5_harm 69 = .ok (.iload_n 3, 1) := by decide +kernel
theorem dX5_harm_70 : decode cX5_harm 70 = .ok (.isub, 1) := by decide +kernel
theorem dX5_harm_71 : decode cX5_harm 71 = .ok (.ireturn, 1) := by decide +kernel
theorem dX5_repair_0 : decode cX5_repair 0 = .ok (.aload_n 0, 1) := by decide +kernel
theorem dX5_repair_1 : decode cX5_repair 1 = .ok (.iload_n 1, 1) := by decide +kernel
theorem dX5_repair_2 : decode cX5_repair 2 = .ok (.iload_n 2, 1) := by decide +kernel
theorem dX5_repair_3 : decode cX5_repair 3 = .ok (.invokevirtual 183, 3) := by decide +kernel
theorem dX5_repair_6 : decode cX5_repair 6 = .ok (.aload_n 0, 1) := by decide +kernel
theorem dX5_repair_7 : decode cX5_repair 7 = .ok (.getfield 12, 3) := by decide +kernel
theorem dX5_repair_10 : decode cX5_repair 10 = .ok (.iload_n 1, 1) := by decide +kernel
theorem dX5_repair_11 : decode cX5_repair 11 = .ok (.iload_n 2, 1) := by decide +kernel
theorem dX5_repair_12 : decode cX5_repair 12 = .ok (.invokevirtual 187, 3) := by decide +kernel
theorem dX5_repair_15 : decode cX5_repair 15 = .ok (.ifCond .ne 6, 3) := by decide +kernel
theorem dX5_repair_18 : decode cX5_repair 18 = .ok (.bipush (-11), 2) := by decide +kernel
theorem dX5_repair_20 : decode cX5_repair 20 = .ok (.ireturn, 1) := by decide +kernel
theorem dX5_repair_21 : decode cX5_repair 21 = .ok (.aload_n 0, 1) := by decide +kernel
theorem dX5_repair_22 : decode cX5_repair 22 = .ok (.getfield 12, 3) := by decide +kernel
theorem dX5_repair_25 : decode cX5_repair 25 = .ok (.iload_n 1, 1) := by decide +kernel
theorem dX5_repair_26 : decode cX5_repair 26 = .ok (.iload_n 2, 1) := by decide +kernel
theorem dX5_repair_27 : decode cX5_repair 27 = .ok (.invokevirtual 195, 3) := by decide +kernel
theorem dX5_repair_30 : decode cX5_repair 30 = .ok (.ifCond .eq 6, 3) := by decide +kernel
theorem dX5_repair_33 : decode cX5_repair 33 = .ok (.bipush (-13), 2) := by decide +kernel
theorem dX5_repair_35 : decode cX5_repair 35 = .ok (.ireturn, 1) := by decide +kernel
theorem dX5_repair_36 : decode cX5_repair 36 = .ok (.aload_n 0, 1) := by decide +kernel
theorem dX5_repair_37 : decode cX5_repair 37 = .ok (.getfield 12, 3) := by decide +kernel
theorem dX5_repair_40 : decode cX5_repair 40 = .ok (.iload_n 1, 1) := by decide +kernel
theorem dX5_repair_41 : decode cX5_repair 41 = .ok (.iload_n 2, 1) := by decide +kernel
theorem dX5_repair_42 : decode cX5_repair 42 = .ok (.invokevirtual 215, 3) := by decide +kernel
theorem dX5_repair_45 : decode cX5_repair 45 = .ok (.istore_n 3, 1) := by decide +kernel
theorem dX5_repair_46 : decode cX5_repair 46 = .ok (.iload_n 3, 1) := by decide +kernel
theorem dX5_repair_47 : decode cX5_repair 47 = .ok (.ifCond .ne 6, 3) := by decide +kernel
theorem dX5_repair_50 : decode cX5_repair 50 = .ok (.bipush (-14), 2) := by decide +kernel
theorem dX5_repair_52 : decode cX5_repair 52 = .ok (.ireturn, 1) := by decide +kernel
theorem dX5_repair_53 : decode cX5_repair 53 = .ok (.aload_n 0, 1) := by decide +kernel
theorem dX5_repair_54 : decode cX5_repair 54 = .ok (.getfield 22, 3) := by decide +kernel
theorem dX5_repair_57 : decode cX5_repair 57 = .ok (.aload_n 0, 1) := by decide +kernel
theorem dX5_repair_58 : decode cX5_repair 58 = .ok (.getfield 12, 3) := by decide +kernel
theorem dX5_repair_61 : decode cX5_repair 61 = .ok (.invokevirtual 83, 3) := by decide +kernel
theorem dX5_repair_64 : decode cX5_repair 64 = .ok (.aload_n 0, 1) := by decide +kernel
theorem dX5_repair_65 : decode cX5_repair 65 = .ok (.getfield 12, 3) := by decide +kernel
theorem dX5_repair_68 : decode cX5_repair 68 = .ok (.iload_n 1, 1) := by decide +kernel
theorem dX5_repair_69 : decode cX5_repair 69 = .ok (.iload_n 2, 1) := by decide +kernel
theorem dX5_repair_70 : decode cX5_repair 70 = .ok (.iload_n 3, 1) := by decide +kernel
theorem dX5_repair_71 : decode cX5_repair 71 = .ok (.invokevirtual 270, 3) := by decide +kernel
theorem dX5_repair_74 : decode cX5_repair 74 = .ok (.iload_n 3, 1) := by decide +kernel
theorem dX5_repair_75 : decode cX5_repair 75 = .ok (.invokestatic 233, 3) := by decide +kernel
theorem dX5_repair_78 : decode cX5_repair 78 = .ok (.ireturn, 1) := by decide +kernel
theorem dX5_wave_0 : decode cX5_wave 0 = .ok (.aload_n 0, 1) := by decide +kernel
theorem dX5_wave_1 : decode cX5_wave 1 = .ok (.getfield 22, 3) := by decide +kernel
theorem dX5_wave_4 : decode cX5_wave 4 = .ok (.aload_n 0, 1) := by decide +kernel
theorem dX5_wave_5 : decode cX5_wave 5 = .ok (.getfield 12, 3) := by decide +kernel
theorem dX5_wave_8 : decode cX5_wave 8 = .ok (.invokevirtual 83, 3) := by decide +kernel
theorem dX5_wave_11 : decode cX5_wave 11 = .ok (.aload_n 0, 1) := by decide +kernel
theorem dX5_wave_12 : decode cX5_wave 12 = .ok (.getfield 12, 3) := by decide +kernel
theorem dX5_wave_15 : decode cX5_wave 15 = .ok (.invokevirtual 274, 3) := by decide +kernel
theorem dX5_wave_18 : decode cX5_wave 18 = .ok (.ireturn, 1) := by decide +kernel
theorem dX5_spread_0 : decode cX5_spread 0 = .ok (.aload_n 0, 1) := by decide +kernel
theorem dX5_spread_1 : decode cX5_spread 1 = .ok (.getfield 22, 3) := by decide +kernel
theorem dX5_spread_4 : decode cX5_spread 4 = .ok (.aload_n 0, 1) := by decide +kernel
theorem dX5_spread_5 : decode cX5_spread 5 = .ok (.getfield 12, 3) := by decide +kernel
theorem dX5_spread_8 : decode cX5_spread 8 = .ok (.invokevirtual 83, 3) := by decide +kernel
theorem dX5_spread_11 : decode cX5_spread 11 = .ok (.aload_n 0, 1) := by decide +kernel
theorem dX5_spread_12 : decode cX5_spread 12 = .ok (.getfield 12, 3) := by decide +kernel
theorem dX5_spread_15 : decode cX5_spread 15 = .ok (.invokevirtual 238, 3) := by decide +kernel
theorem dX5_spread_18 : decode cX5_spread 18 = .ok (.ireturn, 1) := by decide +kernel
theorem dX5_join_0 : decode cX5_join 0 = .ok (.iload_n 1, 1) := by decide +kernel
theorem dX5_join_1 : decode cX5_join 1 = .ok (.iconst 1, 1) := by decide +kernel
theorem dX5_join_2 : decode cX5_join 2 = .ok (.if_icmp .lt 9, 3) := by decide +kernel
theorem dX5_join_5 : decode cX5_join 5 = .ok (.iload_n 1, 1) := by decide +kernel
theorem dX5_join_6 : decode cX5_join 6 = .ok (.bipush 20, 2) := by decide +kernel
theorem dX5_join_8 : decode cX5_join 8 = .ok (.if_icmp .le 14, 3) := by decide +kernel
theorem dX5_join_11 : decode cX5_join 11 = .ok (.new 127, 3) := by decide +kernel
theorem dX5_join_14 : decode cX5_join 14 = .ok (.dup, 1) := by decide +kernel
theorem dX5_join_15 : decode cX5_join 15 = .ok (.ldc_w 277, 3) := by decide +kernel
theorem dX5_join_18 : decode cX5_join 18 = .ok (.invokespecial 131, 3) := by decide +kernel
theorem dX5_join_21 : decode cX5_join 21 = .ok (.athrow, 1) := by decide +kernel
theorem dX5_join_22 : decode cX5_join 22 = .ok (.aload_n 0, 1) := by decide +kernel
theorem dX5_join_23 : decode cX5_join 23 = .ok (.getfield 12, 3) := by decide +kernel
theorem dX5_join_26 : decode cX5_join 26 = .ok (.getfield 99, 3) := by decide +kernel
theorem dX5_join_29 : decode cX5_join 29 = .ok (.bipush 10, 2) := by decide +kernel
theorem dX5_join_31 : decode cX5_join 31 = .ok (.if_icmp .lt 6, 3) := by decide +kernel
theorem dX5_join_34 : decode cX5_join 34 = .ok (.bipush (-15), 2) := by decide +kernel
theorem dX5_join_36 : decode cX5_join 36 = .ok (.ireturn, 1) := by decide +kernel
theorem dX5_join_37 : decode cX5_join 37 = .ok (.aload_n 0, 1) := by decide +kernel
theorem dX5_join_38 : decode cX5_join 38 = .ok (.getfield 22, 3) := by decide +kernel
theorem dX5_join_41 : decode cX5_join 41 = .ok (.aload_n 0, 1) := by decide +kernel
theorem dX5_join_42 : decode cX5_join 42 = .ok (.getfield 12, 3) := by decide +kernel
theorem dX5_join_45 : decode cX5_join 45 = .ok (.invokevirtual 83, 3) := by decide +kernel
theorem dX5_join_48 : decode cX5_join 48 = .ok (.aload_n 0, 1) := by decide +kernel
theorem dX5_join_49 : decode cX5_join 49 = .ok (.getfield 12, 3) := by decide +kernel
theorem dX5_join_52 : decode cX5_join 52 = .ok (.lconst 0, 1) := by decide +kernel
theorem dX5_join_53 : decode cX5_join 53 = .ok (.bipush 45, 2) := by decide +kernel
theorem dX5_join_55 : decode cX5_join 55 = .ok (.invokestatic 48, 3) := by decide +kernel
theorem dX5_join_58 : decode cX5_join 58 = .ok (.iload_n 1, 1) := by decide +kernel
theorem dX5_join_59 : decode cX5_join 59 = .ok (.invokevirtual 54, 3) := by decide +kernel
theorem dX5_join_62 : decode cX5_join 62 = .ok (.aload_n 0, 1) := by decide +kernel
theorem dX5_join_63 : decode cX5_join 63 = .ok (.getfield 12, 3) := by decide +kernel
theorem dX5_join_66 : decode cX5_join 66 = .ok (.getfield 99, 3) := by decide +kernel
theorem dX5_join_69 : decode cX5_join 69 = .ok (.iconst 1, 1) := by decide +kernel
theorem dX5_join_70 : decode cX5_join 70 = .ok (.isub, 1) := by decide +kernel
theorem dX5_join_71 : decode cX5_join 71 = .ok (.ireturn, 1) := by decide +kernel
theorem dX5_meet_0 : decode cX5_meet 0 = .ok (.aload_n 0, 1) := by decide +kernel
theorem dX5_meet_1 : decode cX5_meet 1 = .ok (.iload_n 1, 1) := by decide +kernel
theorem dX5_meet_2 : decode cX5_meet 2 = .ok (.invokevirtual 132, 3) := by decide +kernel
theorem dX5_meet_5 : decode cX5_meet 5 = .ok (.aload_n 0, 1) := by decide +kernel
theorem dX5_meet_6 : decode cX5_meet 6 = .ok (.iload_n 2, 1) := by decide +kernel
theorem dX5_meet_7 : decode cX5_meet 7 = .ok (.invokevirtual 132, 3) := by decide +kernel
theorem dX5_meet_10 : decode cX5_meet 10 = .ok (.iload_n 1, 1) := by decide +kernel
theorem dX5_meet_11 : decode cX5_meet 11 = .ok (.iload_n 2, 1) := by decide +kernel
theorem dX5_meet_12 : decode cX5_meet 12 = .ok (.if_icmp .ne 14, 3) := by decide +kernel
theorem dX5_meet_15 : decode cX5_meet 15 = .ok (.new 127, 3) := by decide +kernel
theorem dX5_meet_18 : decode cX5_meet 18 = .ok (.dup, 1) := by decide +kernel
theorem dX5_meet_19 : decode cX5_meet 19 = .ok (.ldc_w 279, 3) := by decide +kernel
theorem dX5_meet_22 : decode cX5_meet 22 = .ok (.invokespecial 131, 3) := by decide +kernel
theorem dX5_meet_25 : decode cX5_meet 25 = .ok (.athrow, 1) := by decide +kernel
theorem dX5_meet_26 : decode cX5_meet 26 = .ok (.aload_n 0, 1) := by decide +kernel
theorem dX5_meet_27 : decode cX5_meet 27 = .ok (.getfield 12, 3) := by decide +kernel
theorem dX5_meet_30 : decode cX5_meet 30 = .ok (.iload_n 1, 1) := by decide +kernel
theorem dX5_meet_31 : decode cX5_meet 31 = .ok (.iload_n 2, 1) := by decide +kernel
theorem dX5_meet_32 : decode cX5_meet 32 = .ok (.invokevirtual 244, 3) := by decide +kernel
theorem dX5_meet_35 : decode cX5_meet 35 = .ok (.ifCond .eq 6, 3) := by decide +kernel
theorem dX5_meet_38 : decode cX5_meet 38 = .ok (.bipush (-16), 2) := by decide +kernel
theorem dX5_meet_40 : decode cX5_meet 40 = .ok (.ireturn, 1) := by decide +kernel
theorem dX5_meet_41 : decode cX5_meet 41 = .ok (.aload_n 0, 1) := by decide +kernel
theorem dX5_meet_42 : decode cX5_meet 42 = .ok (.getfield 22, 3) := by decide +kernel
theorem dX5_meet_45 : decode cX5_meet 45 = .ok (.aload_n 0, 1) := by decide +kernel
theorem dX5_meet_46 : decode cX5_meet 46 = .ok (.getfield 12, 3) := by decide +kernel
theorem dX5_meet_49 : decode cX5_meet 49 = .ok (.invokevirtual 83, 3) := by decide +kernel
theorem dX5_meet_52 : decode cX5_meet 52 = .ok (.aload_n 0, 1) := by decide +kernel
theorem dX5_meet_53 : decode cX5_meet 53 = .ok (.getfield 12, 3) := by decide +kernel
theorem dX5_meet_56 : decode cX5_meet 56 = .ok (.iload_n 1, 1) := by decide +kernel
theorem dX5_meet_57 : decode cX5_meet 57 = .ok (.iload_n 2, 1) := by decide +kernel
theorem dX5_meet_58 : decode cX5_meet 58 = .ok (.invokevirtual 247, 3) := by decide +kernel
theorem dX5_meet_61 : decode cX5_meet 61 = .ok (.aload_n 0, 1) := by decide +kernel
theorem dX5_meet_62 : decode cX5_meet 62 = .ok (.getfield 12, 3) := by decide +kernel
theorem dX5_meet_65 : decode cX5_meet 65 = .ok (.invokevirtual 124, 3) := by decide +kernel
theorem dX5_meet_68 : decode cX5_meet 68 = .ok (.ireturn, 1) := by decide +kernel
theorem dX5_leave_0 : decode cX5_leave 0 = .ok (.aload_n 0, 1) := by decide +kernel
theorem dX5_leave_1 : decode cX5_leave 1 = .ok (.iload_n 1, 1) := by decide +kernel
theorem dX5_leave_2 : decode cX5_leave 2 = .ok (.invokevirtual 132, 3) := by decide +kernel
theorem dX5_leave_5 : decode cX5_leave 5 = .ok (.aload_n 0, 1) := by decide +kernel
theorem dX5_leave_6 : decode cX5_leave 6 = .ok (.getfield 12, 3) := by decide +kernel
theorem dX5_leave_9 : decode cX5_leave 9 = .ok (.getfield 99, 3) := by decide +kernel
theorem dX5_leave_12 : decode cX5_leave 12 = .ok (.iconst 2, 1) := by decide +kernel
theorem dX5_leave_13 : decode cX5_leave 13 = .ok (.if_icmp .gt 6, 3) := by decide +kernel
theorem dX5_leave_16 : decode cX5_leave 16 = .ok (.bipush (-17), 2) := by decide +kernel
theorem dX5_leave_18 : decode cX5_leave 18 = .ok (.ireturn, 1) := by decide +kernel
theorem dX5_leave_19 : decode cX5_leave 19 = .ok (.aload_n 0, 1) := by decide +kernel
theorem dX5_leave_20 : decode cX5_leave 20 = .ok (.getfield 22, 3) := by decide +kernel
theorem dX5_leave_23 : decode cX5_leave 23 = .ok (.aload_n 0, 1) := by decide +kernel
theorem dX5_leave_24 : decode cX5_leave 24 = .ok (.getfield 12, 3) := by decide +kernel
theorem dX5_leave_27 : decode cX5_leave 27 = .ok (.invokevirtual 83, 3) := by decide +kernel
theorem dX5_leave_30 : decode cX5_leave 30 = .ok (.aload_n 0, 1) := by decide +kernel
theorem dX5_leave_31 : decode cX5_leave 31 = .ok (.getfield 12, 3) := by decide +kernel
theorem dX5_leave_34 : decode cX5_leave 34 = .ok (.getfield 139, 3) := by decide +kernel
theorem dX5_leave_37 : decode cX5_leave 37 = .ok (.iload_n 1, 1) := by decide +kernel
theorem dX5_leave_38 : decode cX5_leave 38 = .ok (.iaload, 1) := by decide +kernel
theorem dX5_leave_39 : decode cX5_leave 39 = .ok (.istore_n 2, 1) := by decide +kernel
theorem dX5_leave_40 : decode cX5_leave 40 = .ok (.aload_n 0, 1) := by decide +kernel
theorem dX5_leave_41 : decode cX5_leave 41 = .ok (.getfield 12, 3) := by decide +kernel
theorem dX5_leave_44 : decode cX5_leave 44 = .ok (.iload_n 1, 1) := by decide +kernel
theorem dX5_leave_45 : decode cX5_leave 45 = .ok (.invokevirtual 281, 3) := by decide +kernel
theorem dX5_leave_48 : decode cX5_leave 48 = .ok (.iload_n 2, 1) := by decide +kernel
theorem dX5_leave_49 : decode cX5_leave 49 = .ok (.ireturn, 1) := by decide +kernel
theorem dX5_setPledge_0 : decode cX5_setPledge 0 = .ok (.aload_n 0, 1) := by decide +kernel
theorem dX5_setPledge_1 : decode cX5_setPledge 1 = .ok (.iload_n 1, 1) := by decide +kernel
theorem dX5_setPledge_2 : decode cX5_setPledge 2 = .ok (.invokevirtual 159, 3) := by decide +kernel
theorem dX5_setPledge_5 : decode cX5_setPledge 5 = .ok (.iload_n 2, 1) := by decide +kernel
theorem dX5_setPledge_6 : decode cX5_setPledge 6 = .ok (.iconst 1, 1) := by decide +kernel
theorem dX5_setPledge_7 : decode cX5_setPledge 7 = .ok (.if_icmp .lt 9, 3) := by decide +kernel
theorem dX5_setPledge_10 : decode cX5_setPledge 10 = .ok (.iload_n 2, 1) := by decide +kernel
theorem dX5_setPledge_11 : decode cX5_setPledge 11 = .ok (.bipush 10, 2) := by decide +kernel
theorem dX5_setPledge_13 : decode cX5_setPledge 13 = .ok (.if_icmp .le 14, 3) := by decide +kernel
theorem dX5_setPledge_16 : decode cX5_setPledge 16 = .ok (.new 127, 3) := by decide +kernel
theorem dX5_setPledge_19 : decode cX5_setPledge 19 = .ok (.dup, 1) := by decide +kernel
theorem dX5_setPledge_20 : decode cX5_setPledge 20 = .ok (.ldc_w 284, 3) := by decide +kernel
theorem dX5_setPledge_23 : decode cX5_setPledge 23 = .ok (.invokespecial 131, 3) := by decide +kernel
theorem dX5_setPledge_26 : decode cX5_setPledge 26 = .ok (.athrow, 1) := by decide +kernel
theorem dX5_setPledge_27 : decode cX5_setPledge 27 = .ok (.aload_n 0, 1) := by decide +kernel
theorem dX5_setPledge_28 : decode cX5_setPledge 28 = .ok (.getfield 22, 3) := by decide +kernel
theorem dX5_setPledge_31 : decode cX5_setPledge 31 = .ok (.aload_n 0, 1) := by decide +kernel
theorem dX5_setPledge_32 : decode cX5_setPledge 32 = .ok (.getfield 12, 3) := by decide +kernel
theorem dX5_setPledge_35 : decode cX5_setPledge 35 = .ok (.invokevirtual 83, 3) := by decide +kernel
theorem dX5_setPledge_38 : decode cX5_setPledge 38 = .ok (.aload_n 0, 1) := by decide +kernel
theorem dX5_setPledge_39 : decode cX5_setPledge 39 = .ok (.getfield 12, 3) := by decide +kernel
theorem dX5_setPledge_42 : decode cX5_setPledge 42 = .ok (.getfield 162, 3) := by decide +kernel
theorem dX5_setPledge_45 : decode cX5_setPledge 45 = .ok (.iload_n 1, 1) := by decide +kernel
theorem dX5_setPledge_46 : decode cX5_setPledge 46 = .ok (.iaload, 1) := by decide +kernel
theorem dX5_setPledge_47 : decode cX5_setPledge 47 = .ok (.istore_n 3, 1) := by decide +kernel
theorem dX5_setPledge_48 : decode cX5_setPledge 48 = .ok (.aload_n 0, 1) := by decide +kernel
theorem dX5_setPledge_49 : decode cX5_setPledge 49 = .ok (.getfield 12, 3) := by decide +kernel
theorem dX5_setPledge_52 : decode cX5_setPledge 52 = .ok (.getfield 162, 3) := by decide +kernel
theorem dX5_setPledge_55 : decode cX5_setPledge 55 = .ok (.iload_n 1, 1) := by decide +kernel
theorem dX5_setPledge_56 : decode cX5_setPledge 56 = .ok (.iload_n 2, 1) := by decide +kernel
theorem dX5_setPledge_57 : decode cX5_setPledge 57 = .ok (.iastore, 1) := by decide +kernel
theorem dX5_setPledge_58 : decode cX5_setPledge 58 = .ok (.iload_n 3, 1) := by decide +kernel
theorem dX5_setPledge_59 : decode cX5_setPledge 59 = .ok (.ireturn, 1) := by decide +kernel
theorem dX5_undo_0 : decode cX5_undo 0 = .ok (.aload_n 0, 1) := by decide +kernel
theorem dX5_undo_1 : decode cX5_undo 1 = .ok (.getfield 22, 3) := by decide +kernel
theorem dX5_undo_4 : decode cX5_undo 4 = .ok (.aload_n 0, 1) := by decide +kernel
theorem dX5_undo_5 : decode cX5_undo 5 = .ok (.getfield 12, 3) := by decide +kernel
theorem dX5_undo_8 : decode cX5_undo 8 = .ok (.invokevirtual 286, 3) := by decide +kernel
theorem dX5_undo_11 : decode cX5_undo 11 = .ok (.ifCond .ne 14, 3) := by decide +kernel
theorem dX5_undo_14 : decode cX5_undo 14 = .ok (.new 66, 3) := by decide +kernel
theorem dX5_undo_17 : decode cX5_undo 17 = .ok (.dup, 1) := by decide +kernel
theorem dX5_undo_18 : decode cX5_undo 18 = .ok (.ldc_w 289, 3) := by decide +kernel
theorem dX5_undo_21 : decode cX5_undo 21 = .ok (.invokespecial 70, 3) := by decide +kernel
theorem dX5_undo_24 : decode cX5_undo 24 = .ok (.athrow, 1) := by decide +kernel
theorem dX5_undo_25 : decode cX5_undo 25 = .ok (.aload_n 0, 1) := by decide +kernel
theorem dX5_undo_26 : decode cX5_undo 26 = .ok (.getfield 22, 3) := by decide +kernel
theorem dX5_undo_29 : decode cX5_undo 29 = .ok (.getfield 291, 3) := by decide +kernel
theorem dX5_undo_32 : decode cX5_undo 32 = .ok (.ireturn, 1) := by decide +kernel
theorem dX5_save_0 : decode cX5_save 0 = .ok (.iload_n 1, 1) := by decide +kernel
theorem dX5_save_1 : decode cX5_save 1 = .ok (.invokestatic 294, 3) := by decide +kernel
theorem dX5_save_4 : decode cX5_save 4 = .ok (.aload_n 0, 1) := by decide +kernel
theorem dX5_save_5 : decode cX5_save 5 = .ok (.getfield 26, 3) := by decide +kernel
theorem dX5_save_8 : decode cX5_save 8 = .ok (.iload_n 1, 1) := by decide +kernel
theorem dX5_save_9 : decode cX5_save 9 = .ok (.aaload, 1) := by decide +kernel
theorem dX5_save_10 : decode cX5_save 10 = .ok (.astore_n 2, 1) := by decide +kernel
theorem dX5_save_11 : decode cX5_save 11 = .ok (.aload_n 2, 1) := by decide +kernel
theorem dX5_save_12 : decode cX5_save 12 = .ok (.ifnonnull 18, 3) := by decide +kernel
theorem dX5_save_15 : decode cX5_save 15 = .ok (.new 9, 3) := by decide +kernel
theorem dX5_save_18 : decode cX5_save 18 = .ok (.dup, 1) := by decide +kernel
theorem dX5_save_19 : decode cX5_save 19 = .ok (.invokespecial 11, 3) := by decide +kernel
theorem dX5_save_22 : decode cX5_save 22 = .ok (.astore_n 2, 1) := by decide +kernel
theorem dX5_save_23 : decode cX5_save 23 = .ok (.aload_n 0, 1) := by decide +kernel
theorem dX5_save_24 : decode cX5_save 24 = .ok (.getfield 26, 3) := by decide +kernel
theorem dX5_save_27 : decode cX5_save 27 = .ok (.iload_n 1, 1) := by decide +kernel
theorem dX5_save_28 : decode cX5_save 28 = .ok (.aload_n 2, 1) := by decide +kernel
theorem dX5_save_29 : decode cX5_save 29 = .ok (.aastore, 1) := by decide +kernel
theorem dX5_save_30 : decode cX5_save 30 = .ok (.aload_n 2, 1) := by decide +kernel
theorem dX5_save_31 : decode cX5_save 31 = .ok (.aload_n 0, 1) := by decide +kernel
theorem dX5_save_32 : decode cX5_save 32 = .ok (.getfield 12, 3) := by decide +kernel
theorem dX5_save_35 : decode cX5_save 35 = .ok (.invokevirtual 87, 3) := by decide +kernel
theorem dX5_save_38 : decode cX5_save 38 = .ok (.return_, 1) := by decide +kernel
theorem dX5_restore_0 : decode cX5_restore 0 = .ok (.iload_n 1, 1) := by decide +kernel
theorem dX5_restore_1 : decode cX5_restore 1 = .ok (.invokestatic 294, 3) := by decide +kernel
theorem dX5_restore_4 : decode cX5_restore 4 = .ok (.aload_n 0, 1) := by decide +kernel
theorem dX5_restore_5 : decode cX5_restore 5 = .ok (.getfield 26, 3) := by decide +kernel
theorem dX5_restore_8 : decode cX5_restore 8 = .ok (.iload_n 1, 1) := by decide +kernel
theorem dX5_restore_9 : decode cX5_restore 9 = .ok (.aaload, 1) := by decide +kernel
theorem dX5_restore_10 : decode cX5_restore 10 = .ok (.astore_n 2, 1) := by decide +kernel
theorem dX5_restore_11 : decode cX5_restore 11 = .ok (.aload_n 2, 1) := by decide +kernel
theorem dX5_restore_12 : decode cX5_restore 12 = .ok (.ifnonnull 14, 3) := by decide +kernel
theorem dX5_restore_15 : decode cX5_restore 15 = .ok (.new 66, 3) := by decide +kernel
theorem dX5_restore_18 : decode cX5_restore 18 = .ok (.dup, 1) := by decide +kernel
theorem dX5_restore_19 : decode cX5_restore 19 = .ok (.ldc_w 297, 3) := by decide +kernel
theorem dX5_restore_22 : decode cX5_restore 22 = .ok (.invokespecial 70, 3) := by decide +kernel
theorem dX5_restore_25 : decode cX5_restore 25 = .ok (.athrow, 1) := by decide +kernel
theorem dX5_restore_26 : decode cX5_restore 26 = .ok (.aload_n 0, 1) := by decide +kernel
theorem dX5_restore_27 : decode cX5_restore 27 = .ok (.getfield 22, 3) := by decide +kernel
theorem dX5_restore_30 : decode cX5_restore 30 = .ok (.aload_n 0, 1) := by decide +kernel
theorem dX5_restore_31 : decode cX5_restore 31 = .ok (.getfield 12, 3) := by decide +kernel
theorem dX5_restore_34 : decode cX5_restore 34 = .ok (.invokevirtual 83, 3) := by decide +kernel
theorem dX5_restore_37 : decode cX5_restore 37 = .ok (.aload_n 0, 1) := by decide +kernel
theorem dX5_restore_38 : decode cX5_restore 38 = .ok (.getfield 12, 3) := by decide +kernel
theorem dX5_restore_41 : decode cX5_restore 41 = .ok (.aload_n 2, 1) := by decide +kernel
theorem dX5_restore_42 : decode cX5_restore 42 = .ok (.invokevirtual 87, 3) := by decide +kernel
theorem dX5_restore_45 : decode cX5_restore 45 = .ok (.aload_n 0, 1) := by decide +kernel
theorem dX5_restore_46 : decode cX5_restore 46 = .ok (.getfield 12, 3) := by decide +kernel
theorem dX5_restore_49 : decode cX5_restore 49 = .ok (.getfield 99, 3) := by decide +kernel
theorem dX5_restore_52 : decode cX5_restore 52 = .ok (.ireturn, 1) := by decide +kernel
theorem dX5_writePictures_0 : decode cX5_writePictures 0 = .ok (.aload_n 0, 1) := by decide +kernel
theorem dX5_writePictures_1 : decode cX5_writePictures 1 = .ok (.getfield 40, 3) := by decide +kernel
theorem dX5_writePictures_4 : decode cX5_writePictures 4 = .ok (.aload_n 0, 1) := by decide +kernel
theorem dX5_writePictures_5 : decode cX5_writePictures 5 = .ok (.getfield 12, 3) := by decide +kernel
theorem dX5_writePictures_8 : decode cX5_writePictures 8 = .ok (.invokevirtual 299, 3) := by decide +kernel
theorem dX5_writePictures_11 : decode cX5_writePictures 11 = .ok (.ireturn, 1) := by decide +kernel
theorem dX5_writtenByte_0 : decode cX5_writtenByte 0 = .ok (.iload_n 1, 1) := by decide +kernel
theorem dX5_writtenByte_1 : decode cX5_writtenByte 1 = .ok (.ifCond .lt 14, 3) := by decide +kernel
theorem dX5_writtenByte_4 : decode cX5_writtenByte 4 = .ok (.iload_n 1, 1) := by decide +kernel
theorem dX5_writtenByte_5 : decode cX5_writtenByte 5 = .ok (.aload_n 0, 1) := by decide +kernel
theorem dX5_writtenByte_6 : decode cX5_writtenByte 6 = .ok (.getfield 40, 3) := by decide +kernel
theorem dX5_writtenByte_9 : decode cX5_writtenByte 9 = .ok (.getfield 303, 3) := by decide +kernel
theorem dX5_writtenByte_12 : decode cX5_writtenByte 12 = .ok (.if_icmp .lt 14, 3) := by decide +kernel
theorem dX5_writtenByte_15 : decode cX5_writtenByte 15 = .ok (.new 253, 3) := by decide +kernel
theorem dX5_writtenByte_18 : decode cX5_writtenByte 18 = .ok (.dup, 1) := by decide +kernel
theorem dX5_writtenByte_19 : decode cX5_writtenByte 19 = .ok (.ldc_w 304, 3) := by decide +kernel
theorem dX5_writtenByte_22 : decode cX5_writtenByte 22 = .ok (.invokespecial 257, 3) := by decide +kernel
theorem dX5_writtenByte_25 : decode cX5_writtenByte 25 = .ok (.athrow, 1) := by decide +kernel
theorem dX5_writtenByte_26 : decode cX5_writtenByte 26 = .ok (.aload_n 0, 1) := by decide +kernel
theorem dX5_writtenByte_27 : decode cX5_writtenByte 27 = .ok (.getfield 40, 3) := by decide +kernel
theorem dX5_writtenByte_30 : decode cX5_writtenByte 30 = .ok (.getfield 306, 3) := by decide +kernel
theorem dX5_writtenByte_33 : decode cX5_writtenByte 33 = .ok (.iload_n 1, 1) := by decide +kernel
theorem dX5_writtenByte_34 : decode cX5_writtenByte 34 = .ok (.baload, 1) := by decide +kernel
theorem dX5_writtenByte_35 : decode cX5_writtenByte 35 = .ok (.ireturn, 1) := by decide +kernel
theorem dX5_bytesIn_0 : decode cX5_bytesIn 0 = .ok (.iconst 0, 1) := by decide +kernel
theorem dX5_bytesIn_1 : decode cX5_bytesIn 1 = .ok (.istore_n 1, 1) := by decide +kernel
theorem dX5_bytesIn_2 : decode cX5_bytesIn 2 = .ok (.iconst 0, 1) := by decide +kernel
theorem dX5_bytesIn_3 : decode cX5_bytesIn 3 = .ok (.istore_n 2, 1) := by decide +kernel
theorem dX5_bytesIn_4 : decode cX5_bytesIn 4 = .ok (.iload_n 2, 1) := by decide +kernel
theorem dX5_bytesIn_5 : decode cX5_bytesIn 5 = .ok (.iconst 4, 1) := by decide +kernel
theorem dX5_bytesIn_6 : decode cX5_bytesIn 6 = .ok (.if_icmp .ge 25, 3) := by decide +kernel
theorem dX5_bytesIn_9 : decode cX5_bytesIn 9 = .ok (.iload_n 0, 1) := by decide +kernel
theorem dX5_bytesIn_10 : decode cX5_bytesIn 10 = .ok (.bipush 8, 2) := by decide +kernel
theorem dX5_bytesIn_12 : decode cX5_bytesIn 12 = .ok (.iload_n 2, 1) := by decide +kernel
theorem dX5_bytesIn_13 : decode cX5_bytesIn 13 = .ok (.imul, 1) := by decide +kernel
theorem dX5_bytesIn_14 : decode cX5_bytesIn 14 = .ok (.iushr, 1) := by decide +kernel
theorem dX5_bytesIn_15 : decode cX5_bytesIn 15 = .ok (.sipush 255, 3) := by decide +kernel
theorem dX5_bytesIn_18 : decode cX5_bytesIn 18 = .ok (.iand, 1) := by decide +kernel
theorem dX5_bytesIn_19 : decode cX5_bytesIn 19 = .ok (.ifCond .eq 6, 3) := by decide +kernel
theorem dX5_bytesIn_22 : decode cX5_bytesIn 22 = .ok (.iinc 1 1, 3) := by decide +kernel
theorem dX5_bytesIn_25 : decode cX5_bytesIn 25 = .ok (.iinc 2 1, 3) := by decide +kernel
theorem dX5_bytesIn_28 : decode cX5_bytesIn 28 = .ok (.goto (-24), 3) := by decide +kernel
theorem dX5_bytesIn_31 : decode cX5_bytesIn 31 = .ok (.iload_n 1, 1) := by decide +kernel
theorem dX5_bytesIn_32 : decode cX5_bytesIn 32 = .ok (.ireturn, 1) := by decide +kernel
theorem dX5_needFamily_0 : decode cX5_needFamily 0 = .ok (.iload_n 1, 1) := by decide +kernel
theorem dX5_needFamily_1 : decode cX5_needFamily 1 = .ok (.ifCond .lt 14, 3) := by decide +kernel
theorem dX5_needFamily_4 : decode cX5_needFamily 4 = .ok (.iload_n 1, 1) := by decide +kernel
theorem dX5_needFamily_5 : decode cX5_needFamily 5 = .ok (.aload_n 0, 1) := by decide +kernel
theorem dX5_needFamily_6 : decode cX5_needFamily 6 = .ok (.getfield 12, 3) := by decide +kernel
theorem dX5_needFamily_9 : decode cX5_needFamily 9 = .ok (.getfield 99, 3) := by decide +kernel
theorem dX5_needFamily_12 : decode cX5_needFamily 12 = .ok (.if_icmp .lt 14, 3) := by decide +kernel
theorem dX5_needFamily_15 : decode cX5_needFamily 15 = .ok (.new 253, 3) := by decide +kernel
theorem dX5_needFamily_18 : decode cX5_needFamily 18 = .ok (.dup, 1) := by decide +kernel
theorem dX5_needFamily_19 : decode cX5_needFamily 19 = .ok (.ldc_w 310, 3) := by decide +kernel
theorem dX5_needFamily_22 : decode cX5_needFamily 22 = .ok (.invokespecial 257, 3) := by decide +kernel
theorem dX5_needFamily_25 : decode cX5_needFamily 25 = .ok (.athrow, 1) := by decide +kernel
theorem dX5_needFamily_26 : decode cX5_needFamily 26 = .ok (.return_, 1) := by decide +kernel
theorem dX5_needPicture_0 : decode cX5_needPicture 0 = .ok (.iload_n 1, 1) := by decide +kernel
theorem dX5_needPicture_1 : decode cX5_needPicture 1 = .ok (.ifCond .lt 14, 3) := by decide +kernel
theorem dX5_needPicture_4 : decode cX5_needPicture 4 = .ok (.iload_n 1, 1) := by decide +kernel
theorem dX5_needPicture_5 : decode cX5_needPicture 5 = .ok (.aload_n 0, 1) := by decide +kernel
theorem dX5_needPicture_6 : decode cX5_needPicture 6 = .ok (.getfield 12, 3) := by decide +kernel
theorem dX5_needPicture_9 : decode cX5_needPicture 9 = .ok (.getfield 90, 3) := by decide +kernel
theorem dX5_needPicture_12 : decode cX5_needPicture 12 = .ok (.if_icmp .lt 14, 3) := by decide +kernel
theorem dX5_needPicture_15 : decode cX5_needPicture 15 = .ok (.new 253, 3) := by decide +kernel
theorem dX5_needPicture_18 : decode cX5_needPicture 18 = .ok (.dup, 1) := by decide +kernel
theorem dX5_needPicture_19 : decode cX5_needPicture 19 = .ok (.ldc_w 312, 3) := by decide +kernel
theorem dX5_needPicture_22 : decode cX5_needPicture 22 = .ok (.invokespecial 257, 3) := by decide +kernel
theorem dX5_needPicture_25 : decode cX5_needPicture 25 = .ok (.athrow, 1) := by decide +kernel
theorem dX5_needPicture_26 : decode cX5_needPicture 26 = .ok (.return_, 1) := by decide +kernel
theorem dX5_needBoth_0 : decode cX5_needBoth 0 = .ok (.aload_n 0, 1) := by decide +kernel
theorem dX5_needBoth_1 : decode cX5_needBoth 1 = .ok (.iload_n 1, 1) := by decide +kernel
theorem dX5_needBoth_2 : decode cX5_needBoth 2 = .ok (.invokevirtual 159, 3) := by decide +kernel
theorem dX5_needBoth_5 : decode cX5_needBoth 5 = .ok (.aload_n 0, 1) := by decide +kernel
theorem dX5_needBoth_6 : decode cX5_needBoth 6 = .ok (.iload_n 2, 1) := by decide +kernel
theorem dX5_needBoth_7 : decode cX5_needBoth 7 = .ok (.invokevirtual 132, 3) := by decide +kernel
theorem dX5_needBoth_10 : decode cX5_needBoth 10 = .ok (.return_, 1) := by decide +kernel
theorem dX5_needSlot_0 : decode cX5_needSlot 0 = .ok (.iload_n 0, 1) := by decide +kernel
theorem dX5_needSlot_1 : decode cX5_needSlot 1 = .ok (.ifCond .lt 8, 3) := by decide +kernel
theorem dX5_needSlot_4 : decode cX5_needSlot 4 = .ok (.iload_n 0, 1) := by decide +kernel
theorem dX5_needSlot_5 : decode cX5_needSlot 5 = .ok (.iconst 2, 1) := by decide +kernel
theorem dX5_needSlot_6 : decode cX5_needSlot 6 = .ok (.if_icmp .lt 14, 3) := by decide +kernel
theorem dX5_needSlot_9 : decode cX5_needSlot 9 = .ok (.new 253, 3) := by decide +kernel
theorem dX5_needSlot_12 : decode cX5_needSlot 12 = .ok (.dup, 1) := by decide +kernel
theorem dX5_needSlot_13 : decode cX5_needSlot 13 = .ok (.ldc_w 314, 3) := by decide +kernel
theorem dX5_needSlot_16 : decode cX5_needSlot 16 = .ok (.invokespecial 257, 3) := by decide +kernel
theorem dX5_needSlot_19 : decode cX5_needSlot 19 = .ok (.athrow, 1) := by decide +kernel
theorem dX5_needSlot_20 : decode cX5_needSlot 20 = .ok (.return_, 1) := by decide +kernel
theorem dX5_needRoundNumber_0 : decode cX5_needRoundNumber 0 = .ok (.iload_n 0, 1) := by decide +kernel
theorem dX5_needRoundNumber_1 : decode cX5_needRoundNumber 1 = .ok (.ifCond .ge 14, 3) := by decide +kernel
theorem dX5_needRoundNumber_4 : decode cX5_needRoundNumber 4 = .ok (.new 127, 3) := by decide +kernel
theorem dX5_needRoundNumber_7 : decode cX5_needRoundNumber 7 = .ok (.dup, 1) := by decide +kernel
theorem dX5_needRoundNumber_8 : decode cX5_needRoundNumber 8 = .ok (.ldc_w 316, 3) := by decide +kernel
theorem dX5_needRoundNumber_11 : decode cX5_needRoundNumber 11 = .ok (.invokespecial 131, 3) := by decide +kernel
theorem dX5_needRoundNumber_14 : decode cX5_needRoundNumber 14 = .ok (.athrow, 1) := by decide +kernel
theorem dX5_needRoundNumber_15 : decode cX5_needRoundNumber 15 = .ok (.return_, 1) := by decide +kernel
