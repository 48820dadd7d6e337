theorem dX6_init_0 : decode cX6_init 0 = .ok (.aload_n 0, 1) := by decide +kernel
theorem dX6_init_1 : decode cX6_init 1 = .ok (.invokespecial 1, 3) := by decide +kernel
theorem dX6_init_4 : decode cX6_init 4 = .ok (.aload_n 0, 1) := by decide +kernel
theorem dX6_init_5 : decode cX6_init 5 = .ok (.sipush 353, 3) := by decide +kernel
theorem dX6_init_8 : decode cX6_init 8 = .ok (.newarray .int, 2) := by decide +kernel
theorem dX6_init_10 : decode cX6_init 10 = .ok (.putfield 7, 3) := by decide +kernel
theorem dX6_init_13 : decode cX6_init 13 = .ok (.aload_n 0, 1) := by decide +kernel
theorem dX6_init_14 : decode cX6_init 14 = .ok (.sipush 353, 3) := by decide +kernel
theorem dX6_init_17 : decode cX6_init 17 = .ok (.newarray .int, 2) := by decide +kernel
theorem dX6_init_19 : decode cX6_init 19 = .ok (.putfield 13, 3) := by decide +kernel
theorem dX6_init_22 : decode cX6_init 22 = .ok (.aload_n 0, 1) := by decide +kernel
theorem dX6_init_23 : decode cX6_init 23 = .ok (.sipush 353, 3) := by decide +kernel
theorem dX6_init_26 : decode cX6_init 26 = .ok (.newarray .int, 2) := by decide +kernel
theorem dX6_init_28 : decode cX6_init 28 = .ok (.putfield 16, 3) := by decide +kernel
theorem dX6_init_31 : decode cX6_init 31 = .ok (.aload_n 0, 1) := by decide +kernel
theorem dX6_init_32 : decode cX6_init 32 = .ok (.sipush 2824, 3) := by decide +kernel
theorem dX6_init_35 : decode cX6_init 35 = .ok (.newarray .int, 2) := by decide +kernel
theorem dX6_init_37 : decode cX6_init 37 = .ok (.putfield 19, 3) := by decide +kernel
theorem dX6_init_40 : decode cX6_init 40 = .ok (.aload_n 0, 1) := by decide +kernel
theorem dX6_init_41 : decode cX6_init 41 = .ok (.sipush 706, 3) := by decide +kernel
theorem dX6_init_44 : decode cX6_init 44 = .ok (.newarray .int, 2) := by decide +kernel
theorem dX6_init_46 : decode cX6_init 46 = .ok (.putfield 22, 3) := by decide +kernel
theorem dX6_init_49 : decode cX6_init 49 = .ok (.aload_n 0, 1) := by decide +kernel
theorem dX6_init_50 : decode cX6_init 50 = .ok (.iconst 2, 1) := by decide +kernel
theorem dX6_init_51 : decode cX6_init 51 = .ok (.newarray .boolean, 2) := by decide +kernel
theorem dX6_init_53 : decode cX6_init 53 = .ok (.putfield 25, 3) := by decide +kernel
theorem dX6_init_56 : decode cX6_init 56 = .ok (.aload_n 0, 1) := by decide +kernel
theorem dX6_init_57 : decode cX6_init 57 = .ok (.sipush 600, 3) := by decide +kernel
theorem dX6_init_60 : decode cX6_init 60 = .ok (.newarray .int, 2) := by decide +kernel
theorem dX6_init_62 : decode cX6_init 62 = .ok (.putfield 29, 3) := by decide +kernel
theorem dX6_init_65 : decode cX6_init 65 = .ok (.aload_n 0, 1) := by decide +kernel
theorem dX6_init_66 : decode cX6_init 66 = .ok (.iconst (-1), 1) := by decide +kernel
theorem dX6_init_67 : decode cX6_init 67 = .ok (.putfield 32, 3) := by decide +kernel
theorem dX6_init_70 : decode cX6_init 70 = .ok (.aload_n 0, 1) := by decide +kernel
theorem dX6_init_71 : decode cX6_init 71 = .ok (.bipush 120, 2) := by decide +kernel
theorem dX6_init_73 : decode cX6_init 73 = .ok (.newarray .int, 2) := by decide +kernel
theorem dX6_init_75 : decode cX6_init 75 = .ok (.putfield 36, 3) := by decide +kernel
theorem dX6_init_78 : decode cX6_init 78 = .ok (.aload_n 0, 1) := by decide +kernel
theorem dX6_init_79 : decode cX6_init 79 = .ok (.sipush 1500, 3) := by decide +kernel
theorem dX6_init_82 : decode cX6_init 82 = .ok (.newarray .int, 2) := by decide +kernel
theorem dX6_init_84 : decode cX6_init 84 = .ok (.putfield 39, 3) := by decide +kernel
theorem dX6_init_87 : decode cX6_init 87 = .ok (.aload_n 0, 1) := by decide +kernel
theorem dX6_init_88 : decode cX6_init 88 = .ok (.invokevirtual 42, 3) := by decide +kernel
theorem dX6_init_91 : decode cX6_init 91 = .ok (.aload_n 0, 1) := by decide +kernel
theorem dX6_init_92 : decode cX6_init 92 = .ok (.getfield 7, 3) := by decide +kernel
theorem dX6_init_95 : decode cX6_init 95 = .ok (.iconst 0, 1) := by decide +kernel
theorem dX6_init_96 : decode cX6_init 96 = .ok (.iconst 4, 1) := by decide +kernel
theorem dX6_init_97 : decode cX6_init 97 = .ok (.iastore, 1) := by decide +kernel
theorem dX6_init_98 : decode cX6_init 98 = .ok (.aload_n 0, 1) := by decide +kernel
theorem dX6_init_99 : decode cX6_init 99 = .ok (.getfield 7, 3) := by decide +kernel
theorem dX6_init_102 : decode cX6_init 102 = .ok (.iconst 1, 1) := by decide +kernel
theorem dX6_init_103 : decode cX6_init 103 = .ok (.iconst 2, 1) := by decide +kernel
theorem dX6_init_104 : decode cX6_init 104 = .ok (.iastore, 1) := by decide +kernel
theorem dX6_init_105 : decode cX6_init 105 = .ok (.iconst 0, 1) := by decide +kernel
theorem dX6_init_106 : decode cX6_init 106 = .ok (.istore_n 1, 1) := by decide +kernel
theorem dX6_init_107 : decode cX6_init 107 = .ok (.iload_n 1, 1) := by decide +kernel
theorem dX6_init_108 : decode cX6_init 108 = .ok (.iconst 2, 1) := by decide +kernel
theorem dX6_init_109 : decode cX6_init 109 = .ok (.if_icmp .ge 26, 3) := by decide +kernel
theorem dX6_init_112 : decode cX6_init 112 = .ok (.aload_n 0, 1) := by decide +kernel
theorem dX6_init_113 : decode cX6_init 113 = .ok (.iload_n 1, 1) := by decide +kernel
theorem dX6_init_114 : decode cX6_init 114 = .ok (.iconst 0, 1) := by decide +kernel
theorem dX6_init_115 : decode cX6_init 115 = .ok (.iconst 1, 1) := by decide +kernel
theorem dX6_init_116 : decode cX6_init 116 = .ok (.invokevirtual 45, 3) := by decide +kernel
theorem dX6_init_119 : decode cX6_init 119 = .ok (.aload_n 0, 1) := by decide +kernel
theorem dX6_init_120 : decode cX6_init 120 = .ok (.iload_n 1, 1) := by decide +kernel
theorem dX6_init_121 : decode cX6_init 121 = .ok (.iconst 4, 1) := by decide +kernel
theorem dX6_init_122 : decode cX6_init 122 = .ok (.bipush 97, 2) := by decide +kernel
theorem dX6_init_124 : decode cX6_init 124 = .ok (.iload_n 1, 1) := by decide +kernel
theorem dX6_init_125 : decode cX6_init 125 = .ok (.iadd, 1) := by decide +kernel
theorem dX6_init_126 : decode cX6_init 126 = .ok (.invokevirtual 45, 3) := by decide +kernel
theorem dX6_init_129 : decode cX6_init 129 = .ok (.iinc 1 1, 3) := by decide +kernel
theorem dX6_init_132 : decode cX6_init 132 = .ok (.goto (-25), 3) := by decide +kernel
theorem dX6_init_135 : decode cX6_init 135 = .ok (.return_, 1) := by decide +kernel
theorem dX6_begins_0 : decode cX6_begins 0 = .ok (.iconst 0, 1) := by decide +kernel
theorem dX6_begins_1 : decode cX6_begins 1 = .ok (.istore_n 1, 1) := by decide +kernel
theorem dX6_begins_2 : decode cX6_begins 2 = .ok (.iload_n 1, 1) := by decide +kernel
theorem dX6_begins_3 : decode cX6_begins 3 = .ok (.sipush 353, 3) := by decide +kernel
theorem dX6_begins_6 : decode cX6_begins 6 = .ok (.if_icmp .ge 16, 3) := by decide +kernel
theorem dX6_begins_9 : decode cX6_begins 9 = .ok (.aload_n 0, 1) := by decide +kernel
theorem dX6_begins_10 : decode cX6_begins 10 = .ok (.getfield 7, 3) := by decide +kernel
theorem dX6_begins_13 : decode cX6_begins 13 = .ok (.iload_n 1, 1) := by decide +kernel
theorem dX6_begins_14 : decode cX6_begins 14 = .ok (.iconst 0, 1) := by decide +kernel
theorem dX6_begins_15 : decode cX6_begins 15 = .ok (.iastore, 1) := by decide +kernel
theorem dX6_begins_16 : decode cX6_begins 16 = .ok (.iinc 1 1, 3) := by decide +kernel
theorem dX6_begins_19 : decode cX6_begins 19 = .ok (.goto (-17), 3) := by decide +kernel
theorem dX6_begins_22 : decode cX6_begins 22 = .ok (.return_, 1) := by decide +kernel
theorem dX6_thrown_0 : decode cX6_thrown 0 = .ok (.aload_n 0, 1) := by decide +kernel
theorem dX6_thrown_1 : decode cX6_thrown 1 = .ok (.getfield 49, 3) := by decide +kernel
theorem dX6_thrown_4 : decode cX6_thrown 4 = .ok (.ireturn, 1) := by decide +kernel
theorem dX6_isIn_0 : decode cX6_isIn 0 = .ok (.iload_n 0, 1) := by decide +kernel
theorem dX6_isIn_1 : decode cX6_isIn 1 = .ok (.iload_n 1, 1) := by decide +kernel
theorem dX6_isIn_2 : decode cX6_isIn 2 = .ok (.if_icmp .lt 12, 3) := by decide +kernel
theorem dX6_isIn_5 : decode cX6_isIn 5 = .ok (.iload_n 0, 1) := by decide +kernel
theorem dX6_isIn_6 : decode cX6_isIn 6 = .ok (.iload_n 2, 1) := by decide +kernel
theorem dX6_isIn_7 : decode cX6_isIn 7 = .ok (.if_icmp .gt 7, 3) := by decide +kernel
theorem dX6_isIn_10 : decode cX6_isIn 10 = .ok (.iconst 1, 1) := by decide +kernel
theorem dX6_isIn_11 : decode cX6_isIn 11 = .ok (.goto 4, 3) := by decide +kernel
theorem dX6_isIn_14 : decode cX6_isIn 14 = .ok (.iconst 0, 1) := by decide +kernel
theorem dX6_isIn_15 : decode cX6_isIn 15 = .ok (.ireturn, 1) := by decide +kernel
theorem dX6_copies_0 : decode cX6_copies 0 = .ok (.iconst 0, 1) := by decide +kernel
theorem dX6_copies_1 : decode cX6_copies 1 = .ok (.istore 4, 2) := by decide +kernel
theorem dX6_copies_3 : decode cX6_copies 3 = .ok (.iload 4, 2) := by decide +kernel
theorem dX6_copies_5 : decode cX6_copies 5 = .ok (.sipush 353, 3) := by decide +kernel
theorem dX6_copies_8 : decode cX6_copies 8 = .ok (.if_icmp .ge 21, 3) := by decide +kernel
theorem dX6_copies_11 : decode cX6_copies 11 = .ok (.aload_n 0, 1) := by decide +kernel
theorem dX6_copies_12 : decode cX6_copies 12 = .ok (.iload_n 1, 1) := by decide +kernel
theorem dX6_copies_13 : decode cX6_copies 13 = .ok (.iload 4, 2) := by decide +kernel
theorem dX6_copies_15 : decode cX6_copies 15 = .ok (.iadd, 1) := by decide +kernel
theorem dX6_copies_16 : decode cX6_copies 16 = .ok (.aload_n 2, 1) := by decide +kernel
theorem dX6_copies_17 : decode cX6_copies 17 = .ok (.iload_n 3, 1) := by decide +kernel
theorem dX6_copies_18 : decode cX6_copies 18 = .ok (.iload 4, 2) := by decide +kernel
theorem dX6_copies_20 : decode cX6_copies 20 = .ok (.iadd, 1) := by decide +kernel
theorem dX6_copies_21 : decode cX6_copies 21 = .ok (.iaload, 1) := by decide +kernel
theorem dX6_copies_22 : decode cX6_copies 22 = .ok (.iastore, 1) := by decide +kernel
theorem dX6_copies_23 : decode cX6_copies 23 = .ok (.iinc 4 1, 3) := by decide +kernel
theorem dX6_copies_26 : decode cX6_copies 26 = .ok (.goto (-23), 3) := by decide +kernel
theorem dX6_copies_29 : decode cX6_copies 29 = .ok (.return_, 1) := by decide +kernel
theorem dX6_keeps_0 : decode cX6_keeps 0 = .ok (.aload_n 0, 1) := by decide +kernel
theorem dX6_keeps_1 : decode cX6_keeps 1 = .ok (.getfield 52, 3) := by decide +kernel
theorem dX6_keeps_4 : decode cX6_keeps 4 = .ok (.bipush 8, 2) := by decide +kernel
theorem dX6_keeps_6 : decode cX6_keeps 6 = .ok (.if_icmp .ne 44, 3) := by decide +kernel
theorem dX6_keeps_9 : decode cX6_keeps 9 = .ok (.iconst 0, 1) := by decide +kernel
theorem dX6_keeps_10 : decode cX6_keeps 10 = .ok (.istore_n 2, 1) := by decide +kernel
theorem dX6_keeps_11 : decode cX6_keeps 11 = .ok (.iload_n 2, 1) := by decide +kernel
theorem dX6_keeps_12 : decode cX6_keeps 12 = .ok (.sipush 2471, 3) := by decide +kernel
theorem dX6_keeps_15 : decode cX6_keeps 15 = .ok (.if_icmp .ge 25, 3) := by decide +kernel
theorem dX6_keeps_18 : decode cX6_keeps 18 = .ok (.aload_n 0, 1) := by decide +kernel
theorem dX6_keeps_19 : decode cX6_keeps 19 = .ok (.getfield 19, 3) := by decide +kernel
theorem dX6_keeps_22 : decode cX6_keeps 22 = .ok (.iload_n 2, 1) := by decide +kernel
theorem dX6_keeps_23 : decode cX6_keeps 23 = .ok (.aload_n 0, 1) := by decide +kernel
theorem dX6_keeps_24 : decode cX6_keeps 24 = .ok (.getfield 19, 3) := by decide +kernel
theorem dX6_keeps_27 : decode cX6_keeps 27 = .ok (.iload_n 2, 1) := by decide +kernel
theorem dX6_keeps_28 : decode cX6_keeps 28 = .ok (.sipush 353, 3) := by decide +kernel
theorem dX6_keeps_31 : decode cX6_keeps 31 = .ok (.iadd, 1) := by decide +kernel
theorem dX6_keeps_32 : decode cX6_keeps 32 = .ok (.iaload, 1) := by decide +kernel
theorem dX6_keeps_33 : decode cX6_keeps 33 = .ok (.iastore, 1) := by decide +kernel
theorem dX6_keeps_34 : decode cX6_keeps 34 = .ok (.iinc 2 1, 3) := by decide +kernel
theorem dX6_keeps_37 : decode cX6_keeps 37 = .ok (.goto (-26), 3) := by decide +kernel
theorem dX6_keeps_40 : decode cX6_keeps 40 = .ok (.aload_n 0, 1) := by decide +kernel
theorem dX6_keeps_41 : decode cX6_keeps 41 = .ok (.dup, 1) := by decide +kernel
theorem dX6_keeps_42 : decode cX6_keeps 42 = .ok (.getfield 52, 3) := by decide +kernel
theorem dX6_keeps_45 : decode cX6_keeps 45 = .ok (.iconst 1, 1) := by decide +kernel
theorem dX6_keeps_46 : decode cX6_keeps 46 = .ok (.isub, 1) := by decide +kernel
theorem dX6_keeps_47 : decode cX6_keeps 47 = .ok (.putfield 52, 3) := by decide +kernel
theorem dX6_keeps_50 : decode cX6_keeps 50 = .ok (.aload_n 0, 1) := by decide +kernel
theorem dX6_keeps_51 : decode cX6_keeps 51 = .ok (.getfield 19, 3) := by decide +kernel
theorem dX6_keeps_54 : decode cX6_keeps 54 = .ok (.sipush 353, 3) := by decide +kernel
theorem dX6_keeps_57 : decode cX6_keeps 57 = .ok (.aload_n 0, 1) := by decide +kernel
theorem dX6_keeps_58 : decode cX6_keeps 58 = .ok (.getfield 52, 3) := by decide +kernel
theorem dX6_keeps_61 : decode cX6_keeps 61 = .ok (.imul, 1) := by decide +kernel
theorem dX6_keeps_62 : decode cX6_keeps 62 = .ok (.aload_n 1, 1) := by decide +kernel
theorem dX6_keeps_63 : decode cX6_keeps 63 = .ok (.iconst 0, 1) := by decide +kernel
theorem dX6_keeps_64 : decode cX6_keeps 64 = .ok (.invokestatic 55, 3) := by decide +kernel
theorem dX6_keeps_67 : decode cX6_keeps 67 = .ok (.aload_n 0, 1) := by decide +kernel
theorem dX6_keeps_68 : decode cX6_keeps 68 = .ok (.dup, 1) := by decide +kernel
theorem dX6_keeps_69 : decode cX6_keeps 69 = .ok (.getfield 52, 3) := by decide +kernel
theorem dX6_keeps_72 : decode cX6_keeps 72 = .ok (.iconst 1, 1) := by decide +kernel
theorem dX6_keeps_73 : decode cX6_keeps 73 = .ok (.iadd, 1) := by decide +kernel
theorem dX6_keeps_74 : decode cX6_keeps 74 = .ok (.putfield 52, 3) := by decide +kernel
theorem dX6_keeps_77 : decode cX6_keeps 77 = .ok (.return_, 1) := by decide +kernel
theorem dX6_undo_0 : decode cX6_undo 0 = .ok (.aload_n 0, 1) := by decide +kernel
theorem dX6_undo_1 : decode cX6_undo 1 = .ok (.aload_n 0, 1) := by decide +kernel
theorem dX6_undo_2 : decode cX6_undo 2 = .ok (.getfield 52, 3) := by decide +kernel
theorem dX6_undo_5 : decode cX6_undo 5 = .ok (.ifCond .ne 7, 3) := by decide +kernel
theorem dX6_undo_8 : decode cX6_undo 8 = .ok (.iconst 1, 1) := by decide +kernel
theorem dX6_undo_9 : decode cX6_undo 9 = .ok (.goto 4, 3) := by decide +kernel
theorem dX6_undo_12 : decode cX6_undo 12 = .ok (.iconst 0, 1) := by decide +kernel
theorem dX6_undo_13 : decode cX6_undo 13 = .ok (.putfield 49, 3) := by decide +kernel
theorem dX6_undo_16 : decode cX6_undo 16 = .ok (.aload_n 0, 1) := by decide +kernel
theorem dX6_undo_17 : decode cX6_undo 17 = .ok (.getfield 49, 3) := by decide +kernel
theorem dX6_undo_20 : decode cX6_undo 20 = .ok (.ifCond .le 5, 3) := by decide +kernel
theorem dX6_undo_23 : decode cX6_undo 23 = .ok (.iconst 0, 1) := by decide +kernel
theorem dX6_undo_24 : decode cX6_undo 24 = .ok (.ireturn, 1) := by decide +kernel
theorem dX6_undo_25 : decode cX6_undo 25 = .ok (.aload_n 0, 1) := by decide +kernel
theorem dX6_undo_26 : decode cX6_undo 26 = .ok (.dup, 1) := by decide +kernel
theorem dX6_undo_27 : decode cX6_undo 27 = .ok (.getfield 52, 3) := by decide +kernel
theorem dX6_undo_30 : decode cX6_undo 30 = .ok (.iconst 1, 1) := by decide +kernel
theorem dX6_undo_31 : decode cX6_undo 31 = .ok (.isub, 1) := by decide +kernel
theorem dX6_undo_32 : decode cX6_undo 32 = .ok (.putfield 52, 3) := by decide +kernel
theorem dX6_undo_35 : decode cX6_undo 35 = .ok (.aload_n 0, 1) := by decide +kernel
theorem dX6_undo_36 : decode cX6_undo 36 = .ok (.getfield 7, 3) := by decide +kernel
theorem dX6_undo_39 : decode cX6_undo 39 = .ok (.iconst 0, 1) := by decide +kernel
theorem dX6_undo_40 : decode cX6_undo 40 = .ok (.aload_n 0, 1) := by decide +kernel
theorem dX6_undo_41 : decode cX6_undo 41 = .ok (.getfield 19, 3) := by decide +kernel
theorem dX6_undo_44 : decode cX6_undo 44 = .ok (.sipush 353, 3) := by decide +kernel
theorem dX6_undo_47 : decode cX6_undo 47 = .ok (.aload_n 0, 1) := by decide +kernel
theorem dX6_undo_48 : decode cX6_undo 48 = .ok (.getfield 52, 3) := by decide +kernel
theorem dX6_undo_51 : decode cX6_undo 51 = .ok (.imul, 1) := by decide +kernel
theorem dX6_undo_52 : decode cX6_undo 52 = .ok (.invokestatic 55, 3) := by decide +kernel
theorem dX6_undo_55 : decode cX6_undo 55 = .ok (.aload_n 0, 1) := by decide +kernel
theorem dX6_undo_56 : decode cX6_undo 56 = .ok (.getfield 52, 3) := by decide +kernel
theorem dX6_undo_59 : decode cX6_undo 59 = .ok (.ireturn, 1) := by decide +kernel
theorem dX6_save_0 : decode cX6_save 0 = .ok (.aload_n 0, 1) := by decide +kernel
theorem dX6_save_1 : decode cX6_save 1 = .ok (.iload_n 1, 1) := by decide +kernel
theorem dX6_save_2 : decode cX6_save 2 = .ok (.iconst 0, 1) := by decide +kernel
theorem dX6_save_3 : decode cX6_save 3 = .ok (.iconst 1, 1) := by decide +kernel
theorem dX6_save_4 : decode cX6_save 4 = .ok (.invokestatic 59, 3) := by decide +kernel
theorem dX6_save_7 : decode cX6_save 7 = .ok (.ifCond .eq 7, 3) := by decide +kernel
theorem dX6_save_10 : decode cX6_save 10 = .ok (.iconst 0, 1) := by decide +kernel
theorem dX6_save_11 : decode cX6_save 11 = .ok (.goto 4, 3) := by decide +kernel
theorem dX6_save_14 : decode cX6_save 14 = .ok (.iconst 1, 1) := by decide +kernel
theorem dX6_save_15 : decode cX6_save 15 = .ok (.putfield 49, 3) := by decide +kernel
theorem dX6_save_18 : decode cX6_save 18 = .ok (.aload_n 0, 1) := by decide +kernel
theorem dX6_save_19 : decode cX6_save 19 = .ok (.getfield 49, 3) := by decide +kernel
theorem dX6_save_22 : decode cX6_save 22 = .ok (.ifCond .le 4, 3) := by decide +kernel
theorem dX6_save_25 : decode cX6_save 25 = .ok (.return_, 1) := by decide +kernel
theorem dX6_save_26 : decode cX6_save 26 = .ok (.aload_n 0, 1) := by decide +kernel
theorem dX6_save_27 : decode cX6_save 27 = .ok (.getfield 22, 3) := by decide +kernel
theorem dX6_save_30 : decode cX6_save 30 = .ok (.sipush 353, 3) := by decide +kernel
theorem dX6_save_33 : decode cX6_save 33 = .ok (.iload_n 1, 1) := by decide +kernel
theorem dX6_save_34 : decode cX6_save 34 = .ok (.imul, 1) := by decide +kernel
theorem dX6_save_35 : decode cX6_save 35 = .ok (.aload_n 0, 1) := by decide +kernel
theorem dX6_save_36 : decode cX6_save 36 = .ok (.getfield 7, 3) := by decide +kernel
theorem dX6_save_39 : decode cX6_save 39 = .ok (.iconst 0, 1) := by decide +kernel
theorem dX6_save_40 : decode cX6_save 40 = .ok (.invokestatic 55, 3) := by decide +kernel
theorem dX6_save_43 : decode cX6_save 43 = .ok (.aload_n 0, 1) := by decide +kernel
theorem dX6_save_44 : decode cX6_save 44 = .ok (.getfield 25, 3) := by decide +kernel
theorem dX6_save_47 : decode cX6_save 47 = .ok (.iload_n 1, 1) := by decide +kernel
theorem dX6_save_48 : decode cX6_save 48 = .ok (.iconst 1, 1) := by decide +kernel
theorem dX6_save_49 : decode cX6_save 49 = .ok (.bastore, 1) := by decide +kernel
theorem dX6_save_50 : decode cX6_save 50 = .ok (.return_, 1) := by decide +kernel
theorem dX6_restore_0 : decode cX6_restore 0 = .ok (.aload_n 0, 1) := by decide +kernel
theorem dX6_restore_1 : decode cX6_restore 1 = .ok (.iload_n 1, 1) := by decide +kernel
theorem dX6_restore_2 : decode cX6_restore 2 = .ok (.iconst 0, 1) := by decide +kernel
theorem dX6_restore_3 : decode cX6_restore 3 = .ok (.iconst 1, 1) := by decide +kernel
theorem dX6_restore_4 : decode cX6_restore 4 = .ok (.invokestatic 59, 3) := by decide +kernel
theorem dX6_restore_7 : decode cX6_restore 7 = .ok (.ifCond .ne 7, 3) := by decide +kernel
theorem dX6_restore_10 : decode cX6_restore 10 = .ok (.iconst 1, 1) := by decide +kernel
theorem dX6_restore_11 : decode cX6_restore 11 = .ok (.goto 17, 3) := by decide +kernel
theorem dX6_restore_14 : decode cX6_restore 14 = .ok (.aload_n 0, 1) := by decide +kernel
theorem dX6_restore_15 : decode cX6_restore 15 = .ok (.getfield 25, 3) := by decide +kernel
theorem dX6_restore_18 : decode cX6_restore 18 = .ok (.iload_n 1, 1) := by decide +kernel
theorem dX6_restore_19 : decode cX6_restore 19 = .ok (.baload, 1) := by decide +kernel
theorem dX6_restore_20 : decode cX6_restore 20 = .ok (.ifCond .eq 7, 3) := by decide +kernel
theorem dX6_restore_23 : decode cX6_restore 23 = .ok (.iconst 0, 1) := by decide +kernel
theorem dX6_restore_24 : decode cX6_restore 24 = .ok (.goto 4, 3) := by decide +kernel
theorem dX6_restore_27 : decode cX6_restore 27 = .ok (.iconst 2, 1) := by decide +kernel
theorem dX6_restore_28 : decode cX6_restore 28 = .ok (.putfield 49, 3) := by decide +kernel
theorem dX6_restore_31 : decode cX6_restore 31 = .ok (.aload_n 0, 1) := by decide +kernel
theorem dX6_restore_32 : decode cX6_restore 32 = .ok (.getfield 49, 3) := by decide +kernel
theorem dX6_restore_35 : decode cX6_restore 35 = .ok (.ifCond .le 5, 3) := by decide +kernel
theorem dX6_restore_38 : decode cX6_restore 38 = .ok (.iconst 0, 1) := by decide +kernel
theorem dX6_restore_39 : decode cX6_restore 39 = .ok (.ireturn, 1) := by decide +kernel
theorem dX6_restore_40 : decode cX6_restore 40 = .ok (.aload_n 0, 1) := by decide +kernel
theorem dX6_restore_41 : decode cX6_restore 41 = .ok (.aload_n 0, 1) := by decide +kernel
theorem dX6_restore_42 : decode cX6_restore 42 = .ok (.getfield 7, 3) := by decide +kernel
theorem dX6_restore_45 : decode cX6_restore 45 = .ok (.invokevirtual 63, 3) := by decide +kernel
theorem dX6_restore_48 : decode cX6_restore 48 = .ok (.aload_n 0, 1) := by decide +kernel
theorem dX6_restore_49 : decode cX6_restore 49 = .ok (.getfield 7, 3) := by decide +kernel
theorem dX6_restore_52 : decode cX6_restore 52 = .ok (.iconst 0, 1) := by decide +kernel
theorem dX6_restore_53 : decode cX6_restore 53 = .ok (.aload_n 0, 1) := by decide +kernel
theorem dX6_restore_54 : decode cX6_restore 54 = .ok (.getfield 22, 3) := by decide +kernel
theorem dX6_restore_57 : decode cX6_restore 57 = .ok (.sipush 353, 3) := by decide +kernel
theorem dX6_restore_60 : decode cX6_restore 60 = .ok (.iload_n 1, 1) := by decide +kernel
theorem dX6_restore_61 : decode cX6_restore 61 = .ok (.imul, 1) := by decide +kernel
theorem dX6_restore_62 : decode cX6_restore 62 = .ok (.invokestatic 55, 3) := by decide +kernel
theorem dX6_restore_65 : decode cX6_restore 65 = .ok (.aload_n 0, 1) := by decide +kernel
theorem dX6_restore_66 : decode cX6_restore 66 = .ok (.invokevirtual 67, 3) := by decide +kernel
theorem dX6_restore_69 : decode cX6_restore 69 = .ok (.ireturn, 1) := by decide +kernel
theorem dX6_byteOf_0 : decode cX6_byteOf 0 = .ok (.iload_n 0, 1) := by decide +kernel
theorem dX6_byteOf_1 : decode cX6_byteOf 1 = .ok (.iconst 4, 1) := by decide +kernel
theorem dX6_byteOf_2 : decode cX6_byteOf 2 = .ok (.if_icmp .ge 7, 3) := by decide +kernel
theorem dX6_byteOf_5 : decode cX6_byteOf 5 = .ok (.iload_n 1, 1) := by decide +kernel
theorem dX6_byteOf_6 : decode cX6_byteOf 6 = .ok (.goto 36, 3) := by decide +kernel
theorem dX6_byteOf_9 : decode cX6_byteOf 9 = .ok (.iload_n 0, 1) := by decide +kernel
theorem dX6_byteOf_10 : decode cX6_byteOf 10 = .ok (.bipush 8, 2) := by decide +kernel
theorem dX6_byteOf_12 : decode cX6_byteOf 12 = .ok (.if_icmp .ge 7, 3) := by decide +kernel
theorem dX6_byteOf_15 : decode cX6_byteOf 15 = .ok (.iload_n 2, 1) := by decide +kernel
theorem dX6_byteOf_16 : decode cX6_byteOf 16 = .ok (.goto 26, 3) := by decide +kernel
theorem dX6_byteOf_19 : decode cX6_byteOf 19 = .ok (.iload_n 0, 1) := by decide +kernel
theorem dX6_byteOf_20 : decode cX6_byteOf 20 = .ok (.bipush 12, 2) := by decide +kernel
theorem dX6_byteOf_22 : decode cX6_byteOf 22 = .ok (.if_icmp .ge 7, 3) := by decide +kernel
theorem dX6_byteOf_25 : decode cX6_byteOf 25 = .ok (.iload_n 3, 1) := by decide +kernel
theorem dX6_byteOf_26 : decode cX6_byteOf 26 = .ok (.goto 16, 3) := by decide +kernel
theorem dX6_byteOf_29 : decode cX6_byteOf 29 = .ok (.iload_n 0, 1) := by decide +kernel
theorem dX6_byteOf_30 : decode cX6_byteOf 30 = .ok (.bipush 16, 2) := by decide +kernel
theorem dX6_byteOf_32 : decode cX6_byteOf 32 = .ok (.if_icmp .ge 8, 3) := by decide +kernel
theorem dX6_byteOf_35 : decode cX6_byteOf 35 = .ok (.iload 4, 2) := by decide +kernel
theorem dX6_byteOf_37 : decode cX6_byteOf 37 = .ok (.goto 5, 3) := by decide +kernel
theorem dX6_byteOf_40 : decode cX6_byteOf 40 = .ok (.iload 5, 2) := by decide +kernel
theorem dX6_byteOf_42 : decode cX6_byteOf 42 = .ok (.istore 6, 2) := by decide +kernel
theorem dX6_byteOf_44 : decode cX6_byteOf 44 = .ok (.iload 6, 2) := by decide +kernel
theorem dX6_byteOf_46 : decode cX6_byteOf 46 = .ok (.bipush 24, 2) := by decide +kernel
theorem dX6_byteOf_48 : decode cX6_byteOf 48 = .ok (.bipush 8, 2) := by decide +kernel
theorem dX6_byteOf_50 : decode cX6_byteOf 50 = .ok (.iload_n 0, 1) := by decide +kernel
theorem dX6_byteOf_51 : decode cX6_byteOf 51 = .ok (.iconst 4, 1) := by decide +kernel
theorem dX6_byteOf_52 : decode cX6_byteOf 52 = .ok (.irem, 1) := by decide +kernel
theorem dX6_byteOf_53 : decode cX6_byteOf 53 = .ok (.imul, 1) := by decide +kernel
theorem dX6_byteOf_54 : decode cX6_byteOf 54 = .ok (.isub, 1) := by decide +kernel
theorem dX6_byteOf_55 : decode cX6_byteOf 55 = .ok (.ishr, 1) := by decide +kernel
theorem dX6_byteOf_56 : decode cX6_byteOf 56 = .ok (.sipush 255, 3) := by decide +kernel
theorem dX6_byteOf_59 : decode cX6_byteOf 59 = .ok (.iand, 1) := by decide +kernel
theorem dX6_byteOf_60 : decode cX6_byteOf 60 = .ok (.ireturn, 1) := by decide +kernel
theorem dX6_append_0 : decode cX6_append 0 = .ok (.iconst 0, 1) := by decide +kernel
theorem dX6_append_1 : decode cX6_append 1 = .ok (.istore 6, 2) := by decide +kernel
theorem dX6_append_3 : decode cX6_append 3 = .ok (.iconst 0, 1) := by decide +kernel
theorem dX6_append_4 : decode cX6_append 4 = .ok (.istore 7, 2) := by decide +kernel
theorem dX6_append_6 : decode cX6_append 6 = .ok (.iload 7, 2) := by decide +kernel
theorem dX6_append_8 : decode cX6_append 8 = .ok (.bipush 20, 2) := by decide +kernel
theorem dX6_append_10 : decode cX6_append 10 = .ok (.if_icmp .ge 34, 3) := by decide +kernel
theorem dX6_append_13 : decode cX6_append 13 = .ok (.iload 6, 2) := by decide +kernel
theorem dX6_append_15 : decode cX6_append 15 = .ok (.iload 7, 2) := by decide +kernel
theorem dX6_append_17 : decode cX6_append 17 = .ok (.iload_n 1, 1) := by decide +kernel
theorem dX6_append_18 : decode cX6_append 18 = .ok (.iload_n 2, 1) := by decide +kernel
theorem dX6_append_19 : decode cX6_append 19 = .ok (.iload_n 3, 1) := by decide +kernel
theorem dX6_append_20 : decode cX6_append 20 = .ok (.iload 4, 2) := by decide +kernel
theorem dX6_append_22 : decode cX6_append 22 = .ok (.iload 5, 2) := by decide +kernel
theorem dX6_append_24 : decode cX6_append 24 = .ok (.invokestatic 71, 3) := by decide +kernel
theorem dX6_append_27 : decode cX6_append 27 = .ok (.ifCond .ne 7, 3) := by decide +kernel
theorem dX6_append_30 : decode cX6_append 30 = .ok (.iconst 0, 1) := by decide +kernel
theorem dX6_append_31 : decode cX6_append 31 = .ok (.goto 4, 3) := by decide +kernel
theorem dX6_append_34 : decode cX6_append 34 = .ok (.iconst 1, 1) := by decide +kernel
theorem dX6_append_35 : decode cX6_append 35 = .ok (.iadd, 1) := by decide +kernel
theorem dX6_append_36 : decode cX6_append 36 = .ok (.istore 6, 2) := by decide +kernel
theorem dX6_append_38 : decode cX6_append 38 = .ok (.iinc 7 1, 3) := by decide +kernel
theorem dX6_append_41 : decode cX6_append 41 = .ok (.goto (-35), 3) := by decide +kernel
theorem dX6_append_44 : decode cX6_append 44 = .ok (.aload_n 0, 1) := by decide +kernel
theorem dX6_append_45 : decode cX6_append 45 = .ok (.aload_n 0, 1) := by decide +kernel
theorem dX6_append_46 : decode cX6_append 46 = .ok (.getfield 75, 3) := by decide +kernel
theorem dX6_append_49 : decode cX6_append 49 = .ok (.iload 6, 2) := by decide +kernel
theorem dX6_append_51 : decode cX6_append 51 = .ok (.iadd, 1) := by decide +kernel
theorem dX6_append_52 : decode cX6_append 52 = .ok (.sipush 600, 3) := by decide +kernel
theorem dX6_append_55 : decode cX6_append 55 = .ok (.if_icmp .le 7, 3) := by decide +kernel
theorem dX6_append_58 : decode cX6_append 58 = .ok (.iconst 1, 1) := by decide +kernel
theorem dX6_append_59 : decode cX6_append 59 = .ok (.goto 4, 3) := by decide +kernel
theorem dX6_append_62 : decode cX6_append 62 = .ok (.iconst 0, 1) := by decide +kernel
theorem dX6_append_63 : decode cX6_append 63 = .ok (.putfield 49, 3) := by decide +kernel
theorem dX6_append_66 : decode cX6_append 66 = .ok (.aload_n 0, 1) := by decide +kernel
theorem dX6_append_67 : decode cX6_append 67 = .ok (.getfield 49, 3) := by decide +kernel
theorem dX6_append_70 : decode cX6_append 70 = .ok (.ifCond .le 5, 3) := by decide +kernel
theorem dX6_append_73 : decode cX6_append 73 = .ok (.iconst 0, 1) := by decide +kernel
theorem dX6_append_74 : decode cX6_append 74 = .ok (.ireturn, 1) := by decide +kernel
theorem dX6_append_75 : decode cX6_append 75 = .ok (.iconst 0, 1) := by decide +kernel
theorem dX6_append_76 : decode cX6_append 76 = .ok (.istore 7, 2) := by decide +kernel
theorem dX6_append_78 : decode cX6_append 78 = .ok (.iload 7, 2) := by decide +kernel
theorem dX6_append_80 : decode cX6_append 80 = .ok (.bipush 20, 2) := by decide +kernel
theorem dX6_append_82 : decode cX6_append 82 = .ok (.if_icmp .ge 52, 3) := by decide +kernel
theorem dX6_append_85 : decode cX6_append 85 = .ok (.iload 7, 2) := by decide +kernel
theorem dX6_append_87 : decode cX6_append 87 = .ok (.iload_n 1, 1) := by decide +kernel
theorem dX6_append_88 : decode cX6_append 88 = .ok (.iload_n 2, 1) := by decide +kernel
theorem dX6_append_89 : decode cX6_append 89 = .ok (.iload_n 3, 1) := by decide +kernel
theorem dX6_append_90 : decode cX6_append 90 = .ok (.iload 4, 2) := by decide +kernel
theorem dX6_append_92 : decode cX6_append 92 = .ok (.iload 5, 2) := by decide +kernel
theorem dX6_append_94 : decode cX6_append 94 = .ok (.invokestatic 71, 3) := by decide +kernel
theorem dX6_append_97 : decode cX6_append 97 = .ok (.istore 8, 2) := by decide +kernel
theorem dX6_append_99 : decode cX6_append 99 = .ok (.iload 8, 2) := by decide +kernel
theorem dX6_append_101 : decode cX6_append 101 = .ok (.ifCond .ne 6, 3) := by decide +kernel
theorem dX6_append_104 : decode cX6_append 104 = .ok (.goto 24, 3) := by decide +kernel
theorem dX6_append_107 : decode cX6_append 107 = .ok (.aload_n 0, 1) := by decide +kernel
theorem dX6_append_108 : decode cX6_append 108 = .ok (.getfield 29, 3) := by decide +kernel
theorem dX6_append_111 : decode cX6_append 111 = .ok (.aload_n 0, 1) := by decide +kernel
theorem dX6_append_112 : decode cX6_append 112 = .ok (.getfield 75, 3) := by decide +kernel
theorem dX6_append_115 : decode cX6_append 115 = .ok (.iload 8, 2) := by decide +kernel
theorem dX6_append_117 : decode cX6_append 117 = .ok (.iastore, 1) := by decide +kernel
theorem dX6_append_118 : decode cX6_append 118 = .ok (.aload_n 0, 1) := by decide +kernel
theorem dX6_append_119 : decode cX6_append 119 = .ok (.dup, 1) := by decide +kernel
theorem dX6_append_120 : decode cX6_append 120 = .ok (.getfield 75, 3) := by decide +kernel
theorem dX6_append_123 : decode cX6_append 123 = .ok (.iconst 1, 1) := by decide +kernel
theorem dX6_append_124 : decode cX6_append 124 = .ok (.iadd, 1) := by decide +kernel
theorem dX6_append_125 : decode cX6_append 125 = .ok (.putfield 75, 3) := by decide +kernel
theorem dX6_append_128 : decode cX6_append 128 = .ok (.iinc 7 1, 3) := by decide +kernel
theorem dX6_append_131 : decode cX6_append 131 = .ok (.goto (-53), 3) := by decide +kernel
theorem dX6_append_134 : decode cX6_append 134 = .ok (.aload_n 0, 1) := by decide +kernel
theorem dX6_append_135 : decode cX6_append 135 = .ok (.getfield 75, 3) := by decide +kernel
theorem dX6_append_138 : decode cX6_append 138 = .ok (.ireturn, 1) := by decide +kernel
theorem dX6_see_0 : decode cX6_see 0 = .ok (.iload_n 1, 1) := by decide +kernel
theorem dX6_see_1 : decode cX6_see 1 = .ok (.aload_n 0, 1) := by decide +kernel
theorem dX6_see_2 : decode cX6_see 2 = .ok (.getfield 75, 3) := by decide +kernel
theorem dX6_see_5 : decode cX6_see 5 = .ok (.if_icmp .ge 12, 3) := by decide +kernel
theorem dX6_see_8 : decode cX6_see 8 = .ok (.aload_n 0, 1) := by decide +kernel
theorem dX6_see_9 : decode cX6_see 9 = .ok (.getfield 29, 3) := by decide +kernel
theorem dX6_see_12 : decode cX6_see 12 = .ok (.iload_n 1, 1) := by decide +kernel
theorem dX6_see_13 : decode cX6_see 13 = .ok (.iaload, 1) := by decide +kernel
theorem dX6_see_14 : decode cX6_see 14 = .ok (.goto 4, 3) := by decide +kernel
theorem dX6_see_17 : decode cX6_see 17 = .ok (.iconst (-1), 1) := by decide +kernel
theorem dX6_see_18 : decode cX6_see 18 = .ok (.ireturn, 1) := by decide +kernel
theorem dX6_isLetter_0 : decode cX6_isLetter 0 = .ok (.aload_n 0, 1) := by decide +kernel
theorem dX6_isLetter_1 : decode cX6_isLetter 1 = .ok (.iload_n 1, 1) := by decide +kernel
theorem dX6_isLetter_2 : decode cX6_isLetter 2 = .ok (.invokevirtual 78, 3) := by decide +kernel
theorem dX6_isLetter_5 : decode cX6_isLetter 5 = .ok (.bipush 97, 2) := by decide +kernel
theorem dX6_isLetter_7 : decode cX6_isLetter 7 = .ok (.bipush 122, 2) := by decide +kernel
theorem dX6_isLetter_9 : decode cX6_isLetter 9 = .ok (.invokestatic 59, 3) := by decide +kernel
theorem dX6_isLetter_12 : decode cX6_isLetter 12 = .ok (.ireturn, 1) := by decide +kernel
theorem dX6_isDigit_0 : decode cX6_isDigit 0 = .ok (.aload_n 0, 1) := by decide +kernel
theorem dX6_isDigit_1 : decode cX6_isDigit 1 = .ok (.iload_n 1, 1) := by decide +kernel
theorem dX6_isDigit_2 : decode cX6_isDigit 2 = .ok (.invokevirtual 78, 3) := by decide +kernel
theorem dX6_isDigit_5 : decode cX6_isDigit 5 = .ok (.bipush 48, 2) := by decide +kernel
theorem dX6_isDigit_7 : decode cX6_isDigit 7 = .ok (.bipush 57, 2) := by decide +kernel
theorem dX6_isDigit_9 : decode cX6_isDigit 9 = .ok (.invokestatic 59, 3) := by decide +kernel
theorem dX6_isDigit_12 : decode cX6_isDigit 12 = .ok (.ireturn, 1) := by decide +kernel
theorem dX6_next_0 : decode cX6_next 0 = .ok (.aload_n 0, 1) := by decide +kernel
theorem dX6_next_1 : decode cX6_next 1 = .ok (.aload_n 0, 1) := by decide +kernel
theorem dX6_next_2 : decode cX6_next 2 = .ok (.getfield 82, 3) := by decide +kernel
theorem dX6_next_5 : decode cX6_next 5 = .ok (.putfield 85, 3) := by decide +kernel
theorem dX6_next_8 : decode cX6_next 8 = .ok (.aload_n 0, 1) := by decide +kernel
theorem dX6_next_9 : decode cX6_next 9 = .ok (.aload_n 0, 1) := by decide +kernel
theorem dX6_next_10 : decode cX6_next 10 = .ok (.getfield 85, 3) := by decide +kernel
theorem dX6_next_13 : decode cX6_next 13 = .ok (.invokevirtual 78, 3) := by decide +kernel
theorem dX6_next_16 : decode cX6_next 16 = .ok (.bipush 32, 2) := by decide +kernel
theorem dX6_next_18 : decode cX6_next 18 = .ok (.if_icmp .ne 16, 3) := by decide +kernel
theorem dX6_next_21 : decode cX6_next 21 = .ok (.aload_n 0, 1) := by decide +kernel
theorem dX6_next_22 : decode cX6_next 22 = .ok (.dup, 1) := by decide +kernel
theorem dX6_next_23 : decode cX6_next 23 = .ok (.getfield 85, 3) := by decide +kernel
theorem dX6_next_26 : decode cX6_next 26 = .ok (.iconst 1, 1) := by decide +kernel
theorem dX6_next_27 : decode cX6_next 27 = .ok (.iadd, 1) := by decide +kernel
theorem dX6_next_28 : decode cX6_next 28 = .ok (.putfield 85, 3) := by decide +kernel
theorem dX6_next_31 : decode cX6_next 31 = .ok (.goto (-23), 3) := by decide +kernel
theorem dX6_next_34 : decode cX6_next 34 = .ok (.aload_n 0, 1) := by decide +kernel
theorem dX6_next_35 : decode cX6_next 35 = .ok (.aload_n 0, 1) := by decide +kernel
theorem dX6_next_36 : decode cX6_next 36 = .ok (.getfield 85, 3) := by decide +kernel
theorem dX6_next_39 : decode cX6_next 39 = .ok (.putfield 82, 3) := by decide +kernel
theorem dX6_next_42 : decode cX6_next 42 = .ok (.aload_n 0, 1) := by decide +kernel
theorem dX6_next_43 : decode cX6_next 43 = .ok (.iconst 0, 1) := by decide +kernel
theorem dX6_next_44 : decode cX6_next 44 = .ok (.putfield 88, 3) := by decide +kernel
theorem dX6_next_47 : decode cX6_next 47 = .ok (.aload_n 0, 1) := by decide +kernel
theorem dX6_next_48 : decode cX6_next 48 = .ok (.getfield 85, 3) := by decide +kernel
theorem dX6_next_51 : decode cX6_next 51 = .ok (.aload_n 0, 1) := by decide +kernel
theorem dX6_next_52 : decode cX6_next 52 = .ok (.getfield 75, 3) := by decide +kernel
theorem dX6_next_55 : decode cX6_next 55 = .ok (.if_icmp .lt 11, 3) := by decide +kernel
theorem dX6_next_58 : decode cX6_next 58 = .ok (.aload_n 0, 1) := by decide +kernel
theorem dX6_next_59 : decode cX6_next 59 = .ok (.iconst 3, 1) := by decide +kernel
theorem dX6_next_60 : decode cX6_next 60 = .ok (.putfield 91, 3) := by decide +kernel
theorem dX6_next_63 : decode cX6_next 63 = .ok (.goto 133, 3) := by decide +kernel
theorem dX6_next_66 : decode cX6_next 66 = .ok (.aload_n 0, 1) := by decide +kernel
theorem dX6_next_67 : decode cX6_next 67 = .ok (.aload_n 0, 1) := by decide +kernel
theorem dX6_next_68 : decode cX6_next 68 = .ok (.getfield 85, 3) := by decide +kernel
theorem dX6_next_71 : decode cX6_next 71 = .ok (.invokevirtual 94, 3) := by decide +kernel
theorem dX6_next_74 : decode cX6_next 74 = .ok (.ifCond .eq 35, 3) := by decide +kernel
theorem dX6_next_77 : decode cX6_next 77 = .ok (.aload_n 0, 1) := by decide +kernel
theorem dX6_next_78 : decode cX6_next 78 = .ok (.aload_n 0, 1) := by decide +kernel
theorem dX6_next_79 : decode cX6_next 79 = .ok (.getfield 82, 3) := by decide +kernel
theorem dX6_next_82 : decode cX6_next 82 = .ok (.invokevirtual 94, 3) := by decide +kernel
theorem dX6_next_85 : decode cX6_next 85 = .ok (.ifCond .eq 16, 3) := by decide +kernel
theorem dX6_next_88 : decode cX6_next 88 = .ok (.aload_n 0, 1) := by decide +kernel
theorem dX6_next_89 : decode cX6_next 89 = .ok (.dup, 1) := by decide +kernel
theorem dX6_next_90 : decode cX6_next 90 = .ok (.getfield 82, 3) := by decide +kernel
theorem dX6_next_93 : decode cX6_next 93 = .ok (.iconst 1, 1) := by decide +kernel
theorem dX6_next_94 : decode cX6_next 94 = .ok (.iadd, 1) := by decide +kernel
theorem dX6_next_95 : decode cX6_next 95 = .ok (.putfield 82, 3) := by decide +kernel
theorem dX6_next_98 : decode cX6_next 98 = .ok (.goto (-21), 3) := by decide +kernel
theorem dX6_next_101 : decode cX6_next 101 = .ok (.aload_n 0, 1) := by decide +kernel
theorem dX6_next_102 : decode cX6_next 102 = .ok (.iconst 0, 1) := by decide +kernel
theorem dX6_next_103 : decode cX6_next 103 = .ok (.putfield 91, 3) := by decide +kernel
theorem dX6_next_106 : decode cX6_next 106 = .ok (.goto 90, 3) := by decide +kernel
theorem dX6_next_109 : decode cX6_next 109 = .ok (.aload_n 0, 1) := by decide +kernel
theorem dX6_next_110 : decode cX6_next 110 = .ok (.aload_n 0, 1) := by decide +kernel
theorem dX6_next_111 : decode cX6_next 111 = .ok (.getfield 85, 3) := by decide +kernel
theorem dX6_next_114 : decode cX6_next 114 = .ok (.invokevirtual 98, 3) := by decide +kernel
theorem dX6_next_117 : decode cX6_next 117 = .ok (.ifCond .eq 64, 3) := by decide +kernel
theorem dX6_next_120 : decode cX6_next 120 = .ok (.aload_n 0, 1) := by decide +kernel
theorem dX6_next_121 : decode cX6_next 121 = .ok (.aload_n 0, 1) := by decide +kernel
theorem dX6_next_122 : decode cX6_next 122 = .ok (.getfield 82, 3) := by decide +kernel
theorem dX6_next_125 : decode cX6_next 125 = .ok (.invokevirtual 98, 3) := by decide +kernel
theorem dX6_next_128 : decode cX6_next 128 = .ok (.ifCond .eq 45, 3) := by decide +kernel
theorem dX6_next_131 : decode cX6_next 131 = .ok (.aload_n 0, 1) := by decide +kernel
theorem dX6_next_132 : decode cX6_next 132 = .ok (.sipush 1000, 3) := by decide +kernel
theorem dX6_next_135 : decode cX6_next 135 = .ok (.bipush 10, 2) := by decide +kernel
theorem dX6_next_137 : decode cX6_next 137 = .ok (.aload_n 0, 1) := by decide +kernel
theorem dX6_next_138 : decode cX6_next 138 = .ok (.getfield 88, 3) := by decide +kernel
theorem dX6_next_141 : decode cX6_next 141 = .ok (.imul, 1) := by decide +kernel
theorem dX6_next_142 : decode cX6_next 142 = .ok (.aload_n 0, 1) := by decide +kernel
theorem dX6_next_143 : decode cX6_next 143 = .ok (.aload_n 0, 1) := by decide +kernel
theorem dX6_next_144 : decode cX6_next 144 = .ok (.getfield 82, 3) := by decide +kernel
theorem dX6_next_147 : decode cX6_next 147 = .ok (.invokevirtual 78, 3) := by decide +kernel
theorem dX6_next_150 : decode cX6_next 150 = .ok (.iadd, 1) := by decide +kernel
theorem dX6_next_151 : decode cX6_next 151 = .ok (.bipush 48, 2) := by decide +kernel
theorem dX6_next_153 : decode cX6_next 153 = .ok (.isub, 1) := by decide +kernel
theorem dX6_next_154 : decode cX6_next 154 = .ok (.invokestatic 101, 3) := by decide +kernel
theorem dX6_next_157 : decode cX6_next 157 = .ok (.putfield 88, 3) := by decide +kernel
theorem dX6_next_160 : decode cX6_next 160 = .ok (.aload_n 0, 1) := by decide +kernel
theorem dX6_next_161 : decode cX6_next 161 = .ok (.dup, 1) := by decide +kernel
theorem dX6_next_162 : decode cX6_next 162 = .ok (.getfield 82, 3) := by decide +kernel
theorem dX6_next_165 : decode cX6_next 165 = .ok (.iconst 1, 1) := by decide +kernel
theorem dX6_next_166 : decode cX6_next 166 = .ok (.iadd, 1) := by decide +kernel
theorem dX6_next_167 : decode cX6_next 167 = .ok (.putfield 82, 3) := by decide +kernel
theorem dX6_next_170 : decode cX6_next 170 = .ok (.goto (-50), 3) := by decide +kernel
theorem dX6_next_173 : decode cX6_next 173 = .ok (.aload_n 0, 1) := by decide +kernel
theorem dX6_next_174 : decode cX6_next 174 = .ok (.iconst 1, 1) := by decide +kernel
theorem dX6_next_175 : decode cX6_next 175 = .ok (.putfield 91, 3) := by decide +kernel
theorem dX6_next_178 : decode cX6_next 178 = .ok (.goto 18, 3) := by decide +kernel
theorem dX6_next_181 : decode cX6_next 181 = .ok (.aload_n 0, 1) := by decide +kernel
theorem dX6_next_182 : decode cX6_next 182 = .ok (.dup, 1) := by decide +kernel
theorem dX6_next_183 : decode cX6_next 183 = .ok (.getfield 82, 3) := by decide +kernel
theorem dX6_next_186 : decode cX6_next 186 = .ok (.iconst 1, 1) := by decide +kernel
theorem dX6_next_187 : decode cX6_next 187 = .ok (.iadd, 1) := by decide +kernel
theorem dX6_next_188 : decode cX6_next 188 = .ok (.putfield 82, 3) := by decide +kernel
theorem dX6_next_191 : decode cX6_next 191 = .ok (.aload_n 0, 1) := by decide +kernel
theorem dX6_next_192 : decode cX6_next 192 = .ok (.iconst 2, 1) := by decide +kernel
theorem dX6_next_193 : decode cX6_next 193 = .ok (.putfield 91, 3) := by decide +kernel
theorem dX6_next_196 : decode cX6_next 196 = .ok (.return_, 1) := by decide +kernel
theorem dX6_isWord_0 : decode cX6_isWord 0 = .ok (.aload_n 0, 1) := by decide +kernel
theorem dX6_isWord_1 : decode cX6_isWord 1 = .ok (.getfield 107, 3) := by decide +kernel
theorem dX6_isWord_4 : decode cX6_isWord 4 = .ok (.ifCond .ne 26, 3) := by decide +kernel
theorem dX6_isWord_7 : decode cX6_isWord 7 = .ok (.aload_n 0, 1) := by decide +kernel
theorem dX6_isWord_8 : decode cX6_isWord 8 = .ok (.getfield 91, 3) := by decide +kernel
theorem dX6_isWord_11 : decode cX6_isWord 11 = .ok (.ifCond .ne 19, 3) := by decide +kernel
theorem dX6_isWord_14 : decode cX6_isWord 14 = .ok (.aload_n 0, 1) := by decide +kernel
theorem dX6_isWord_15 : decode cX6_isWord 15 = .ok (.getfield 82, 3) := by decide +kernel
theorem dX6_isWord_18 : decode cX6_isWord 18 = .ok (.aload_n 0, 1) := by decide +kernel
theorem dX6_isWord_19 : decode cX6_isWord 19 = .ok (.getfield 85, 3) := by decide +kernel
theorem dX6_isWord_22 : decode cX6_isWord 22 = .ok (.isub, 1) := by decide +kernel
theorem dX6_isWord_23 : decode cX6_isWord 23 = .ok (.aload_n 1, 1) := by decide +kernel
theorem dX6_isWord_24 : decode cX6_isWord 24 = .ok (.invokevirtual 110, 3) := by decide +kernel
theorem dX6_isWord_27 : decode cX6_isWord 27 = .ok (.if_icmp .eq 5, 3) := by decide +kernel
theorem dX6_isWord_30 : decode cX6_isWord 30 = .ok (.iconst 0, 1) := by decide +kernel
theorem dX6_isWord_31 : decode cX6_isWord 31 = .ok (.ireturn, 1) := by decide +kernel
theorem dX6_isWord_32 : decode cX6_isWord 32 = .ok (.iconst 0, 1) := by decide +kernel
theorem dX6_isWord_33 : decode cX6_isWord 33 = .ok (.istore_n 2, 1) := by decide +kernel
theorem dX6_isWord_34 : decode cX6_isWord 34 = .ok (.iload_n 2, 1) := by decide +kernel
theorem dX6_isWord_35 : decode cX6_isWord 35 = .ok (.aload_n 1, 1) := by decide +kernel
theorem dX6_isWord_36 : decode cX6_isWord 36 = .ok (.invokevirtual 110, 3) := by decide +kernel
theorem dX6_isWord_39 : decode cX6_isWord 39 = .ok (.if_icmp .ge 30, 3) := by decide +kernel
theorem dX6_isWord_42 : decode cX6_isWord 42 = .ok (.aload_n 0, 1) := by decide +kernel
theorem dX6_isWord_43 : decode cX6_isWord 43 = .ok (.getfield 29, 3) := by decide +kernel
theorem dX6_isWord_46 : decode cX6_isWord 46 = .ok (.aload_n 0, 1) := by decide +kernel
theorem dX6_isWord_47 : decode cX6_isWord 47 = .ok (.getfield 85, 3) := by decide +kernel
theorem dX6_isWord_50 : decode cX6_isWord 50 = .ok (.iload_n 2, 1) := by decide +kernel
theorem dX6_isWord_51 : decode cX6_isWord 51 = .ok (.iadd, 1) := by decide +kernel
theorem dX6_isWord_52 : decode cX6_isWord 52 = .ok (.iaload, 1) := by decide +kernel
theorem dX6_isWord_53 : decode cX6_isWord 53 = .ok (.aload_n 1, 1) := by decide +kernel
theorem dX6_isWord_54 : decode cX6_isWord 54 = .ok (.iload_n 2, 1) := by decide +kernel
theorem dX6_isWord_55 : decode cX6_isWord 55 = .ok (.invokevirtual 115, 3) := by decide +kernel
theorem dX6_isWord_58 : decode cX6_isWord 58 = .ok (.if_icmp .eq 5, 3) := by decide +kernel
theorem dX6_isWord_61 : decode cX6_isWord 61 = .ok (.iconst 0, 1) := by decide +kernel
theorem dX6_isWord_62 : decode cX6_isWord 62 = .ok (.ireturn, 1) := by decide +kernel
theorem dX6_isWord_63 : decode cX6_isWord 63 = .ok (.iinc 2 1, 3) := by decide +kernel
theorem dX6_isWord_66 : decode cX6_isWord 66 = .ok (.goto (-32), 3) := by decide +kernel
theorem dX6_isWord_69 : decode cX6_isWord 69 = .ok (.iconst 1, 1) := by decide +kernel
theorem dX6_isWord_70 : decode cX6_isWord 70 = .ok (.ireturn, 1) := by decide +kernel
theorem dX6_fails_0 : decode cX6_fails 0 = .ok (.aload_n 0, 1) := by decide +kernel
theorem dX6_fails_1 : decode cX6_fails 1 = .ok (.getfield 107, 3) := by decide +kernel
theorem dX6_fails_4 : decode cX6_fails 4 = .ok (.ifCond .eq 4, 3) := by decide +kernel
theorem dX6_fails_7 : decode cX6_fails 7 = .ok (.return_, 1) := by decide +kernel
theorem dX6_fails_8 : decode cX6_fails 8 = .ok (.aload_n 0, 1) := by decide +kernel
theorem dX6_fails_9 : decode cX6_fails 9 = .ok (.iload_n 1, 1) := by decide +kernel
theorem dX6_fails_10 : decode cX6_fails 10 = .ok (.putfield 107, 3) := by decide +kernel
theorem dX6_fails_13 : decode cX6_fails 13 = .ok (.aload_n 0, 1) := by decide +kernel
theorem dX6_fails_14 : decode cX6_fails 14 = .ok (.aload_n 0, 1) := by decide +kernel
theorem dX6_fails_15 : decode cX6_fails 15 = .ok (.getfield 85, 3) := by decide +kernel
theorem dX6_fails_18 : decode cX6_fails 18 = .ok (.putfield 119, 3) := by decide +kernel
theorem dX6_fails_21 : decode cX6_fails 21 = .ok (.return_, 1) := by decide +kernel
theorem dX6_must_0 : decode cX6_must 0 = .ok (.iload_n 1, 1) := by decide +kernel
theorem dX6_must_1 : decode cX6_must 1 = .ok (.ifCond .ne 9, 3) := by decide +kernel
theorem dX6_must_4 : decode cX6_must 4 = .ok (.aload_n 0, 1) := by decide +kernel
theorem dX6_must_5 : decode cX6_must 5 = .ok (.bipush (-2), 2) := by decide +kernel
theorem dX6_must_7 : decode cX6_must 7 = .ok (.invokevirtual 122, 3) := by decide +kernel
theorem dX6_must_10 : decode cX6_must 10 = .ok (.aload_n 0, 1) := by decide +kernel
theorem dX6_must_11 : decode cX6_must 11 = .ok (.getfield 107, 3) := by decide +kernel
theorem dX6_must_14 : decode cX6_must 14 = .ok (.ifCond .ne 7, 3) := by decide +kernel
theorem dX6_must_17 : decode cX6_must 17 = .ok (.aload_n 0, 1) := by decide +kernel
theorem dX6_must_18 : decode cX6_must 18 = .ok (.invokevirtual 126, 3) := by decide +kernel
theorem dX6_must_21 : decode cX6_must 21 = .ok (.return_, 1) := by decide +kernel
theorem dX6_mustEnd_0 : decode cX6_mustEnd 0 = .ok (.aload_n 0, 1) := by decide +kernel
theorem dX6_mustEnd_1 : decode cX6_mustEnd 1 = .ok (.aload_n 0, 1) := by decide +kernel
theorem dX6_mustEnd_2 : decode cX6_mustEnd 2 = .ok (.getfield 91, 3) := by decide +kernel
theorem dX6_mustEnd_5 : decode cX6_mustEnd 5 = .ok (.iconst 2, 1) := by decide +kernel
theorem dX6_mustEnd_6 : decode cX6_mustEnd 6 = .ok (.if_icmp .ne 20, 3) := by decide +kernel
theorem dX6_mustEnd_9 : decode cX6_mustEnd 9 = .ok (.aload_n 0, 1) := by decide +kernel
theorem dX6_mustEnd_10 : decode cX6_mustEnd 10 = .ok (.aload_n 0, 1) := by decide +kernel
theorem dX6_mustEnd_11 : decode cX6_mustEnd 11 = .ok (.getfield 85, 3) := by decide +kernel
theorem dX6_mustEnd_14 : decode cX6_mustEnd 14 = .ok (.invokevirtual 78, 3) := by decide +kernel
theorem dX6_mustEnd_17 : decode cX6_mustEnd 17 = .ok (.bipush 59, 2) := by decide +kernel
theorem dX6_mustEnd_19 : decode cX6_mustEnd 19 = .ok (.if_icmp .ne 7, 3) := by decide +kernel
theorem dX6_mustEnd_22 : decode cX6_mustEnd 22 = .ok (.iconst 1, 1) := by decide +kernel
theorem dX6_mustEnd_23 : decode cX6_mustEnd 23 = .ok (.goto 4, 3) := by decide +kernel
theorem dX6_mustEnd_26 : decode cX6_mustEnd 26 = .ok (.iconst 0, 1) := by decide +kernel
theorem dX6_mustEnd_27 : decode cX6_mustEnd 27 = .ok (.invokevirtual 129, 3) := by decide +kernel
theorem dX6_mustEnd_30 : decode cX6_mustEnd 30 = .ok (.return_, 1) := by decide +kernel
theorem dX6_stands_0 : decode cX6_stands 0 = .ok (.aload_n 0, 1) := by decide +kernel
theorem dX6_stands_1 : decode cX6_stands 1 = .ok (.getfield 107, 3) := by decide +kernel
theorem dX6_stands_4 : decode cX6_stands 4 = .ok (.ifCond .ne 17, 3) := by decide +kernel
theorem dX6_stands_7 : decode cX6_stands 7 = .ok (.aload_n 0, 1) := by decide +kernel
theorem dX6_stands_8 : decode cX6_stands 8 = .ok (.getfield 91, 3) := by decide +kernel
theorem dX6_stands_11 : decode cX6_stands 11 = .ok (.iconst 1, 1) := by decide +kernel
theorem dX6_stands_12 : decode cX6_stands 12 = .ok (.if_icmp .eq 9, 3) := by decide +kernel
theorem dX6_stands_15 : decode cX6_stands 15 = .ok (.aload_n 0, 1) := by decide +kernel
theorem dX6_stands_16 : decode cX6_stands 16 = .ok (.bipush (-2), 2) := by decide +kernel
theorem dX6_stands_18 : decode cX6_stands 18 = .ok (.invokevirtual 122, 3) := by decide +kernel
theorem dX6_stands_21 : decode cX6_stands 21 = .ok (.aload_n 0, 1) := by decide +kernel
theorem dX6_stands_22 : decode cX6_stands 22 = .ok (.getfield 107, 3) := by decide +kernel
theorem dX6_stands_25 : decode cX6_stands 25 = .ok (.ifCond .ne 21, 3) := by decide +kernel
theorem dX6_stands_28 : decode cX6_stands 28 = .ok (.aload_n 0, 1) := by decide +kernel
theorem dX6_stands_29 : decode cX6_stands 29 = .ok (.getfield 88, 3) := by decide +kernel
theorem dX6_stands_32 : decode cX6_stands 32 = .ok (.iload_n 1, 1) := by decide +kernel
theorem dX6_stands_33 : decode cX6_stands 33 = .ok (.iload_n 2, 1) := by decide +kernel
theorem dX6_stands_34 : decode cX6_stands 34 = .ok (.invokestatic 59, 3) := by decide +kernel
theorem dX6_stands_37 : decode cX6_stands 37 = .ok (.ifCond .ne 9, 3) := by decide +kernel
theorem dX6_stands_40 : decode cX6_stands 40 = .ok (.aload_n 0, 1) := by decide +kernel
theorem dX6_stands_41 : decode cX6_stands 41 = .ok (.bipush (-3), 2) := by decide +kernel
theorem dX6_stands_43 : decode cX6_stands 43 = .ok (.invokevirtual 122, 3) := by decide +kernel
theorem dX6_stands_46 : decode cX6_stands 46 = .ok (.aload_n 0, 1) := by decide +kernel
theorem dX6_stands_47 : decode cX6_stands 47 = .ok (.getfield 107, 3) := by decide +kernel
theorem dX6_stands_50 : decode cX6_stands 50 = .ok (.ifCond .ne 10, 3) := by decide +kernel
theorem dX6_stands_53 : decode cX6_stands 53 = .ok (.aload_n 0, 1) := by decide +kernel
theorem dX6_stands_54 : decode cX6_stands 54 = .ok (.getfield 88, 3) := by decide +kernel
theorem dX6_stands_57 : decode cX6_stands 57 = .ok (.goto 4, 3) := by decide +kernel
theorem dX6_stands_60 : decode cX6_stands 60 = .ok (.iconst 0, 1) := by decide +kernel
theorem dX6_stands_61 : decode cX6_stands 61 = .ok (.ireturn, 1) := by decide +kernel
theorem dX6_takes_0 : decode cX6_takes 0 = .ok (.aload_n 0, 1) := by decide +kernel
theorem dX6_takes_1 : decode cX6_takes 1 = .ok (.iload_n 1, 1) := by decide +kernel
theorem dX6_takes_2 : decode cX6_takes 2 = .ok (.iload_n 2, 1) := by decide +kernel
theorem dX6_takes_3 : decode cX6_takes 3 = .ok (.invokevirtual 133, 3) := by decide +kernel
theorem dX6_takes_6 : decode cX6_takes 6 = .ok (.istore_n 3, 1) := by decide +kernel
theorem dX6_takes_7 : decode cX6_takes 7 = .ok (.aload_n 0, 1) := by decide +kernel
theorem dX6_takes_8 : decode cX6_takes 8 = .ok (.getfield 107, 3) := by decide +kernel
theorem dX6_takes_11 : decode cX6_takes 11 = .ok (.ifCond .ne 7, 3) := by decide +kernel
theorem dX6_takes_14 : decode cX6_takes 14 = .ok (.aload_n 0, 1) := by decide +kernel
theorem dX6_takes_15 : decode cX6_takes 15 = .ok (.invokevirtual 126, 3) := by decide +kernel
theorem dX6_takes_18 : decode cX6_takes 18 = .ok (.iload_n 3, 1) := by decide +kernel
theorem dX6_takes_19 : decode cX6_takes 19 = .ok (.ireturn, 1) := by decide +kernel
theorem dX6_mustName_0 : decode cX6_mustName 0 = .ok (.aload_n 0, 1) := by decide +kernel
theorem dX6_mustName_1 : decode cX6_mustName 1 = .ok (.getfield 107, 3) := by decide +kernel
theorem dX6_mustName_4 : decode cX6_mustName 4 = .ok (.ifCond .ne 30, 3) := by decide +kernel
theorem dX6_mustName_7 : decode cX6_mustName 7 = .ok (.aload_n 0, 1) := by decide +kernel
theorem dX6_mustName_8 : decode cX6_mustName 8 = .ok (.getfield 91, 3) := by decide +kernel
theorem dX6_mustName_11 : decode cX6_mustName 11 = .ok (.ifCond .ne 17, 3) := by decide +kernel
theorem dX6_mustName_14 : decode cX6_mustName 14 = .ok (.aload_n 0, 1) := by decide +kernel
theorem dX6_mustName_15 : decode cX6_mustName 15 = .ok (.getfield 82, 3) := by decide +kernel
theorem dX6_mustName_18 : decode cX6_mustName 18 = .ok (.aload_n 0, 1) := by decide +kernel
theorem dX6_mustName_19 : decode cX6_mustName 19 = .ok (.getfield 85, 3) := by decide +kernel
theorem dX6_mustName_22 : decode cX6_mustName 22 = .ok (.isub, 1) := by decide +kernel
theorem dX6_mustName_23 : decode cX6_mustName 23 = .ok (.bipush 8, 2) := by decide +kernel
theorem dX6_mustName_25 : decode cX6_mustName 25 = .ok (.if_icmp .le 9, 3) := by decide +kernel
theorem dX6_mustName_28 : decode cX6_mustName 28 = .ok (.aload_n 0, 1) := by decide +kernel
theorem dX6_mustName_29 : decode cX6_mustName 29 = .ok (.bipush (-2), 2) := by decide +kernel
theorem dX6_mustName_31 : decode cX6_mustName 31 = .ok (.invokevirtual 122, 3) := by decide +kernel
theorem dX6_mustName_34 : decode cX6_mustName 34 = .ok (.return_, 1) := by decide +kernel
theorem dX6_named_0 : decode cX6_named 0 = .ok (.iconst 0, 1) := by decide +kernel
theorem dX6_named_1 : decode cX6_named 1 = .ok (.istore 4, 2) := by decide +kernel
theorem dX6_named_3 : decode cX6_named 3 = .ok (.iload 4, 2) := by decide +kernel
theorem dX6_named_5 : decode cX6_named 5 = .ok (.iload_n 2, 1) := by decide +kernel
theorem dX6_named_6 : decode cX6_named 6 = .ok (.if_icmp .ge 102, 3) := by decide +kernel
theorem dX6_named_9 : decode cX6_named 9 = .ok (.aload_n 0, 1) := by decide +kernel
theorem dX6_named_10 : decode cX6_named 10 = .ok (.getfield 107, 3) := by decide +kernel
theorem dX6_named_13 : decode cX6_named 13 = .ok (.ifCond .ne 95, 3) := by decide +kernel
theorem dX6_named_16 : decode cX6_named 16 = .ok (.iconst 1, 1) := by decide +kernel
theorem dX6_named_17 : decode cX6_named 17 = .ok (.istore 5, 2) := by decide +kernel
theorem dX6_named_19 : decode cX6_named 19 = .ok (.iconst 0, 1) := by decide +kernel
theorem dX6_named_20 : decode cX6_named 20 = .ok (.istore 6, 2) := by decide +kernel
theorem dX6_named_22 : decode cX6_named 22 = .ok (.iload 6, 2) := by decide +kernel
theorem dX6_named_24 : decode cX6_named 24 = .ok (.bipush 8, 2) := by decide +kernel
theorem dX6_named_26 : decode cX6_named 26 = .ok (.if_icmp .ge 68, 3) := by decide +kernel
theorem dX6_named_29 : decode cX6_named 29 = .ok (.iload 5, 2) := by decide +kernel
theorem dX6_named_31 : decode cX6_named 31 = .ok (.ifCond .eq 54, 3) := by decide +kernel
theorem dX6_named_34 : decode cX6_named 34 = .ok (.aload_n 0, 1) := by decide +kernel
theorem dX6_named_35 : decode cX6_named 35 = .ok (.getfield 7, 3) := by decide +kernel
theorem dX6_named_38 : decode cX6_named 38 = .ok (.iload_n 1, 1) := by decide +kernel
theorem dX6_named_39 : decode cX6_named 39 = .ok (.iload_n 3, 1) := by decide +kernel
theorem dX6_named_40 : decode cX6_named 40 = .ok (.iload 4, 2) := by decide +kernel
theorem dX6_named_42 : decode cX6_named 42 = .ok (.imul, 1) := by decide +kernel
theorem dX6_named_43 : decode cX6_named 43 = .ok (.iadd, 1) := by decide +kernel
theorem dX6_named_44 : decode cX6_named 44 = .ok (.iload 6, 2) := by decide +kernel
theorem dX6_named_46 : decode cX6_named 46 = .ok (.iadd, 1) := by decide +kernel
theorem dX6_named_47 : decode cX6_named 47 = .ok (.iaload, 1) := by decide +kernel
theorem dX6_named_48 : decode cX6_named 48 = .ok (.aload_n 0, 1) := by decide +kernel
theorem dX6_named_49 : decode cX6_named 49 = .ok (.getfield 85, 3) := by decide +kernel
theorem dX6_named_52 : decode cX6_named 52 = .ok (.iload 6, 2) := by decide +kernel
theorem dX6_named_54 : decode cX6_named 54 = .ok (.iadd, 1) := by decide +kernel
theorem dX6_named_55 : decode cX6_named 55 = .ok (.aload_n 0, 1) := by decide +kernel
theorem dX6_named_56 : decode cX6_named 56 = .ok (.getfield 82, 3) := by decide +kernel
theorem dX6_named_59 : decode cX6_named 59 = .ok (.if_icmp .ge 18, 3) := by decide +kernel
theorem dX6_named_62 : decode cX6_named 62 = .ok (.aload_n 0, 1) := by decide +kernel
theorem dX6_named_63 : decode cX6_named 63 = .ok (.getfield 29, 3) := by decide +kernel
theorem dX6_named_66 : decode cX6_named 66 = .ok (.aload_n 0, 1) := by decide +kernel
theorem dX6_named_67 : decode cX6_named 67 = .ok (.getfield 85, 3) := by decide +kernel
theorem dX6_named_70 : decode cX6_named 70 = .ok (.iload 6, 2) := by decide +kernel
theorem dX6_named_72 : decode cX6_named 72 = .ok (.iadd, 1) := by decide +kernel
theorem dX6_named_73 : decode cX6_named 73 = .ok (.iaload, 1) := by decide +kernel
theorem dX6_named_74 : decode cX6_named 74 = .ok (.goto 4, 3) := by decide +kernel
theorem dX6_named_77 : decode cX6_named 77 = .ok (.iconst 0, 1) := by decide +kernel
theorem dX6_named_78 : decode cX6_named 78 = .ok (.if_icmp .ne 7, 3) := by decide +kernel
theorem dX6_named_81 : decode cX6_named 81 = .ok (.iconst 1, 1) := by decide +kernel
theorem dX6_named_82 : decode cX6_named 82 = .ok (.goto 4, 3) := by decide +kernel
theorem dX6_named_85 : decode cX6_named 85 = .ok (.iconst 0, 1) := by decide +kernel
theorem dX6_named_86 : decode cX6_named 86 = .ok (.istore 5, 2) := by decide +kernel
theorem dX6_named_88 : decode cX6_named 88 = .ok (.iinc 6 1, 3) := by decide +kernel
theorem dX6_named_91 : decode cX6_named 91 = .ok (.goto (-69), 3) := by decide +kernel
theorem dX6_named_94 : decode cX6_named 94 = .ok (.iload 5, 2) := by decide +kernel
theorem dX6_named_96 : decode cX6_named 96 = .ok (.ifCond .eq 6, 3) := by decide +kernel
theorem dX6_named_99 : decode cX6_named 99 = .ok (.iload 4, 2) := by decide +kernel
theorem dX6_named_101 : decode cX6_named 101 = .ok (.ireturn, 1) := by decide +kernel
theorem dX6_named_102 : decode cX6_named 102 = .ok (.iinc 4 1, 3) := by decide +kernel
theorem dX6_named_105 : decode cX6_named 105 = .ok (.goto (-102), 3) := by decide +kernel
theorem dX6_named_108 : decode cX6_named 108 = .ok (.iconst (-1), 1) := by decide +kernel
theorem dX6_named_109 : decode cX6_named 109 = .ok (.ireturn, 1) := by decide +kernel
theorem dX6_putsName_0 : decode cX6_putsName 0 = .ok (.iconst 0, 1) := by decide +kernel
theorem dX6_putsName_1 : decode cX6_putsName 1 = .ok (.istore_n 2, 1) := by decide +kernel
theorem dX6_putsName_2 : decode cX6_putsName 2 = .ok (.iload_n 2, 1) := by decide +kernel
theorem dX6_putsName_3 : decode cX6_putsName 3 = .ok (.bipush 8, 2) := by decide +kernel
theorem dX6_putsName_5 : decode cX6_putsName 5 = .ok (.if_icmp .ge 45, 3) := by decide +kernel
theorem dX6_putsName_8 : decode cX6_putsName 8 = .ok (.aload_n 0, 1) := by decide +kernel
theorem dX6_putsName_9 : decode cX6_putsName 9 = .ok (.getfield 7, 3) := by decide +kernel
theorem dX6_putsName_12 : decode cX6_putsName 12 = .ok (.iload_n 1, 1) := by decide +kernel
theorem dX6_putsName_13 : decode cX6_putsName 13 = .ok (.iload_n 2, 1) := by decide +kernel
theorem dX6_putsName_14 : decode cX6_putsName 14 = .ok (.iadd, 1) := by decide +kernel
theorem dX6_putsName_15 : decode cX6_putsName 15 = .ok (.aload_n 0, 1) := by decide +kernel
theorem dX6_putsName_16 : decode cX6_putsName 16 = .ok (.getfield 85, 3) := by decide +kernel
theorem dX6_putsName_19 : decode cX6_putsName 19 = .ok (.iload_n 2, 1) := by decide +kernel
theorem dX6_putsName_20 : decode cX6_putsName 20 = .ok (.iadd, 1) := by decide +kernel
theorem dX6_putsName_21 : decode cX6_putsName 21 = .ok (.aload_n 0, 1) := by decide +kernel
theorem dX6_putsName_22 : decode cX6_putsName 22 = .ok (.getfield 82, 3) := by decide +kernel
theorem dX6_putsName_25 : decode cX6_putsName 25 = .ok (.if_icmp .ge 17, 3) := by decide +kernel
theorem dX6_putsName_28 : decode cX6_putsName 28 = .ok (.aload_n 0, 1) := by decide +kernel
theorem dX6_putsName_29 : decode cX6_putsName 29 = .ok (.getfield 29, 3) := by decide +kernel
theorem dX6_putsName_32 : decode cX6_putsName 32 = .ok (.aload_n 0, 1) := by decide +kernel
theorem dX6_putsName_33 : decode cX6_putsName 33 = .ok (.getfield 85, 3) := by decide +kernel
theorem dX6_putsName_36 : decode cX6_putsName 36 = .ok (.iload_n 2, 1) := by decide +kernel
theorem dX6_putsName_37 : decode cX6_putsName 37 = .ok (.iadd, 1) := by decide +kernel
theorem dX6_putsName_38 : decode cX6_putsName 38 = .ok (.iaload, 1) := by decide +kernel
theorem dX6_putsName_39 : decode cX6_putsName 39 = .ok (.goto 4, 3) := by decide +kernel
theorem dX6_putsName_42 : decode cX6_putsName 42 = .ok (.iconst 0, 1) := by decide +kernel
theorem dX6_putsName_43 : decode cX6_putsName 43 = .ok (.iastore, 1) := by decide +kernel
theorem dX6_putsName_44 : decode cX6_putsName 44 = .ok (.iinc 2 1, 3) := by decide +kernel
theorem dX6_putsName_47 : decode cX6_putsName 47 = .ok (.goto (-45), 3) := by decide +kernel
theorem dX6_putsName_50 : decode cX6_putsName 50 = .ok (.return_, 1) := by decide +kernel
theorem dX6_familyHere_0 : decode cX6_familyHere 0 = .ok (.aload_n 0, 1) := by decide +kernel
theorem dX6_familyHere_1 : decode cX6_familyHere 1 = .ok (.invokevirtual 136, 3) := by decide +kernel
theorem dX6_familyHere_4 : decode cX6_familyHere 4 = .ok (.aload_n 0, 1) := by decide +kernel
theorem dX6_familyHere_5 : decode cX6_familyHere 5 = .ok (.bipush 9, 2) := by decide +kernel
theorem dX6_familyHere_7 : decode cX6_familyHere 7 = .ok (.aload_n 0, 1) := by decide +kernel
theorem dX6_familyHere_8 : decode cX6_familyHere 8 = .ok (.invokevirtual 67, 3) := by decide +kernel
theorem dX6_familyHere_11 : decode cX6_familyHere 11 = .ok (.bipush 12, 2) := by decide +kernel
theorem dX6_familyHere_13 : decode cX6_familyHere 13 = .ok (.invokevirtual 139, 3) := by decide +kernel
theorem dX6_familyHere_16 : decode cX6_familyHere 16 = .ok (.istore_n 1, 1) := by decide +kernel
theorem dX6_familyHere_17 : decode cX6_familyHere 17 = .ok (.iload_n 1, 1) := by decide +kernel
theorem dX6_familyHere_18 : decode cX6_familyHere 18 = .ok (.iconst (-1), 1) := by decide +kernel
theorem dX6_familyHere_19 : decode cX6_familyHere 19 = .ok (.if_icmp .ne 9, 3) := by decide +kernel
theorem dX6_familyHere_22 : decode cX6_familyHere 22 = .ok (.aload_n 0, 1) := by decide +kernel
theorem dX6_familyHere_23 : decode cX6_familyHere 23 = .ok (.bipush (-4), 2) := by decide +kernel
theorem dX6_familyHere_25 : decode cX6_familyHere 25 = .ok (.invokevirtual 122, 3) := by decide +kernel
theorem dX6_familyHere_28 : decode cX6_familyHere 28 = .ok (.iload_n 1, 1) := by decide +kernel
theorem dX6_familyHere_29 : decode cX6_familyHere 29 = .ok (.ireturn, 1) := by decide +kernel
theorem dX6_readsFamily_0 : decode cX6_readsFamily 0 = .ok (.aload_n 0, 1) := by decide +kernel
theorem dX6_readsFamily_1 : decode cX6_readsFamily 1 = .ok (.invokevirtual 67, 3) := by decide +kernel
theorem dX6_readsFamily_4 : decode cX6_readsFamily 4 = .ok (.istore_n 1, 1) := by decide +kernel
theorem dX6_readsFamily_5 : decode cX6_readsFamily 5 = .ok (.iload_n 1, 1) := by decide +kernel
theorem dX6_readsFamily_6 : decode cX6_readsFamily 6 = .ok (.bipush 10, 2) := by decide +kernel
theorem dX6_readsFamily_8 : decode cX6_readsFamily 8 = .ok (.if_icmp .ne 9, 3) := by decide +kernel
theorem dX6_readsFamily_11 : decode cX6_readsFamily 11 = .ok (.aload_n 0, 1) := by decide +kernel
theorem dX6_readsFamily_12 : decode cX6_readsFamily 12 = .ok (.bipush (-7), 2) := by decide +kernel
theorem dX6_readsFamily_14 : decode cX6_readsFamily 14 = .ok (.invokevirtual 122, 3) := by decide +kernel
theorem dX6_readsFamily_17 : decode cX6_readsFamily 17 = .ok (.aload_n 0, 1) := by decide +kernel
theorem dX6_readsFamily_18 : decode cX6_readsFamily 18 = .ok (.aload_n 0, 1) := by decide +kernel
theorem dX6_readsFamily_19 : decode cX6_readsFamily 19 = .ok (.ldc 143, 2) := by decide +kernel
theorem dX6_readsFamily_21 : decode cX6_readsFamily 21 = .ok (.invokevirtual 145, 3) := by decide +kernel
theorem dX6_readsFamily_24 : decode cX6_readsFamily 24 = .ok (.invokevirtual 129, 3) := by decide +kernel
theorem dX6_readsFamily_27 : decode cX6_readsFamily 27 = .ok (.aload_n 0, 1) := by decide +kernel
theorem dX6_readsFamily_28 : decode cX6_readsFamily 28 = .ok (.invokevirtual 136, 3) := by decide +kernel
theorem dX6_readsFamily_31 : decode cX6_readsFamily 31 = .ok (.aload_n 0, 1) := by decide +kernel
theorem dX6_readsFamily_32 : decode cX6_readsFamily 32 = .ok (.bipush 9, 2) := by decide +kernel
theorem dX6_readsFamily_34 : decode cX6_readsFamily 34 = .ok (.iload_n 1, 1) := by decide +kernel
theorem dX6_readsFamily_35 : decode cX6_readsFamily 35 = .ok (.bipush 12, 2) := by decide +kernel
theorem dX6_readsFamily_37 : decode cX6_readsFamily 37 = .ok (.invokevirtual 139, 3) := by decide +kernel
theorem dX6_readsFamily_40 : decode cX6_readsFamily 40 = .ok (.iconst (-1), 1) := by decide +kernel
theorem dX6_readsFamily_41 : decode cX6_readsFamily 41 = .ok (.if_icmp .eq 9, 3) := by decide +kernel
theorem dX6_readsFamily_44 : decode cX6_readsFamily 44 = .ok (.aload_n 0, 1) := by decide +kernel
theorem dX6_readsFamily_45 : decode cX6_readsFamily 45 = .ok (.bipush (-5), 2) := by decide +kernel
theorem dX6_readsFamily_47 : decode cX6_readsFamily 47 = .ok (.invokevirtual 122, 3) := by decide +kernel
theorem dX6_readsFamily_50 : decode cX6_readsFamily 50 = .ok (.aload_n 0, 1) := by decide +kernel
theorem dX6_readsFamily_51 : decode cX6_readsFamily 51 = .ok (.getfield 107, 3) := by decide +kernel
theorem dX6_readsFamily_54 : decode cX6_readsFamily 54 = .ok (.ifCond .eq 4, 3) := by decide +kernel
theorem dX6_readsFamily_57 : decode cX6_readsFamily 57 = .ok (.return_, 1) := by decide +kernel
theorem dX6_readsFamily_58 : decode cX6_readsFamily 58 = .ok (.aload_n 0, 1) := by decide +kernel
theorem dX6_readsFamily_59 : decode cX6_readsFamily 59 = .ok (.iconst 5, 1) := by decide +kernel
theorem dX6_readsFamily_60 : decode cX6_readsFamily 60 = .ok (.bipush 12, 2) := by decide +kernel
theorem dX6_readsFamily_62 : decode cX6_readsFamily 62 = .ok (.iload_n 1, 1) := by decide +kernel
theorem dX6_readsFamily_63 : decode cX6_readsFamily 63 = .ok (.imul, 1) := by decide +kernel
theorem dX6_readsFamily_64 : decode cX6_readsFamily 64 = .ok (.iadd, 1) := by decide +kernel
theorem dX6_readsFamily_65 : decode cX6_readsFamily 65 = .ok (.iconst 4, 1) := by decide +kernel
theorem dX6_readsFamily_66 : decode cX6_readsFamily 66 = .ok (.iadd, 1) := by decide +kernel
theorem dX6_readsFamily_67 : decode cX6_readsFamily 67 = .ok (.invokevirtual 149, 3) := by decide +kernel
theorem dX6_readsFamily_70 : decode cX6_readsFamily 70 = .ok (.aload_n 0, 1) := by decide +kernel
theorem dX6_readsFamily_71 : decode cX6_readsFamily 71 = .ok (.invokevirtual 126, 3) := by decide +kernel
theorem dX6_readsFamily_74 : decode cX6_readsFamily 74 = .ok (.aload_n 0, 1) := by decide +kernel
theorem dX6_readsFamily_75 : decode cX6_readsFamily 75 = .ok (.iload_n 1, 1) := by decide +kernel
theorem dX6_readsFamily_76 : decode cX6_readsFamily 76 = .ok (.iconst 0, 1) := by decide +kernel
theorem dX6_readsFamily_77 : decode cX6_readsFamily 77 = .ok (.aload_n 0, 1) := by decide +kernel
theorem dX6_readsFamily_78 : decode cX6_readsFamily 78 = .ok (.iconst 1, 1) := by decide +kernel
theorem dX6_readsFamily_79 : decode cX6_readsFamily 79 = .ok (.bipush 20, 2) := by decide +kernel
theorem dX6_readsFamily_81 : decode cX6_readsFamily 81 = .ok (.invokevirtual 152, 3) := by decide +kernel
theorem dX6_readsFamily_84 : decode cX6_readsFamily 84 = .ok (.invokevirtual 45, 3) := by decide +kernel
theorem dX6_readsFamily_87 : decode cX6_readsFamily 87 = .ok (.aload_n 0, 1) := by decide +kernel
theorem dX6_readsFamily_88 : decode cX6_readsFamily 88 = .ok (.invokevirtual 155, 3) := by decide +kernel
theorem dX6_readsFamily_91 : decode cX6_readsFamily 91 = .ok (.aload_n 0, 1) := by decide +kernel
theorem dX6_readsFamily_92 : decode cX6_readsFamily 92 = .ok (.getfield 7, 3) := by decide +kernel
theorem dX6_readsFamily_95 : decode cX6_readsFamily 95 = .ok (.iconst 1, 1) := by decide +kernel
theorem dX6_readsFamily_96 : decode cX6_readsFamily 96 = .ok (.dup2, 1) := by decide +kernel
theorem dX6_readsFamily_97 : decode cX6_readsFamily 97 = .ok (.iaload, 1) := by decide +kernel
theorem dX6_readsFamily_98 : decode cX6_readsFamily 98 = .ok (.iconst 1, 1) := by decide +kernel
theorem dX6_readsFamily_99 : decode cX6_readsFamily 99 = .ok (.iadd, 1) := by decide +kernel
theorem dX6_readsFamily_100 : decode cX6_readsFamily 100 = .ok (.iastore, 1) := by decide +kernel
theorem dX6_readsFamily_101 : decode cX6_readsFamily 101 = .ok (.return_, 1) := by decide +kernel
theorem dX6_readsNear_0 : decode cX6_readsNear 0 = .ok (.aload_n 0, 1) := by decide +kernel
theorem dX6_readsNear_1 : decode cX6_readsNear 1 = .ok (.iconst 1, 1) := by decide +kernel
theorem dX6_readsNear_2 : decode cX6_readsNear 2 = .ok (.invokevirtual 129, 3) := by decide +kernel
theorem dX6_readsNear_5 : decode cX6_readsNear 5 = .ok (.aload_n 0, 1) := by decide +kernel
theorem dX6_readsNear_6 : decode cX6_readsNear 6 = .ok (.invokevirtual 158, 3) := by decide +kernel
theorem dX6_readsNear_9 : decode cX6_readsNear 9 = .ok (.istore_n 1, 1) := by decide +kernel
theorem dX6_readsNear_10 : decode cX6_readsNear 10 = .ok (.aload_n 0, 1) := by decide +kernel
theorem dX6_readsNear_11 : decode cX6_readsNear 11 = .ok (.iconst 1, 1) := by decide +kernel
theorem dX6_readsNear_12 : decode cX6_readsNear 12 = .ok (.invokevirtual 129, 3) := by decide +kernel
theorem dX6_readsNear_15 : decode cX6_readsNear 15 = .ok (.aload_n 0, 1) := by decide +kernel
theorem dX6_readsNear_16 : decode cX6_readsNear 16 = .ok (.invokevirtual 158, 3) := by decide +kernel
theorem dX6_readsNear_19 : decode cX6_readsNear 19 = .ok (.istore_n 2, 1) := by decide +kernel
theorem dX6_readsNear_20 : decode cX6_readsNear 20 = .ok (.aload_n 0, 1) := by decide +kernel
theorem dX6_readsNear_21 : decode cX6_readsNear 21 = .ok (.getfield 107, 3) := by decide +kernel
theorem dX6_readsNear_24 : decode cX6_readsNear 24 = .ok (.ifCond .ne 23, 3) := by decide +kernel
theorem dX6_readsNear_27 : decode cX6_readsNear 27 = .ok (.iload_n 1, 1) := by decide +kernel
theorem dX6_readsNear_28 : decode cX6_readsNear 28 = .ok (.iload_n 2, 1) := by decide +kernel
theorem dX6_readsNear_29 : decode cX6_readsNear 29 = .ok (.if_icmp .eq 12, 3) := by decide +kernel
theorem dX6_readsNear_32 : decode cX6_readsNear 32 = .ok (.aload_n 0, 1) := by decide +kernel
theorem dX6_readsNear_33 : decode cX6_readsNear 33 = .ok (.iload_n 1, 1) := by decide +kernel
theorem dX6_readsNear_34 : decode cX6_readsNear 34 = .ok (.iload_n 2, 1) := by decide +kernel
theorem dX6_readsNear_35 : decode cX6_readsNear 35 = .ok (.invokevirtual 161, 3) := by decide +kernel
theorem dX6_readsNear_38 : decode cX6_readsNear 38 = .ok (.ifCond .eq 9, 3) := by decide +kernel
theorem dX6_readsNear_41 : decode cX6_readsNear 41 = .ok (.aload_n 0, 1) := by decide +kernel
theorem dX6_readsNear_42 : decode cX6_readsNear 42 = .ok (.bipush (-5), 2) := by decide +kernel
theorem dX6_readsNear_44 : decode cX6_readsNear 44 = .ok (.invokevirtual 122, 3) := by decide +kernel
theorem dX6_readsNear_47 : decode cX6_readsNear 47 = .ok (.aload_n 0, 1) := by decide +kernel
theorem dX6_readsNear_48 : decode cX6_readsNear 48 = .ok (.iconst 1, 1) := by decide +kernel
theorem dX6_readsNear_49 : decode cX6_readsNear 49 = .ok (.invokevirtual 129, 3) := by decide +kernel
theorem dX6_readsNear_52 : decode cX6_readsNear 52 = .ok (.aload_n 0, 1) := by decide +kernel
theorem dX6_readsNear_53 : decode cX6_readsNear 53 = .ok (.getfield 107, 3) := by decide +kernel
theorem dX6_readsNear_56 : decode cX6_readsNear 56 = .ok (.ifCond .ne 9, 3) := by decide +kernel
theorem dX6_readsNear_59 : decode cX6_readsNear 59 = .ok (.aload_n 0, 1) := by decide +kernel
theorem dX6_readsNear_60 : decode cX6_readsNear 60 = .ok (.iload_n 1, 1) := by decide +kernel
theorem dX6_readsNear_61 : decode cX6_readsNear 61 = .ok (.iload_n 2, 1) := by decide +kernel
theorem dX6_readsNear_62 : decode cX6_readsNear 62 = .ok (.invokevirtual 165, 3) := by decide +kernel
theorem dX6_readsNear_65 : decode cX6_readsNear 65 = .ok (.aload_n 0, 1) := by decide +kernel
theorem dX6_readsNear_66 : decode cX6_readsNear 66 = .ok (.invokevirtual 155, 3) := by decide +kernel
theorem dX6_readsNear_69 : decode cX6_readsNear 69 = .ok (.return_, 1) := by decide +kernel
theorem dX6_readsPicture_0 : decode cX6_readsPicture 0 = .ok (.aload_n 0, 1) := by decide +kernel
theorem dX6_readsPicture_1 : decode cX6_readsPicture 1 = .ok (.invokevirtual 169, 3) := by decide +kernel
theorem dX6_readsPicture_4 : decode cX6_readsPicture 4 = .ok (.istore_n 1, 1) := by decide +kernel
theorem dX6_readsPicture_5 : decode cX6_readsPicture 5 = .ok (.iload_n 1, 1) := by decide +kernel
theorem dX6_readsPicture_6 : decode cX6_readsPicture 6 = .ok (.bipush 12, 2) := by decide +kernel
theorem dX6_readsPicture_8 : decode cX6_readsPicture 8 = .ok (.if_icmp .ne 9, 3) := by decide +kernel
theorem dX6_readsPicture_11 : decode cX6_readsPicture 11 = .ok (.aload_n 0, 1) := by decide +kernel
theorem dX6_readsPicture_12 : decode cX6_readsPicture 12 = .ok (.bipush (-7), 2) := by decide +kernel
theorem dX6_readsPicture_14 : decode cX6_readsPicture 14 = .ok (.invokevirtual 122, 3) := by decide +kernel
theorem dX6_readsPicture_17 : decode cX6_readsPicture 17 = .ok (.aload_n 0, 1) := by decide +kernel
theorem dX6_readsPicture_18 : decode cX6_readsPicture 18 = .ok (.iconst 1, 1) := by decide +kernel
theorem dX6_readsPicture_19 : decode cX6_readsPicture 19 = .ok (.invokevirtual 129, 3) := by decide +kernel
theorem dX6_readsPicture_22 : decode cX6_readsPicture 22 = .ok (.aload_n 0, 1) := by decide +kernel
theorem dX6_readsPicture_23 : decode cX6_readsPicture 23 = .ok (.invokevirtual 136, 3) := by decide +kernel
theorem dX6_readsPicture_26 : decode cX6_readsPicture 26 = .ok (.aload_n 0, 1) := by decide +kernel
theorem dX6_readsPicture_27 : decode cX6_readsPicture 27 = .ok (.bipush 126, 2) := by decide +kernel
theorem dX6_readsPicture_29 : decode cX6_readsPicture 29 = .ok (.iload_n 1, 1) := by decide +kernel
theorem dX6_readsPicture_30 : decode cX6_readsPicture 30 = .ok (.bipush 19, 2) := by decide +kernel
theorem dX6_readsPicture_32 : decode cX6_readsPicture 32 = .ok (.invokevirtual 139, 3) := by decide +kernel
theorem dX6_readsPicture_35 : decode cX6_readsPicture 35 = .ok (.iconst (-1), 1) := by decide +kernel
theorem dX6_readsPicture_36 : decode cX6_readsPicture 36 = .ok (.if_icmp .eq 9, 3) := by decide +kernel
theorem dX6_readsPicture_39 : decode cX6_readsPicture 39 = .ok (.aload_n 0, 1) := by decide +kernel
theorem dX6_readsPicture_40 : decode cX6_readsPicture 40 = .ok (.bipush (-5), 2) := by decide +kernel
theorem dX6_readsPicture_42 : decode cX6_readsPicture 42 = .ok (.invokevirtual 122, 3) := by decide +kernel
theorem dX6_readsPicture_45 : decode cX6_readsPicture 45 = .ok (.aload_n 0, 1) := by decide +kernel
theorem dX6_readsPicture_46 : decode cX6_readsPicture 46 = .ok (.getfield 107, 3) := by decide +kernel
theorem dX6_readsPicture_49 : decode cX6_readsPicture 49 = .ok (.ifCond .eq 4, 3) := by decide +kernel
theorem dX6_readsPicture_52 : decode cX6_readsPicture 52 = .ok (.return_, 1) := by decide +kernel
theorem dX6_readsPicture_53 : decode cX6_readsPicture 53 = .ok (.iconst 0, 1) := by decide +kernel
theorem dX6_readsPicture_54 : decode cX6_readsPicture 54 = .ok (.istore_n 2, 1) := by decide +kernel
theorem dX6_readsPicture_55 : decode cX6_readsPicture 55 = .ok (.iload_n 2, 1) := by decide +kernel
theorem dX6_readsPicture_56 : decode cX6_readsPicture 56 = .ok (.bipush 10, 2) := by decide +kernel
theorem dX6_readsPicture_58 : decode cX6_readsPicture 58 = .ok (.if_icmp .ge 16, 3) := by decide +kernel
theorem dX6_readsPicture_61 : decode cX6_readsPicture 61 = .ok (.aload_n 0, 1) := by decide +kernel
theorem dX6_readsPicture_62 : decode cX6_readsPicture 62 = .ok (.iload_n 1, 1) := by decide +kernel
theorem dX6_readsPicture_63 : decode cX6_readsPicture 63 = .ok (.iload_n 2, 1) := by decide +kernel
theorem dX6_readsPicture_64 : decode cX6_readsPicture 64 = .ok (.iconst 0, 1) := by decide +kernel
theorem dX6_readsPicture_65 : decode cX6_readsPicture 65 = .ok (.invokevirtual 172, 3) := by decide +kernel
theorem dX6_readsPicture_68 : decode cX6_readsPicture 68 = .ok (.iinc 2 1, 3) := by decide +kernel
theorem dX6_readsPicture_71 : decode cX6_readsPicture 71 = .ok (.goto (-16), 3) := by decide +kernel
theorem dX6_readsPicture_74 : decode cX6_readsPicture 74 = .ok (.aload_n 0, 1) := by decide +kernel
theorem dX6_readsPicture_75 : decode cX6_readsPicture 75 = .ok (.bipush 125, 2) := by decide +kernel
theorem dX6_readsPicture_77 : decode cX6_readsPicture 77 = .ok (.bipush 19, 2) := by decide +kernel
theorem dX6_readsPicture_79 : decode cX6_readsPicture 79 = .ok (.iload_n 1, 1) := by decide +kernel
theorem dX6_readsPicture_80 : decode cX6_readsPicture 80 = .ok (.imul, 1) := by decide +kernel
theorem dX6_readsPicture_81 : decode cX6_readsPicture 81 = .ok (.iadd, 1) := by decide +kernel
theorem dX6_readsPicture_82 : decode cX6_readsPicture 82 = .ok (.iconst 1, 1) := by decide +kernel
theorem dX6_readsPicture_83 : decode cX6_readsPicture 83 = .ok (.iadd, 1) := by decide +kernel
theorem dX6_readsPicture_84 : decode cX6_readsPicture 84 = .ok (.invokevirtual 149, 3) := by decide +kernel
theorem dX6_readsPicture_87 : decode cX6_readsPicture 87 = .ok (.aload_n 0, 1) := by decide +kernel
theorem dX6_readsPicture_88 : decode cX6_readsPicture 88 = .ok (.invokevirtual 126, 3) := by decide +kernel
theorem dX6_readsPicture_91 : decode cX6_readsPicture 91 = .ok (.aload_n 0, 1) := by decide +kernel
theorem dX6_readsPicture_92 : decode cX6_readsPicture 92 = .ok (.aload_n 0, 1) := by decide +kernel
theorem dX6_readsPicture_93 : decode cX6_readsPicture 93 = .ok (.ldc 175, 2) := by decide +kernel
theorem dX6_readsPicture_95 : decode cX6_readsPicture 95 = .ok (.invokevirtual 145, 3) := by decide +kernel
theorem dX6_readsPicture_98 : decode cX6_readsPicture 98 = .ok (.invokevirtual 129, 3) := by decide +kernel
theorem dX6_readsPicture_101 : decode cX6_readsPicture 101 = .ok (.aload_n 0, 1) := by decide +kernel
theorem dX6_readsPicture_102 : decode cX6_readsPicture 102 = .ok (.getfield 7, 3) := by decide +kernel
theorem dX6_readsPicture_105 : decode cX6_readsPicture 105 = .ok (.bipush 125, 2) := by decide +kernel
theorem dX6_readsPicture_107 : decode cX6_readsPicture 107 = .ok (.bipush 19, 2) := by decide +kernel
theorem dX6_readsPicture_109 : decode cX6_readsPicture 109 = .ok (.iload_n 1, 1) := by decide +kernel
theorem dX6_readsPicture_110 : decode cX6_readsPicture 110 = .ok (.imul, 1) := by decide +kernel
theorem dX6_readsPicture_111 : decode cX6_readsPicture 111 = .ok (.iadd, 1) := by decide +kernel
theorem dX6_readsPicture_112 : decode cX6_readsPicture 112 = .ok (.aload_n 0, 1) := by decide +kernel
theorem dX6_readsPicture_113 : decode cX6_readsPicture 113 = .ok (.iconst 1, 1) := by decide +kernel
theorem dX6_readsPicture_114 : decode cX6_readsPicture 114 = .ok (.bipush 10, 2) := by decide +kernel
theorem dX6_readsPicture_116 : decode cX6_readsPicture 116 = .ok (.invokevirtual 152, 3) := by decide +kernel
theorem dX6_readsPicture_119 : decode cX6_readsPicture 119 = .ok (.iastore, 1) := by decide +kernel
theorem dX6_readsPicture_120 : decode cX6_readsPicture 120 = .ok (.aload_n 0, 1) := by decide +kernel
theorem dX6_readsPicture_121 : decode cX6_readsPicture 121 = .ok (.getfield 7, 3) := by decide +kernel
theorem dX6_readsPicture_124 : decode cX6_readsPicture 124 = .ok (.iconst 2, 1) := by decide +kernel
theorem dX6_readsPicture_125 : decode cX6_readsPicture 125 = .ok (.dup2, 1) := by decide +kernel
theorem dX6_readsPicture_126 : decode cX6_readsPicture 126 = .ok (.iaload, 1) := by decide +kernel
theorem dX6_readsPicture_127 : decode cX6_readsPicture 127 = .ok (.iconst 1, 1) := by decide +kernel
theorem dX6_readsPicture_128 : decode cX6_readsPicture 128 = .ok (.iadd, 1) := by decide +kernel
theorem dX6_readsPicture_129 : decode cX6_readsPicture 129 = .ok (.iastore, 1) := by decide +kernel
theorem dX6_readsPicture_130 : decode cX6_readsPicture 130 = .ok (.aload_n 0, 1) := by decide +kernel
theorem dX6_readsPicture_131 : decode cX6_readsPicture 131 = .ok (.ldc 177, 2) := by decide +kernel
theorem dX6_readsPicture_133 : decode cX6_readsPicture 133 = .ok (.invokevirtual 145, 3) := by decide +kernel
theorem dX6_readsPicture_136 : decode cX6_readsPicture 136 = .ok (.ifCond .eq 11, 3) := by decide +kernel
theorem dX6_readsPicture_139 : decode cX6_readsPicture 139 = .ok (.aload_n 0, 1) := by decide +kernel
theorem dX6_readsPicture_140 : decode cX6_readsPicture 140 = .ok (.iload_n 1, 1) := by decide +kernel
theorem dX6_readsPicture_141 : decode cX6_readsPicture 141 = .ok (.invokevirtual 179, 3) := by decide +kernel
theorem dX6_readsPicture_144 : decode cX6_readsPicture 144 = .ok (.goto (-14), 3) := by decide +kernel
theorem dX6_readsPicture_147 : decode cX6_readsPicture 147 = .ok (.aload_n 0, 1) := by decide +kernel
theorem dX6_readsPicture_148 : decode cX6_readsPicture 148 = .ok (.invokevirtual 155, 3) := by decide +kernel
theorem dX6_readsPicture_151 : decode cX6_readsPicture 151 = .ok (.return_, 1) := by decide +kernel
theorem dX6_readsCopy_0 : decode cX6_readsCopy 0 = .ok (.aload_n 0, 1) := by decide +kernel
theorem dX6_readsCopy_1 : decode cX6_readsCopy 1 = .ok (.iconst 1, 1) := by decide +kernel
theorem dX6_readsCopy_2 : decode cX6_readsCopy 2 = .ok (.invokevirtual 129, 3) := by decide +kernel
theorem dX6_readsCopy_5 : decode cX6_readsCopy 5 = .ok (.aload_n 0, 1) := by decide +kernel
theorem dX6_readsCopy_6 : decode cX6_readsCopy 6 = .ok (.invokevirtual 158, 3) := by decide +kernel
theorem dX6_readsCopy_9 : decode cX6_readsCopy 9 = .ok (.istore_n 2, 1) := by decide +kernel
theorem dX6_readsCopy_10 : decode cX6_readsCopy 10 = .ok (.aload_n 0, 1) := by decide +kernel
theorem dX6_readsCopy_11 : decode cX6_readsCopy 11 = .ok (.getfield 107, 3) := by decide +kernel
theorem dX6_readsCopy_14 : decode cX6_readsCopy 14 = .ok (.ifCond .ne 18, 3) := by decide +kernel
theorem dX6_readsCopy_17 : decode cX6_readsCopy 17 = .ok (.aload_n 0, 1) := by decide +kernel
theorem dX6_readsCopy_18 : decode cX6_readsCopy 18 = .ok (.iload_n 1, 1) := by decide +kernel
theorem dX6_readsCopy_19 : decode cX6_readsCopy 19 = .ok (.iload_n 2, 1) := by decide +kernel
theorem dX6_readsCopy_20 : decode cX6_readsCopy 20 = .ok (.invokevirtual 182, 3) := by decide +kernel
theorem dX6_readsCopy_23 : decode cX6_readsCopy 23 = .ok (.ifCond .eq 9, 3) := by decide +kernel
theorem dX6_readsCopy_26 : decode cX6_readsCopy 26 = .ok (.aload_n 0, 1) := by decide +kernel
theorem dX6_readsCopy_27 : decode cX6_readsCopy 27 = .ok (.bipush (-5), 2) := by decide +kernel
theorem dX6_readsCopy_29 : decode cX6_readsCopy 29 = .ok (.invokevirtual 122, 3) := by decide +kernel
theorem dX6_readsCopy_32 : decode cX6_readsCopy 32 = .ok (.aload_n 0, 1) := by decide +kernel
theorem dX6_readsCopy_33 : decode cX6_readsCopy 33 = .ok (.getfield 107, 3) := by decide +kernel
theorem dX6_readsCopy_36 : decode cX6_readsCopy 36 = .ok (.ifCond .ne 18, 3) := by decide +kernel
theorem dX6_readsCopy_39 : decode cX6_readsCopy 39 = .ok (.aload_n 0, 1) := by decide +kernel
theorem dX6_readsCopy_40 : decode cX6_readsCopy 40 = .ok (.iload_n 2, 1) := by decide +kernel
theorem dX6_readsCopy_41 : decode cX6_readsCopy 41 = .ok (.invokevirtual 185, 3) := by decide +kernel
theorem dX6_readsCopy_44 : decode cX6_readsCopy 44 = .ok (.iconst 1, 1) := by decide +kernel
theorem dX6_readsCopy_45 : decode cX6_readsCopy 45 = .ok (.if_icmp .ge 9, 3) := by decide +kernel
theorem dX6_readsCopy_48 : decode cX6_readsCopy 48 = .ok (.aload_n 0, 1) := by decide +kernel
theorem dX6_readsCopy_49 : decode cX6_readsCopy 49 = .ok (.bipush (-6), 2) := by decide +kernel
theorem dX6_readsCopy_51 : decode cX6_readsCopy 51 = .ok (.invokevirtual 122, 3) := by decide +kernel
theorem dX6_readsCopy_54 : decode cX6_readsCopy 54 = .ok (.aload_n 0, 1) := by decide +kernel
theorem dX6_readsCopy_55 : decode cX6_readsCopy 55 = .ok (.iconst 1, 1) := by decide +kernel
theorem dX6_readsCopy_56 : decode cX6_readsCopy 56 = .ok (.invokevirtual 129, 3) := by decide +kernel
theorem dX6_readsCopy_59 : decode cX6_readsCopy 59 = .ok (.aload_n 0, 1) := by decide +kernel
theorem dX6_readsCopy_60 : decode cX6_readsCopy 60 = .ok (.getfield 107, 3) := by decide +kernel
theorem dX6_readsCopy_63 : decode cX6_readsCopy 63 = .ok (.ifCond .eq 4, 3) := by decide +kernel
theorem dX6_readsCopy_66 : decode cX6_readsCopy 66 = .ok (.return_, 1) := by decide +kernel
theorem dX6_readsCopy_67 : decode cX6_readsCopy 67 = .ok (.aload_n 0, 1) := by decide +kernel
theorem dX6_readsCopy_68 : decode cX6_readsCopy 68 = .ok (.iload_n 1, 1) := by decide +kernel
theorem dX6_readsCopy_69 : decode cX6_readsCopy 69 = .ok (.iload_n 2, 1) := by decide +kernel
theorem dX6_readsCopy_70 : decode cX6_readsCopy 70 = .ok (.ldc 188, 2) := by decide +kernel
theorem dX6_readsCopy_72 : decode cX6_readsCopy 72 = .ok (.invokevirtual 172, 3) := by decide +kernel
theorem dX6_readsCopy_75 : decode cX6_readsCopy 75 = .ok (.aload_n 0, 1) := by decide +kernel
theorem dX6_readsCopy_76 : decode cX6_readsCopy 76 = .ok (.ldc 189, 2) := by decide +kernel
theorem dX6_readsCopy_78 : decode cX6_readsCopy 78 = .ok (.invokevirtual 145, 3) := by decide +kernel
theorem dX6_readsCopy_81 : decode cX6_readsCopy 81 = .ok (.ifCond .ne 4, 3) := by decide +kernel
theorem dX6_readsCopy_84 : decode cX6_readsCopy 84 = .ok (.return_, 1) := by decide +kernel
theorem dX6_readsCopy_85 : decode cX6_readsCopy 85 = .ok (.aload_n 0, 1) := by decide +kernel
theorem dX6_readsCopy_86 : decode cX6_readsCopy 86 = .ok (.invokevirtual 126, 3) := by decide +kernel
theorem dX6_readsCopy_89 : decode cX6_readsCopy 89 = .ok (.aload_n 0, 1) := by decide +kernel
theorem dX6_readsCopy_90 : decode cX6_readsCopy 90 = .ok (.iconst 0, 1) := by decide +kernel
theorem dX6_readsCopy_91 : decode cX6_readsCopy 91 = .ok (.aload_n 0, 1) := by decide +kernel
theorem dX6_readsCopy_92 : decode cX6_readsCopy 92 = .ok (.getfield 7, 3) := by decide +kernel
theorem dX6_readsCopy_95 : decode cX6_readsCopy 95 = .ok (.iconst 0, 1) := by decide +kernel
theorem dX6_readsCopy_96 : decode cX6_readsCopy 96 = .ok (.iaload, 1) := by decide +kernel
theorem dX6_readsCopy_97 : decode cX6_readsCopy 97 = .ok (.iconst 1, 1) := by decide +kernel
theorem dX6_readsCopy_98 : decode cX6_readsCopy 98 = .ok (.isub, 1) := by decide +kernel
theorem dX6_readsCopy_99 : decode cX6_readsCopy 99 = .ok (.invokevirtual 133, 3) := by decide +kernel
theorem dX6_readsCopy_102 : decode cX6_readsCopy 102 = .ok (.istore_n 3, 1) := by decide +kernel
theorem dX6_readsCopy_103 : decode cX6_readsCopy 103 = .ok (.aload_n 0, 1) := by decide +kernel
theorem dX6_readsCopy_104 : decode cX6_readsCopy 104 = .ok (.getfield 107, 3) := by decide +kernel
theorem dX6_readsCopy_107 : decode cX6_readsCopy 107 = .ok (.ifCond .ne 23, 3) := by decide +kernel
theorem dX6_readsCopy_110 : decode cX6_readsCopy 110 = .ok (.aload_n 0, 1) := by decide +kernel
theorem dX6_readsCopy_111 : decode cX6_readsCopy 111 = .ok (.iload_n 1, 1) := by decide +kernel
theorem dX6_readsCopy_112 : decode cX6_readsCopy 112 = .ok (.iload_n 2, 1) := by decide +kernel
theorem dX6_readsCopy_113 : decode cX6_readsCopy 113 = .ok (.invokevirtual 182, 3) := by decide +kernel
theorem dX6_readsCopy_116 : decode cX6_readsCopy 116 = .ok (.iload_n 3, 1) := by decide +kernel
theorem dX6_readsCopy_117 : decode cX6_readsCopy 117 = .ok (.ishr, 1) := by decide +kernel
theorem dX6_readsCopy_118 : decode cX6_readsCopy 118 = .ok (.iconst 1, 1) := by decide +kernel
theorem dX6_readsCopy_119 : decode cX6_readsCopy 119 = .ok (.iand, 1) := by decide +kernel
theorem dX6_readsCopy_120 : decode cX6_readsCopy 120 = .ok (.iconst 1, 1) := by decide +kernel
theorem dX6_readsCopy_121 : decode cX6_readsCopy 121 = .ok (.if_icmp .ne 9, 3) := by decide +kernel
theorem dX6_readsCopy_124 : decode cX6_readsCopy 124 = .ok (.aload_n 0, 1) := by decide +kernel
theorem dX6_readsCopy_125 : decode cX6_readsCopy 125 = .ok (.bipush (-5), 2) := by decide +kernel
theorem dX6_readsCopy_127 : decode cX6_readsCopy 127 = .ok (.invokevirtual 122, 3) := by decide +kernel
theorem dX6_readsCopy_130 : decode cX6_readsCopy 130 = .ok (.aload_n 0, 1) := by decide +kernel
theorem dX6_readsCopy_131 : decode cX6_readsCopy 131 = .ok (.getfield 107, 3) := by decide +kernel
theorem dX6_readsCopy_134 : decode cX6_readsCopy 134 = .ok (.ifCond .eq 4, 3) := by decide +kernel
theorem dX6_readsCopy_137 : decode cX6_readsCopy 137 = .ok (.return_, 1) := by decide +kernel
theorem dX6_readsCopy_138 : decode cX6_readsCopy 138 = .ok (.aload_n 0, 1) := by decide +kernel
theorem dX6_readsCopy_139 : decode cX6_readsCopy 139 = .ok (.iload_n 1, 1) := by decide +kernel
theorem dX6_readsCopy_140 : decode cX6_readsCopy 140 = .ok (.iload_n 2, 1) := by decide +kernel
theorem dX6_readsCopy_141 : decode cX6_readsCopy 141 = .ok (.aload_n 0, 1) := by decide +kernel
theorem dX6_readsCopy_142 : decode cX6_readsCopy 142 = .ok (.iload_n 1, 1) := by decide +kernel
theorem dX6_readsCopy_143 : decode cX6_readsCopy 143 = .ok (.iload_n 2, 1) := by decide +kernel
theorem dX6_readsCopy_144 : decode cX6_readsCopy 144 = .ok (.invokevirtual 182, 3) := by decide +kernel
theorem dX6_readsCopy_147 : decode cX6_readsCopy 147 = .ok (.iconst 1, 1) := by decide +kernel
theorem dX6_readsCopy_148 : decode cX6_readsCopy 148 = .ok (.iload_n 3, 1) := by decide +kernel
theorem dX6_readsCopy_149 : decode cX6_readsCopy 149 = .ok (.ishl, 1) := by decide +kernel
theorem dX6_readsCopy_150 : decode cX6_readsCopy 150 = .ok (.ior, 1) := by decide +kernel
theorem dX6_readsCopy_151 : decode cX6_readsCopy 151 = .ok (.invokevirtual 172, 3) := by decide +kernel
theorem dX6_readsCopy_154 : decode cX6_readsCopy 154 = .ok (.aload_n 0, 1) := by decide +kernel
theorem dX6_readsCopy_155 : decode cX6_readsCopy 155 = .ok (.invokevirtual 126, 3) := by decide +kernel
theorem dX6_readsCopy_158 : decode cX6_readsCopy 158 = .ok (.aload_n 0, 1) := by decide +kernel
theorem dX6_readsCopy_159 : decode cX6_readsCopy 159 = .ok (.getfield 91, 3) := by decide +kernel
theorem dX6_readsCopy_162 : decode cX6_readsCopy 162 = .ok (.iconst 1, 1) := by decide +kernel
theorem dX6_readsCopy_163 : decode cX6_readsCopy 163 = .ok (.if_icmp .eq (-74), 3) := by decide +kernel
theorem dX6_readsCopy_166 : decode cX6_readsCopy 166 = .ok (.return_, 1) := by decide +kernel
theorem dX6_load_0 : decode cX6_load 0 = .ok (.aload_n 0, 1) := by decide +kernel
theorem dX6_load_1 : decode cX6_load 1 = .ok (.iconst 0, 1) := by decide +kernel
theorem dX6_load_2 : decode cX6_load 2 = .ok (.putfield 49, 3) := by decide +kernel
theorem dX6_load_5 : decode cX6_load 5 = .ok (.aload_n 0, 1) := by decide +kernel
theorem dX6_load_6 : decode cX6_load 6 = .ok (.iconst 0, 1) := by decide +kernel
theorem dX6_load_7 : decode cX6_load 7 = .ok (.putfield 82, 3) := by decide +kernel
theorem dX6_load_10 : decode cX6_load 10 = .ok (.aload_n 0, 1) := by decide +kernel
theorem dX6_load_11 : decode cX6_load 11 = .ok (.iconst 0, 1) := by decide +kernel
theorem dX6_load_12 : decode cX6_load 12 = .ok (.putfield 107, 3) := by decide +kernel
theorem dX6_load_15 : decode cX6_load 15 = .ok (.aload_n 0, 1) := by decide +kernel
theorem dX6_load_16 : decode cX6_load 16 = .ok (.getfield 13, 3) := by decide +kernel
theorem dX6_load_19 : decode cX6_load 19 = .ok (.iconst 0, 1) := by decide +kernel
theorem dX6_load_20 : decode cX6_load 20 = .ok (.aload_n 0, 1) := by decide +kernel
theorem dX6_load_21 : decode cX6_load 21 = .ok (.getfield 7, 3) := by decide +kernel
theorem dX6_load_24 : decode cX6_load 24 = .ok (.iconst 0, 1) := by decide +kernel
theorem dX6_load_25 : decode cX6_load 25 = .ok (.invokestatic 55, 3) := by decide +kernel
theorem dX6_load_28 : decode cX6_load 28 = .ok (.aload_n 0, 1) := by decide +kernel
theorem dX6_load_29 : decode cX6_load 29 = .ok (.invokevirtual 42, 3) := by decide +kernel
theorem dX6_load_32 : decode cX6_load 32 = .ok (.aload_n 0, 1) := by decide +kernel
theorem dX6_load_33 : decode cX6_load 33 = .ok (.invokevirtual 126, 3) := by decide +kernel
theorem dX6_load_36 : decode cX6_load 36 = .ok (.aload_n 0, 1) := by decide +kernel
theorem dX6_load_37 : decode cX6_load 37 = .ok (.aload_n 0, 1) := by decide +kernel
theorem dX6_load_38 : decode cX6_load 38 = .ok (.ldc 191, 2) := by decide +kernel
theorem dX6_load_40 : decode cX6_load 40 = .ok (.invokevirtual 145, 3) := by decide +kernel
theorem dX6_load_43 : decode cX6_load 43 = .ok (.invokevirtual 129, 3) := by decide +kernel
theorem dX6_load_46 : decode cX6_load 46 = .ok (.aload_n 0, 1) := by decide +kernel
theorem dX6_load_47 : decode cX6_load 47 = .ok (.getfield 7, 3) := by decide +kernel
theorem dX6_load_50 : decode cX6_load 50 = .ok (.iconst 0, 1) := by decide +kernel
theorem dX6_load_51 : decode cX6_load 51 = .ok (.aload_n 0, 1) := by decide +kernel
theorem dX6_load_52 : decode cX6_load 52 = .ok (.iconst 4, 1) := by decide +kernel
theorem dX6_load_53 : decode cX6_load 53 = .ok (.bipush 16, 2) := by decide +kernel
theorem dX6_load_55 : decode cX6_load 55 = .ok (.invokevirtual 152, 3) := by decide +kernel
theorem dX6_load_58 : decode cX6_load 58 = .ok (.iastore, 1) := by decide +kernel
theorem dX6_load_59 : decode cX6_load 59 = .ok (.aload_n 0, 1) := by decide +kernel
theorem dX6_load_60 : decode cX6_load 60 = .ok (.invokevirtual 155, 3) := by decide +kernel
theorem dX6_load_63 : decode cX6_load 63 = .ok (.aload_n 0, 1) := by decide +kernel
theorem dX6_load_64 : decode cX6_load 64 = .ok (.invokevirtual 193, 3) := by decide +kernel
theorem dX6_load_67 : decode cX6_load 67 = .ok (.aload_n 0, 1) := by decide +kernel
theorem dX6_load_68 : decode cX6_load 68 = .ok (.invokevirtual 193, 3) := by decide +kernel
theorem dX6_load_71 : decode cX6_load 71 = .ok (.aload_n 0, 1) := by decide +kernel
theorem dX6_load_72 : decode cX6_load 72 = .ok (.ldc 143, 2) := by decide +kernel
theorem dX6_load_74 : decode cX6_load 74 = .ok (.invokevirtual 145, 3) := by decide +kernel
theorem dX6_load_77 : decode cX6_load 77 = .ok (.ifCond .eq 10, 3) := by decide +kernel
theorem dX6_load_80 : decode cX6_load 80 = .ok (.aload_n 0, 1) := by decide +kernel
theorem dX6_load_81 : decode cX6_load 81 = .ok (.invokevirtual 193, 3) := by decide +kernel
theorem dX6_load_84 : decode cX6_load 84 = .ok (.goto (-13), 3) := by decide +kernel
theorem dX6_load_87 : decode cX6_load 87 = .ok (.aload_n 0, 1) := by decide +kernel
theorem dX6_load_88 : decode cX6_load 88 = .ok (.ldc 196, 2) := by decide +kernel
theorem dX6_load_90 : decode cX6_load 90 = .ok (.invokevirtual 145, 3) := by decide +kernel
theorem dX6_load_93 : decode cX6_load 93 = .ok (.ifCond .eq 10, 3) := by decide +kernel
theorem dX6_load_96 : decode cX6_load 96 = .ok (.aload_n 0, 1) := by decide +kernel
theorem dX6_load_97 : decode cX6_load 97 = .ok (.invokevirtual 198, 3) := by decide +kernel
theorem dX6_load_100 : decode cX6_load 100 = .ok (.goto (-13), 3) := by decide +kernel
theorem dX6_load_103 : decode cX6_load 103 = .ok (.aload_n 0, 1) := by decide +kernel
theorem dX6_load_104 : decode cX6_load 104 = .ok (.ldc 201, 2) := by decide +kernel
theorem dX6_load_106 : decode cX6_load 106 = .ok (.invokevirtual 145, 3) := by decide +kernel
theorem dX6_load_109 : decode cX6_load 109 = .ok (.ifCond .eq 10, 3) := by decide +kernel
theorem dX6_load_112 : decode cX6_load 112 = .ok (.aload_n 0, 1) := by decide +kernel
theorem dX6_load_113 : decode cX6_load 113 = .ok (.invokevirtual 203, 3) := by decide +kernel
theorem dX6_load_116 : decode cX6_load 116 = .ok (.goto (-13), 3) := by decide +kernel
theorem dX6_load_119 : decode cX6_load 119 = .ok (.aload_n 0, 1) := by decide +kernel
theorem dX6_load_120 : decode cX6_load 120 = .ok (.getfield 107, 3) := by decide +kernel
theorem dX6_load_123 : decode cX6_load 123 = .ok (.ifCond .ne 17, 3) := by decide +kernel
theorem dX6_load_126 : decode cX6_load 126 = .ok (.aload_n 0, 1) := by decide +kernel
theorem dX6_load_127 : decode cX6_load 127 = .ok (.getfield 91, 3) := by decide +kernel
theorem dX6_load_130 : decode cX6_load 130 = .ok (.iconst 3, 1) := by decide +kernel
theorem dX6_load_131 : decode cX6_load 131 = .ok (.if_icmp .eq 9, 3) := by decide +kernel
theorem dX6_load_134 : decode cX6_load 134 = .ok (.aload_n 0, 1) := by decide +kernel
theorem dX6_load_135 : decode cX6_load 135 = .ok (.bipush (-2), 2) := by decide +kernel
theorem dX6_load_137 : decode cX6_load 137 = .ok (.invokevirtual 122, 3) := by decide +kernel
theorem dX6_load_140 : decode cX6_load 140 = .ok (.aload_n 0, 1) := by decide +kernel
theorem dX6_load_141 : decode cX6_load 141 = .ok (.aload_n 0, 1) := by decide +kernel
theorem dX6_load_142 : decode cX6_load 142 = .ok (.getfield 107, 3) := by decide +kernel
theorem dX6_load_145 : decode cX6_load 145 = .ok (.ifCond .ne 7, 3) := by decide +kernel
theorem dX6_load_148 : decode cX6_load 148 = .ok (.iconst (-1), 1) := by decide +kernel
theorem dX6_load_149 : decode cX6_load 149 = .ok (.goto 7, 3) := by decide +kernel
theorem dX6_load_152 : decode cX6_load 152 = .ok (.aload_n 0, 1) := by decide +kernel
theorem dX6_load_153 : decode cX6_load 153 = .ok (.getfield 119, 3) := by decide +kernel
theorem dX6_load_156 : decode cX6_load 156 = .ok (.putfield 32, 3) := by decide +kernel
theorem dX6_load_159 : decode cX6_load 159 = .ok (.aload_n 0, 1) := by decide +kernel
theorem dX6_load_160 : decode cX6_load 160 = .ok (.iconst 0, 1) := by decide +kernel
theorem dX6_load_161 : decode cX6_load 161 = .ok (.putfield 75, 3) := by decide +kernel
theorem dX6_load_164 : decode cX6_load 164 = .ok (.aload_n 0, 1) := by decide +kernel
theorem dX6_load_165 : decode cX6_load 165 = .ok (.getfield 107, 3) := by decide +kernel
theorem dX6_load_168 : decode cX6_load 168 = .ok (.ifCond .eq 16, 3) := by decide +kernel
theorem dX6_load_171 : decode cX6_load 171 = .ok (.aload_n 0, 1) := by decide +kernel
theorem dX6_load_172 : decode cX6_load 172 = .ok (.getfield 7, 3) := by decide +kernel
theorem dX6_load_175 : decode cX6_load 175 = .ok (.iconst 0, 1) := by decide +kernel
theorem dX6_load_176 : decode cX6_load 176 = .ok (.aload_n 0, 1) := by decide +kernel
theorem dX6_load_177 : decode cX6_load 177 = .ok (.getfield 13, 3) := by decide +kernel
theorem dX6_load_180 : decode cX6_load 180 = .ok (.iconst 0, 1) := by decide +kernel
theorem dX6_load_181 : decode cX6_load 181 = .ok (.invokestatic 55, 3) := by decide +kernel
theorem dX6_load_184 : decode cX6_load 184 = .ok (.aload_n 0, 1) := by decide +kernel
theorem dX6_load_185 : decode cX6_load 185 = .ok (.getfield 107, 3) := by decide +kernel
theorem dX6_load_188 : decode cX6_load 188 = .ok (.ifCond .eq 8, 3) := by decide +kernel
theorem dX6_load_191 : decode cX6_load 191 = .ok (.aload_n 0, 1) := by decide +kernel
theorem dX6_load_192 : decode cX6_load 192 = .ok (.getfield 107, 3) := by decide +kernel
theorem dX6_load_195 : decode cX6_load 195 = .ok (.ireturn, 1) := by decide +kernel
theorem dX6_load_196 : decode cX6_load 196 = .ok (.aload_n 0, 1) := by decide +kernel
theorem dX6_load_197 : decode cX6_load 197 = .ok (.aload_n 0, 1) := by decide +kernel
theorem dX6_load_198 : decode cX6_load 198 = .ok (.getfield 13, 3) := by decide +kernel
theorem dX6_load_201 : decode cX6_load 201 = .ok (.invokevirtual 63, 3) := by decide +kernel
theorem dX6_load_204 : decode cX6_load 204 = .ok (.aload_n 0, 1) := by decide +kernel
theorem dX6_load_205 : decode cX6_load 205 = .ok (.invokevirtual 169, 3) := by decide +kernel
theorem dX6_load_208 : decode cX6_load 208 = .ok (.ireturn, 1) := by decide +kernel
theorem dX6_errorPosition_0 : decode cX6_errorPosition 0 = .ok (.aload_n 0, 1) := by decide +kernel
theorem dX6_errorPosition_1 : decode cX6_errorPosition 1 = .ok (.iconst 0, 1) := by decide +kernel
theorem dX6_errorPosition_2 : decode cX6_errorPosition 2 = .ok (.putfield 49, 3) := by decide +kernel
theorem dX6_errorPosition_5 : decode cX6_errorPosition 5 = .ok (.aload_n 0, 1) := by decide +kernel
theorem dX6_errorPosition_6 : decode cX6_errorPosition 6 = .ok (.getfield 32, 3) := by decide +kernel
theorem dX6_errorPosition_9 : decode cX6_errorPosition 9 = .ok (.ireturn, 1) := by decide +kernel
theorem dX6_families_0 : decode cX6_families 0 = .ok (.aload_n 0, 1) := by decide +kernel
theorem dX6_families_1 : decode cX6_families 1 = .ok (.getfield 7, 3) := by decide +kernel
theorem dX6_families_4 : decode cX6_families 4 = .ok (.iconst 1, 1) := by decide +kernel
theorem dX6_families_5 : decode cX6_families 5 = .ok (.iaload, 1) := by decide +kernel
theorem dX6_families_6 : decode cX6_families 6 = .ok (.ireturn, 1) := by decide +kernel
theorem dX6_pictures_0 : decode cX6_pictures 0 = .ok (.aload_n 0, 1) := by decide +kernel
theorem dX6_pictures_1 : decode cX6_pictures 1 = .ok (.getfield 7, 3) := by decide +kernel
theorem dX6_pictures_4 : decode cX6_pictures 4 = .ok (.iconst 2, 1) := by decide +kernel
theorem dX6_pictures_5 : decode cX6_pictures 5 = .ok (.iaload, 1) := by decide +kernel
theorem dX6_pictures_6 : decode cX6_pictures 6 = .ok (.ireturn, 1) := by decide +kernel
theorem dX6_ofFamily_0 : decode cX6_ofFamily 0 = .ok (.aload_n 0, 1) := by decide +kernel
theorem dX6_ofFamily_1 : decode cX6_ofFamily 1 = .ok (.getfield 7, 3) := by decide +kernel
theorem dX6_ofFamily_4 : decode cX6_ofFamily 4 = .ok (.iconst 5, 1) := by decide +kernel
theorem dX6_ofFamily_5 : decode cX6_ofFamily 5 = .ok (.bipush 12, 2) := by decide +kernel
theorem dX6_ofFamily_7 : decode cX6_ofFamily 7 = .ok (.iload_n 1, 1) := by decide +kernel
theorem dX6_ofFamily_8 : decode cX6_ofFamily 8 = .ok (.imul, 1) := by decide +kernel
theorem dX6_ofFamily_9 : decode cX6_ofFamily 9 = .ok (.iadd, 1) := by decide +kernel
theorem dX6_ofFamily_10 : decode cX6_ofFamily 10 = .ok (.iload_n 2, 1) := by decide +kernel
theorem dX6_ofFamily_11 : decode cX6_ofFamily 11 = .ok (.iadd, 1) := by decide +kernel
theorem dX6_ofFamily_12 : decode cX6_ofFamily 12 = .ok (.iaload, 1) := by decide +kernel
theorem dX6_ofFamily_13 : decode cX6_ofFamily 13 = .ok (.ireturn, 1) := by decide +kernel
theorem dX6_setsOf_0 : decode cX6_setsOf 0 = .ok (.aload_n 0, 1) := by decide +kernel
theorem dX6_setsOf_1 : decode cX6_setsOf 1 = .ok (.getfield 7, 3) := by decide +kernel
theorem dX6_setsOf_4 : decode cX6_setsOf 4 = .ok (.iconst 5, 1) := by decide +kernel
theorem dX6_setsOf_5 : decode cX6_setsOf 5 = .ok (.bipush 12, 2) := by decide +kernel
theorem dX6_setsOf_7 : decode cX6_setsOf 7 = .ok (.iload_n 1, 1) := by decide +kernel
theorem dX6_setsOf_8 : decode cX6_setsOf 8 = .ok (.imul, 1) := by decide +kernel
theorem dX6_setsOf_9 : decode cX6_setsOf 9 = .ok (.iadd, 1) := by decide +kernel
theorem dX6_setsOf_10 : decode cX6_setsOf 10 = .ok (.iload_n 2, 1) := by decide +kernel
theorem dX6_setsOf_11 : decode cX6_setsOf 11 = .ok (.iadd, 1) := by decide +kernel
theorem dX6_setsOf_12 : decode cX6_setsOf 12 = .ok (.iload_n 3, 1) := by decide +kernel
theorem dX6_setsOf_13 : decode cX6_setsOf 13 = .ok (.iastore, 1) := by decide +kernel
theorem dX6_setsOf_14 : decode cX6_setsOf 14 = .ok (.return_, 1) := by decide +kernel
theorem dX6_copyOf_0 : decode cX6_copyOf 0 = .ok (.aload_n 0, 1) := by decide +kernel
theorem dX6_copyOf_1 : decode cX6_copyOf 1 = .ok (.getfield 7, 3) := by decide +kernel
theorem dX6_copyOf_4 : decode cX6_copyOf 4 = .ok (.bipush 125, 2) := by decide +kernel
theorem dX6_copyOf_6 : decode cX6_copyOf 6 = .ok (.bipush 19, 2) := by decide +kernel
theorem dX6_copyOf_8 : decode cX6_copyOf 8 = .ok (.iload_n 1, 1) := by decide +kernel
theorem dX6_copyOf_9 : decode cX6_copyOf 9 = .ok (.imul, 1) := by decide +kernel
theorem dX6_copyOf_10 : decode cX6_copyOf 10 = .ok (.iadd, 1) := by decide +kernel
theorem dX6_copyOf_11 : decode cX6_copyOf 11 = .ok (.bipush 9, 2) := by decide +kernel
theorem dX6_copyOf_13 : decode cX6_copyOf 13 = .ok (.iadd, 1) := by decide +kernel
theorem dX6_copyOf_14 : decode cX6_copyOf 14 = .ok (.iload_n 2, 1) := by decide +kernel
theorem dX6_copyOf_15 : decode cX6_copyOf 15 = .ok (.iadd, 1) := by decide +kernel
theorem dX6_copyOf_16 : decode cX6_copyOf 16 = .ok (.iaload, 1) := by decide +kernel
theorem dX6_copyOf_17 : decode cX6_copyOf 17 = .ok (.ireturn, 1) := by decide +kernel
theorem dX6_setsCopy_0 : decode cX6_setsCopy 0 = .ok (.aload_n 0, 1) := by decide +kernel
theorem dX6_setsCopy_1 : decode cX6_setsCopy 1 = .ok (.getfield 7, 3) := by decide +kernel
theorem dX6_setsCopy_4 : decode cX6_setsCopy 4 = .ok (.bipush 125, 2) := by decide +kernel
theorem dX6_setsCopy_6 : decode cX6_setsCopy 6 = .ok (.bipush 19, 2) := by decide +kernel
theorem dX6_setsCopy_8 : decode cX6_setsCopy 8 = .ok (.iload_n 1, 1) := by decide +kernel
theorem dX6_setsCopy_9 : decode cX6_setsCopy 9 = .ok (.imul, 1) := by decide +kernel
theorem dX6_setsCopy_10 : decode cX6_setsCopy 10 = .ok (.iadd, 1) := by decide +kernel
theorem dX6_setsCopy_11 : decode cX6_setsCopy 11 = .ok (.bipush 9, 2) := by decide +kernel
theorem dX6_setsCopy_13 : decode cX6_setsCopy 13 = .ok (.iadd, 1) := by decide +kernel
theorem dX6_setsCopy_14 : decode cX6_setsCopy 14 = .ok (.iload_n 2, 1) := by decide +kernel
theorem dX6_setsCopy_15 : decode cX6_setsCopy 15 = .ok (.iadd, 1) := by decide +kernel
theorem dX6_setsCopy_16 : decode cX6_setsCopy 16 = .ok (.iload_n 3, 1) := by decide +kernel
theorem dX6_setsCopy_17 : decode cX6_setsCopy 17 = .ok (.iastore, 1) := by decide +kernel
theorem dX6_setsCopy_18 : decode cX6_setsCopy 18 = .ok (.return_, 1) := by decide +kernel
theorem dX6_pledgeOf_0 : decode cX6_pledgeOf 0 = .ok (.aload_n 0, 1) := by decide +kernel
theorem dX6_pledgeOf_1 : decode cX6_pledgeOf 1 = .ok (.getfield 7, 3) := by decide +kernel
theorem dX6_pledgeOf_4 : decode cX6_pledgeOf 4 = .ok (.bipush 125, 2) := by decide +kernel
theorem dX6_pledgeOf_6 : decode cX6_pledgeOf 6 = .ok (.bipush 19, 2) := by decide +kernel
theorem dX6_pledgeOf_8 : decode cX6_pledgeOf 8 = .ok (.iload_n 1, 1) := by decide +kernel
theorem dX6_pledgeOf_9 : decode cX6_pledgeOf 9 = .ok (.imul, 1) := by decide +kernel
theorem dX6_pledgeOf_10 : decode cX6_pledgeOf 10 = .ok (.iadd, 1) := by decide +kernel
theorem dX6_pledgeOf_11 : decode cX6_pledgeOf 11 = .ok (.iaload, 1) := by decide +kernel
theorem dX6_pledgeOf_12 : decode cX6_pledgeOf 12 = .ok (.ireturn, 1) := by decide +kernel
theorem dX6_isFamily_0 : decode cX6_isFamily 0 = .ok (.iload_n 1, 1) := by decide +kernel
theorem dX6_isFamily_1 : decode cX6_isFamily 1 = .ok (.iconst 0, 1) := by decide +kernel
theorem dX6_isFamily_2 : decode cX6_isFamily 2 = .ok (.aload_n 0, 1) := by decide +kernel
theorem dX6_isFamily_3 : decode cX6_isFamily 3 = .ok (.invokevirtual 67, 3) := by decide +kernel
theorem dX6_isFamily_6 : decode cX6_isFamily 6 = .ok (.iconst 1, 1) := by decide +kernel
theorem dX6_isFamily_7 : decode cX6_isFamily 7 = .ok (.isub, 1) := by decide +kernel
theorem dX6_isFamily_8 : decode cX6_isFamily 8 = .ok (.invokestatic 59, 3) := by decide +kernel
theorem dX6_isFamily_11 : decode cX6_isFamily 11 = .ok (.ireturn, 1) := by decide +kernel
theorem dX6_isPicture_0 : decode cX6_isPicture 0 = .ok (.iload_n 1, 1) := by decide +kernel
theorem dX6_isPicture_1 : decode cX6_isPicture 1 = .ok (.iconst 0, 1) := by decide +kernel
theorem dX6_isPicture_2 : decode cX6_isPicture 2 = .ok (.aload_n 0, 1) := by decide +kernel
theorem dX6_isPicture_3 : decode cX6_isPicture 3 = .ok (.invokevirtual 169, 3) := by decide +kernel
theorem dX6_isPicture_6 : decode cX6_isPicture 6 = .ok (.iconst 1, 1) := by decide +kernel
theorem dX6_isPicture_7 : decode cX6_isPicture 7 = .ok (.isub, 1) := by decide +kernel
theorem dX6_isPicture_8 : decode cX6_isPicture 8 = .ok (.invokestatic 59, 3) := by decide +kernel
theorem dX6_isPicture_11 : decode cX6_isPicture 11 = .ok (.ireturn, 1) := by decide +kernel
theorem dX6_areNear_0 : decode cX6_areNear 0 = .ok (.aload_n 0, 1) := by decide +kernel
theorem dX6_areNear_1 : decode cX6_areNear 1 = .ok (.iload_n 1, 1) := by decide +kernel
theorem dX6_areNear_2 : decode cX6_areNear 2 = .ok (.iconst 3, 1) := by decide +kernel
theorem dX6_areNear_3 : decode cX6_areNear 3 = .ok (.invokevirtual 206, 3) := by decide +kernel
theorem dX6_areNear_6 : decode cX6_areNear 6 = .ok (.iload_n 2, 1) := by decide +kernel
theorem dX6_areNear_7 : decode cX6_areNear 7 = .ok (.ishr, 1) := by decide +kernel
theorem dX6_areNear_8 : decode cX6_areNear 8 = .ok (.iconst 1, 1) := by decide +kernel
theorem dX6_areNear_9 : decode cX6_areNear 9 = .ok (.iand, 1) := by decide +kernel
theorem dX6_areNear_10 : decode cX6_areNear 10 = .ok (.iconst 1, 1) := by decide +kernel
theorem dX6_areNear_11 : decode cX6_areNear 11 = .ok (.if_icmp .ne 7, 3) := by decide +kernel
theorem dX6_areNear_14 : decode cX6_areNear 14 = .ok (.iconst 1, 1) := by decide +kernel
theorem dX6_areNear_15 : decode cX6_areNear 15 = .ok (.goto 4, 3) := by decide +kernel
theorem dX6_areNear_18 : decode cX6_areNear 18 = .ok (.iconst 0, 1) := by decide +kernel
theorem dX6_areNear_19 : decode cX6_areNear 19 = .ok (.ireturn, 1) := by decide +kernel
theorem dX6_joinsNear_0 : decode cX6_joinsNear 0 = .ok (.aload_n 0, 1) := by decide +kernel
theorem dX6_joinsNear_1 : decode cX6_joinsNear 1 = .ok (.iload_n 1, 1) := by decide +kernel
theorem dX6_joinsNear_2 : decode cX6_joinsNear 2 = .ok (.iconst 3, 1) := by decide +kernel
theorem dX6_joinsNear_3 : decode cX6_joinsNear 3 = .ok (.aload_n 0, 1) := by decide +kernel
theorem dX6_joinsNear_4 : decode cX6_joinsNear 4 = .ok (.iload_n 1, 1) := by decide +kernel
theorem dX6_joinsNear_5 : decode cX6_joinsNear 5 = .ok (.iconst 3, 1) := by decide +kernel
theorem dX6_joinsNear_6 : decode cX6_joinsNear 6 = .ok (.invokevirtual 206, 3) := by decide +kernel
theorem dX6_joinsNear_9 : decode cX6_joinsNear 9 = .ok (.iconst 1, 1) := by decide +kernel
theorem dX6_joinsNear_10 : decode cX6_joinsNear 10 = .ok (.iload_n 2, 1) := by decide +kernel
theorem dX6_joinsNear_11 : decode cX6_joinsNear 11 = .ok (.ishl, 1) := by decide +kernel
theorem dX6_joinsNear_12 : decode cX6_joinsNear 12 = .ok (.ior, 1) := by decide +kernel
theorem dX6_joinsNear_13 : decode cX6_joinsNear 13 = .ok (.invokevirtual 45, 3) := by decide +kernel
theorem dX6_joinsNear_16 : decode cX6_joinsNear 16 = .ok (.aload_n 0, 1) := by decide +kernel
theorem dX6_joinsNear_17 : decode cX6_joinsNear 17 = .ok (.iload_n 2, 1) := by decide +kernel
theorem dX6_joinsNear_18 : decode cX6_joinsNear 18 = .ok (.iconst 3, 1) := by decide +kernel
theorem dX6_joinsNear_19 : decode cX6_joinsNear 19 = .ok (.aload_n 0, 1) := by decide +kernel
theorem dX6_joinsNear_20 : decode cX6_joinsNear 20 = .ok (.iload_n 2, 1) := by decide +kernel
theorem dX6_joinsNear_21 : decode cX6_joinsNear 21 = .ok (.iconst 3, 1) := by decide +kernel
theorem dX6_joinsNear_22 : decode cX6_joinsNear 22 = .ok (.invokevirtual 206, 3) := by decide +kernel
theorem dX6_joinsNear_25 : decode cX6_joinsNear 25 = .ok (.iconst 1, 1) := by decide +kernel
theorem dX6_joinsNear_26 : decode cX6_joinsNear 26 = .ok (.iload_n 1, 1) := by decide +kernel
theorem dX6_joinsNear_27 : decode cX6_joinsNear 27 = .ok (.ishl, 1) := by decide +kernel
theorem dX6_joinsNear_28 : decode cX6_joinsNear 28 = .ok (.ior, 1) := by decide +kernel
theorem dX6_joinsNear_29 : decode cX6_joinsNear 29 = .ok (.invokevirtual 45, 3) := by decide +kernel
theorem dX6_joinsNear_32 : decode cX6_joinsNear 32 = .ok (.return_, 1) := by decide +kernel
theorem dX6_bits_0 : decode cX6_bits 0 = .ok (.iconst 0, 1) := by decide +kernel
theorem dX6_bits_1 : decode cX6_bits 1 = .ok (.istore_n 1, 1) := by decide +kernel
theorem dX6_bits_2 : decode cX6_bits 2 = .ok (.iconst 0, 1) := by decide +kernel
theorem dX6_bits_3 : decode cX6_bits 3 = .ok (.istore_n 2, 1) := by decide +kernel
theorem dX6_bits_4 : decode cX6_bits 4 = .ok (.iload_n 2, 1) := by decide +kernel
theorem dX6_bits_5 : decode cX6_bits 5 = .ok (.bipush 16, 2) := by decide +kernel
theorem dX6_bits_7 : decode cX6_bits 7 = .ok (.if_icmp .ge 17, 3) := by decide +kernel
theorem dX6_bits_10 : decode cX6_bits 10 = .ok (.iload_n 1, 1) := by decide +kernel
theorem dX6_bits_11 : decode cX6_bits 11 = .ok (.iload_n 0, 1) := by decide +kernel
theorem dX6_bits_12 : decode cX6_bits 12 = .ok (.iload_n 2, 1) := by decide +kernel
theorem dX6_bits_13 : decode cX6_bits 13 = .ok (.ishr, 1) := by decide +kernel
theorem dX6_bits_14 : decode cX6_bits 14 = .ok (.iconst 1, 1) := by decide +kernel
theorem dX6_bits_15 : decode cX6_bits 15 = .ok (.iand, 1) := by decide +kernel
theorem dX6_bits_16 : decode cX6_bits 16 = .ok (.iadd, 1) := by decide +kernel
theorem dX6_bits_17 : decode cX6_bits 17 = .ok (.istore_n 1, 1) := by decide +kernel
theorem dX6_bits_18 : decode cX6_bits 18 = .ok (.iinc 2 1, 3) := by decide +kernel
theorem dX6_bits_21 : decode cX6_bits 21 = .ok (.goto (-17), 3) := by decide +kernel
theorem dX6_bits_24 : decode cX6_bits 24 = .ok (.iload_n 1, 1) := by decide +kernel
theorem dX6_bits_25 : decode cX6_bits 25 = .ok (.ireturn, 1) := by decide +kernel
theorem dX6_isHeld_0 : decode cX6_isHeld 0 = .ok (.iload_n 0, 1) := by decide +kernel
theorem dX6_isHeld_1 : decode cX6_isHeld 1 = .ok (.ldc 209, 2) := by decide +kernel
theorem dX6_isHeld_3 : decode cX6_isHeld 3 = .ok (.iand, 1) := by decide +kernel
theorem dX6_isHeld_4 : decode cX6_isHeld 4 = .ok (.ldc 188, 2) := by decide +kernel
theorem dX6_isHeld_6 : decode cX6_isHeld 6 = .ok (.if_icmp .ne 7, 3) := by decide +kernel
theorem dX6_isHeld_9 : decode cX6_isHeld 9 = .ok (.iconst 1, 1) := by decide +kernel
theorem dX6_isHeld_10 : decode cX6_isHeld 10 = .ok (.goto 4, 3) := by decide +kernel
theorem dX6_isHeld_13 : decode cX6_isHeld 13 = .ok (.iconst 0, 1) := by decide +kernel
theorem dX6_isHeld_14 : decode cX6_isHeld 14 = .ok (.ireturn, 1) := by decide +kernel
theorem dX6_isBroken_0 : decode cX6_isBroken 0 = .ok (.iload_n 0, 1) := by decide +kernel
theorem dX6_isBroken_1 : decode cX6_isBroken 1 = .ok (.ldc 210, 2) := by decide +kernel
theorem dX6_isBroken_3 : decode cX6_isBroken 3 = .ok (.iand, 1) := by decide +kernel
theorem dX6_isBroken_4 : decode cX6_isBroken 4 = .ok (.ifCond .eq 7, 3) := by decide +kernel
theorem dX6_isBroken_7 : decode cX6_isBroken 7 = .ok (.iconst 1, 1) := by decide +kernel
theorem dX6_isBroken_8 : decode cX6_isBroken 8 = .ok (.goto 4, 3) := by decide +kernel
theorem dX6_isBroken_11 : decode cX6_isBroken 11 = .ok (.iconst 0, 1) := by decide +kernel
theorem dX6_isBroken_12 : decode cX6_isBroken 12 = .ok (.ireturn, 1) := by decide +kernel
theorem dX6_isSound_0 : decode cX6_isSound 0 = .ok (.iload_n 0, 1) := by decide +kernel
theorem dX6_isSound_1 : decode cX6_isSound 1 = .ok (.ldc 188, 2) := by decide +kernel
theorem dX6_isSound_3 : decode cX6_isSound 3 = .ok (.if_icmp .ne 7, 3) := by decide +kernel
theorem dX6_isSound_6 : decode cX6_isSound 6 = .ok (.iconst 1, 1) := by decide +kernel
theorem dX6_isSound_7 : decode cX6_isSound 7 = .ok (.goto 4, 3) := by decide +kernel
theorem dX6_isSound_10 : decode cX6_isSound 10 = .ok (.iconst 0, 1) := by decide +kernel
theorem dX6_isSound_11 : decode cX6_isSound 11 = .ok (.ireturn, 1) := by decide +kernel
theorem dX6_isSort_0 : decode cX6_isSort 0 = .ok (.iload_n 1, 1) := by decide +kernel
theorem dX6_isSort_1 : decode cX6_isSort 1 = .ok (.ifCond .ne 15, 3) := by decide +kernel
theorem dX6_isSort_4 : decode cX6_isSort 4 = .ok (.iload_n 0, 1) := by decide +kernel
theorem dX6_isSort_5 : decode cX6_isSort 5 = .ok (.ifCond .eq 7, 3) := by decide +kernel
theorem dX6_isSort_8 : decode cX6_isSort 8 = .ok (.iconst 1, 1) := by decide +kernel
theorem dX6_isSort_9 : decode cX6_isSort 9 = .ok (.goto 35, 3) := by decide +kernel
theorem dX6_isSort_12 : decode cX6_isSort 12 = .ok (.iconst 0, 1) := by decide +kernel
theorem dX6_isSort_13 : decode cX6_isSort 13 = .ok (.goto 31, 3) := by decide +kernel
theorem dX6_isSort_16 : decode cX6_isSort 16 = .ok (.iload_n 1, 1) := by decide +kernel
theorem dX6_isSort_17 : decode cX6_isSort 17 = .ok (.iconst 1, 1) := by decide +kernel
theorem dX6_isSort_18 : decode cX6_isSort 18 = .ok (.if_icmp .ne 10, 3) := by decide +kernel
theorem dX6_isSort_21 : decode cX6_isSort 21 = .ok (.iload_n 0, 1) := by decide +kernel
theorem dX6_isSort_22 : decode cX6_isSort 22 = .ok (.invokestatic 211, 3) := by decide +kernel
theorem dX6_isSort_25 : decode cX6_isSort 25 = .ok (.goto 19, 3) := by decide +kernel
theorem dX6_isSort_28 : decode cX6_isSort 28 = .ok (.iload_n 1, 1) := by decide +kernel
theorem dX6_isSort_29 : decode cX6_isSort 29 = .ok (.iconst 2, 1) := by decide +kernel
theorem dX6_isSort_30 : decode cX6_isSort 30 = .ok (.if_icmp .ne 10, 3) := by decide +kernel
theorem dX6_isSort_33 : decode cX6_isSort 33 = .ok (.iload_n 0, 1) := by decide +kernel
theorem dX6_isSort_34 : decode cX6_isSort 34 = .ok (.invokestatic 214, 3) := by decide +kernel
theorem dX6_isSort_37 : decode cX6_isSort 37 = .ok (.goto 7, 3) := by decide +kernel
theorem dX6_isSort_40 : decode cX6_isSort 40 = .ok (.iload_n 0, 1) := by decide +kernel
theorem dX6_isSort_41 : decode cX6_isSort 41 = .ok (.invokestatic 217, 3) := by decide +kernel
theorem dX6_isSort_44 : decode cX6_isSort 44 = .ok (.ireturn, 1) := by decide +kernel
theorem dX6_holders_0 : decode cX6_holders 0 = .ok (.iconst 0, 1) := by decide +kernel
theorem dX6_holders_1 : decode cX6_holders 1 = .ok (.istore_n 3, 1) := by decide +kernel
theorem dX6_holders_2 : decode cX6_holders 2 = .ok (.iconst 0, 1) := by decide +kernel
theorem dX6_holders_3 : decode cX6_holders 3 = .ok (.istore 4, 2) := by decide +kernel
theorem dX6_holders_5 : decode cX6_holders 5 = .ok (.iload 4, 2) := by decide +kernel
theorem dX6_holders_7 : decode cX6_holders 7 = .ok (.aload_n 0, 1) := by decide +kernel
theorem dX6_holders_8 : decode cX6_holders 8 = .ok (.invokevirtual 67, 3) := by decide +kernel
theorem dX6_holders_11 : decode cX6_holders 11 = .ok (.if_icmp .ge 34, 3) := by decide +kernel
theorem dX6_holders_14 : decode cX6_holders 14 = .ok (.iload_n 3, 1) := by decide +kernel
theorem dX6_holders_15 : decode cX6_holders 15 = .ok (.aload_n 0, 1) := by decide +kernel
theorem dX6_holders_16 : decode cX6_holders 16 = .ok (.iload_n 1, 1) := by decide +kernel
theorem dX6_holders_17 : decode cX6_holders 17 = .ok (.iload 4, 2) := by decide +kernel
theorem dX6_holders_19 : decode cX6_holders 19 = .ok (.invokevirtual 182, 3) := by decide +kernel
theorem dX6_holders_22 : decode cX6_holders 22 = .ok (.iload_n 2, 1) := by decide +kernel
theorem dX6_holders_23 : decode cX6_holders 23 = .ok (.invokestatic 220, 3) := by decide +kernel
theorem dX6_holders_26 : decode cX6_holders 26 = .ok (.ifCond .eq 10, 3) := by decide +kernel
theorem dX6_holders_29 : decode cX6_holders 29 = .ok (.iconst 1, 1) := by decide +kernel
theorem dX6_holders_30 : decode cX6_holders 30 = .ok (.iload 4, 2) := by decide +kernel
theorem dX6_holders_32 : decode cX6_holders 32 = .ok (.ishl, 1) := by decide +kernel
theorem dX6_holders_33 : decode cX6_holders 33 = .ok (.goto 4, 3) := by decide +kernel
theorem dX6_holders_36 : decode cX6_holders 36 = .ok (.iconst 0, 1) := by decide +kernel
theorem dX6_holders_37 : decode cX6_holders 37 = .ok (.ior, 1) := by decide +kernel
theorem dX6_holders_38 : decode cX6_holders 38 = .ok (.istore_n 3, 1) := by decide +kernel
theorem dX6_holders_39 : decode cX6_holders 39 = .ok (.iinc 4 1, 3) := by decide +kernel
theorem dX6_holders_42 : decode cX6_holders 42 = .ok (.goto (-37), 3) := by decide +kernel
theorem dX6_holders_45 : decode cX6_holders 45 = .ok (.iload_n 3, 1) := by decide +kernel
theorem dX6_holders_46 : decode cX6_holders 46 = .ok (.ireturn, 1) := by decide +kernel
theorem dX6_copiesOf_0 : decode cX6_copiesOf 0 = .ok (.iconst 0, 1) := by decide +kernel
theorem dX6_copiesOf_1 : decode cX6_copiesOf 1 = .ok (.istore_n 3, 1) := by decide +kernel
theorem dX6_copiesOf_2 : decode cX6_copiesOf 2 = .ok (.iconst 0, 1) := by decide +kernel
theorem dX6_copiesOf_3 : decode cX6_copiesOf 3 = .ok (.istore 4, 2) := by decide +kernel
theorem dX6_copiesOf_5 : decode cX6_copiesOf 5 = .ok (.iload 4, 2) := by decide +kernel
theorem dX6_copiesOf_7 : decode cX6_copiesOf 7 = .ok (.aload_n 0, 1) := by decide +kernel
theorem dX6_copiesOf_8 : decode cX6_copiesOf 8 = .ok (.invokevirtual 169, 3) := by decide +kernel
theorem dX6_copiesOf_11 : decode cX6_copiesOf 11 = .ok (.if_icmp .ge 31, 3) := by decide +kernel
theorem dX6_copiesOf_14 : decode cX6_copiesOf 14 = .ok (.iload_n 3, 1) := by decide +kernel
theorem dX6_copiesOf_15 : decode cX6_copiesOf 15 = .ok (.aload_n 0, 1) := by decide +kernel
theorem dX6_copiesOf_16 : decode cX6_copiesOf 16 = .ok (.iload 4, 2) := by decide +kernel
theorem dX6_copiesOf_18 : decode cX6_copiesOf 18 = .ok (.iload_n 1, 1) := by decide +kernel
theorem dX6_copiesOf_19 : decode cX6_copiesOf 19 = .ok (.invokevirtual 182, 3) := by decide +kernel
theorem dX6_copiesOf_22 : decode cX6_copiesOf 22 = .ok (.iload_n 2, 1) := by decide +kernel
theorem dX6_copiesOf_23 : decode cX6_copiesOf 23 = .ok (.invokestatic 220, 3) := by decide +kernel
theorem dX6_copiesOf_26 : decode cX6_copiesOf 26 = .ok (.ifCond .eq 7, 3) := by decide +kernel
theorem dX6_copiesOf_29 : decode cX6_copiesOf 29 = .ok (.iconst 1, 1) := by decide +kernel
theorem dX6_copiesOf_30 : decode cX6_copiesOf 30 = .ok (.goto 4, 3) := by decide +kernel
theorem dX6_copiesOf_33 : decode cX6_copiesOf 33 = .ok (.iconst 0, 1) := by decide +kernel
theorem dX6_copiesOf_34 : decode cX6_copiesOf 34 = .ok (.iadd, 1) := by decide +kernel
theorem dX6_copiesOf_35 : decode cX6_copiesOf 35 = .ok (.istore_n 3, 1) := by decide +kernel
theorem dX6_copiesOf_36 : decode cX6_copiesOf 36 = .ok (.iinc 4 1, 3) := by decide +kernel
theorem dX6_copiesOf_39 : decode cX6_copiesOf 39 = .ok (.goto (-34), 3) := by decide +kernel
theorem dX6_copiesOf_42 : decode cX6_copiesOf 42 = .ok (.iload_n 3, 1) := by decide +kernel
theorem dX6_copiesOf_43 : decode cX6_copiesOf 43 = .ok (.ireturn, 1) := by decide +kernel
theorem dX6_leftOf_0 : decode cX6_leftOf 0 = .ok (.aload_n 0, 1) := by decide +kernel
theorem dX6_leftOf_1 : decode cX6_leftOf 1 = .ok (.iload_n 1, 1) := by decide +kernel
theorem dX6_leftOf_2 : decode cX6_leftOf 2 = .ok (.iconst 0, 1) := by decide +kernel
theorem dX6_leftOf_3 : decode cX6_leftOf 3 = .ok (.invokevirtual 206, 3) := by decide +kernel
theorem dX6_leftOf_6 : decode cX6_leftOf 6 = .ok (.aload_n 0, 1) := by decide +kernel
theorem dX6_leftOf_7 : decode cX6_leftOf 7 = .ok (.iload_n 1, 1) := by decide +kernel
theorem dX6_leftOf_8 : decode cX6_leftOf 8 = .ok (.iconst 0, 1) := by decide +kernel
theorem dX6_leftOf_9 : decode cX6_leftOf 9 = .ok (.invokevirtual 223, 3) := by decide +kernel
theorem dX6_leftOf_12 : decode cX6_leftOf 12 = .ok (.isub, 1) := by decide +kernel
theorem dX6_leftOf_13 : decode cX6_leftOf 13 = .ok (.ireturn, 1) := by decide +kernel
theorem dX6_isInDanger_0 : decode cX6_isInDanger 0 = .ok (.aload_n 0, 1) := by decide +kernel
theorem dX6_isInDanger_1 : decode cX6_isInDanger 1 = .ok (.iload_n 1, 1) := by decide +kernel
theorem dX6_isInDanger_2 : decode cX6_isInDanger 2 = .ok (.iconst 1, 1) := by decide +kernel
theorem dX6_isInDanger_3 : decode cX6_isInDanger 3 = .ok (.invokevirtual 226, 3) := by decide +kernel
theorem dX6_isInDanger_6 : decode cX6_isInDanger 6 = .ok (.invokestatic 229, 3) := by decide +kernel
theorem dX6_isInDanger_9 : decode cX6_isInDanger 9 = .ok (.aload_n 0, 1) := by decide +kernel
theorem dX6_isInDanger_10 : decode cX6_isInDanger 10 = .ok (.iload_n 1, 1) := by decide +kernel
theorem dX6_isInDanger_11 : decode cX6_isInDanger 11 = .ok (.invokevirtual 232, 3) := by decide +kernel
theorem dX6_isInDanger_14 : decode cX6_isInDanger 14 = .ok (.if_icmp .ge 7, 3) := by decide +kernel
theorem dX6_isInDanger_17 : decode cX6_isInDanger 17 = .ok (.iconst 1, 1) := by decide +kernel
theorem dX6_isInDanger_18 : decode cX6_isInDanger 18 = .ok (.goto 4, 3) := by decide +kernel
theorem dX6_isInDanger_21 : decode cX6_isInDanger 21 = .ok (.iconst 0, 1) := by decide +kernel
theorem dX6_isInDanger_22 : decode cX6_isInDanger 22 = .ok (.ireturn, 1) := by decide +kernel
theorem dX6_isTruly_0 : decode cX6_isTruly 0 = .ok (.aload_n 0, 1) := by decide +kernel
theorem dX6_isTruly_1 : decode cX6_isTruly 1 = .ok (.iload_n 1, 1) := by decide +kernel
theorem dX6_isTruly_2 : decode cX6_isTruly 2 = .ok (.iconst 3, 1) := by decide +kernel
theorem dX6_isTruly_3 : decode cX6_isTruly 3 = .ok (.invokevirtual 226, 3) := by decide +kernel
theorem dX6_isTruly_6 : decode cX6_isTruly 6 = .ok (.invokestatic 229, 3) := by decide +kernel
theorem dX6_isTruly_9 : decode cX6_isTruly 9 = .ok (.aload_n 0, 1) := by decide +kernel
theorem dX6_isTruly_10 : decode cX6_isTruly 10 = .ok (.iload_n 1, 1) := by decide +kernel
theorem dX6_isTruly_11 : decode cX6_isTruly 11 = .ok (.invokevirtual 232, 3) := by decide +kernel
theorem dX6_isTruly_14 : decode cX6_isTruly 14 = .ok (.if_icmp .ge 7, 3) := by decide +kernel
theorem dX6_isTruly_17 : decode cX6_isTruly 17 = .ok (.iconst 1, 1) := by decide +kernel
theorem dX6_isTruly_18 : decode cX6_isTruly 18 = .ok (.goto 4, 3) := by decide +kernel
theorem dX6_isTruly_21 : decode cX6_isTruly 21 = .ok (.iconst 0, 1) := by decide +kernel
theorem dX6_isTruly_22 : decode cX6_isTruly 22 = .ok (.ireturn, 1) := by decide +kernel
theorem dX6_trustOf_0 : decode cX6_trustOf 0 = .ok (.aload_n 0, 1) := by decide +kernel
theorem dX6_trustOf_1 : decode cX6_trustOf 1 = .ok (.iload_n 1, 1) := by decide +kernel
theorem dX6_trustOf_2 : decode cX6_trustOf 2 = .ok (.iconst 1, 1) := by decide +kernel
theorem dX6_trustOf_3 : decode cX6_trustOf 3 = .ok (.invokevirtual 206, 3) := by decide +kernel
theorem dX6_trustOf_6 : decode cX6_trustOf 6 = .ok (.istore_n 2, 1) := by decide +kernel
theorem dX6_trustOf_7 : decode cX6_trustOf 7 = .ok (.bipush 100, 2) := by decide +kernel
theorem dX6_trustOf_9 : decode cX6_trustOf 9 = .ok (.iload_n 2, 1) := by decide +kernel
theorem dX6_trustOf_10 : decode cX6_trustOf 10 = .ok (.iconst 1, 1) := by decide +kernel
theorem dX6_trustOf_11 : decode cX6_trustOf 11 = .ok (.iadd, 1) := by decide +kernel
theorem dX6_trustOf_12 : decode cX6_trustOf 12 = .ok (.imul, 1) := by decide +kernel
theorem dX6_trustOf_13 : decode cX6_trustOf 13 = .ok (.iload_n 2, 1) := by decide +kernel
theorem dX6_trustOf_14 : decode cX6_trustOf 14 = .ok (.aload_n 0, 1) := by decide +kernel
theorem dX6_trustOf_15 : decode cX6_trustOf 15 = .ok (.iload_n 1, 1) := by decide +kernel
theorem dX6_trustOf_16 : decode cX6_trustOf 16 = .ok (.iconst 2, 1) := by decide +kernel
theorem dX6_trustOf_17 : decode cX6_trustOf 17 = .ok (.invokevirtual 206, 3) := by decide +kernel
theorem dX6_trustOf_20 : decode cX6_trustOf 20 = .ok (.iadd, 1) := by decide +kernel
theorem dX6_trustOf_21 : decode cX6_trustOf 21 = .ok (.iconst 2, 1) := by decide +kernel
theorem dX6_trustOf_22 : decode cX6_trustOf 22 = .ok (.iadd, 1) := by decide +kernel
theorem dX6_trustOf_23 : decode cX6_trustOf 23 = .ok (.idiv, 1) := by decide +kernel
theorem dX6_trustOf_24 : decode cX6_trustOf 24 = .ok (.ireturn, 1) := by decide +kernel
theorem dX6_allOf_0 : decode cX6_allOf 0 = .ok (.iconst 0, 1) := by decide +kernel
theorem dX6_allOf_1 : decode cX6_allOf 1 = .ok (.istore_n 2, 1) := by decide +kernel
theorem dX6_allOf_2 : decode cX6_allOf 2 = .ok (.iconst 0, 1) := by decide +kernel
theorem dX6_allOf_3 : decode cX6_allOf 3 = .ok (.istore_n 3, 1) := by decide +kernel
theorem dX6_allOf_4 : decode cX6_allOf 4 = .ok (.iload_n 3, 1) := by decide +kernel
theorem dX6_allOf_5 : decode cX6_allOf 5 = .ok (.aload_n 0, 1) := by decide +kernel
theorem dX6_allOf_6 : decode cX6_allOf 6 = .ok (.invokevirtual 169, 3) := by decide +kernel
theorem dX6_allOf_9 : decode cX6_allOf 9 = .ok (.if_icmp .ge 21, 3) := by decide +kernel
theorem dX6_allOf_12 : decode cX6_allOf 12 = .ok (.iload_n 2, 1) := by decide +kernel
theorem dX6_allOf_13 : decode cX6_allOf 13 = .ok (.aload_n 0, 1) := by decide +kernel
theorem dX6_allOf_14 : decode cX6_allOf 14 = .ok (.iload_n 3, 1) := by decide +kernel
theorem dX6_allOf_15 : decode cX6_allOf 15 = .ok (.iload_n 1, 1) := by decide +kernel
theorem dX6_allOf_16 : decode cX6_allOf 16 = .ok (.invokevirtual 226, 3) := by decide +kernel
theorem dX6_allOf_19 : decode cX6_allOf 19 = .ok (.invokestatic 229, 3) := by decide +kernel
theorem dX6_allOf_22 : decode cX6_allOf 22 = .ok (.iadd, 1) := by decide +kernel
theorem dX6_allOf_23 : decode cX6_allOf 23 = .ok (.istore_n 2, 1) := by decide +kernel
theorem dX6_allOf_24 : decode cX6_allOf 24 = .ok (.iinc 3 1, 3) := by decide +kernel
theorem dX6_allOf_27 : decode cX6_allOf 27 = .ok (.goto (-23), 3) := by decide +kernel
theorem dX6_allOf_30 : decode cX6_allOf 30 = .ok (.iload_n 2, 1) := by decide +kernel
theorem dX6_allOf_31 : decode cX6_allOf 31 = .ok (.ireturn, 1) := by decide +kernel
theorem dX6_dangers_0 : decode cX6_dangers 0 = .ok (.iconst 0, 1) := by decide +kernel
theorem dX6_dangers_1 : decode cX6_dangers 1 = .ok (.istore_n 2, 1) := by decide +kernel
theorem dX6_dangers_2 : decode cX6_dangers 2 = .ok (.iconst 0, 1) := by decide +kernel
theorem dX6_dangers_3 : decode cX6_dangers 3 = .ok (.istore_n 3, 1) := by decide +kernel
theorem dX6_dangers_4 : decode cX6_dangers 4 = .ok (.iload_n 3, 1) := by decide +kernel
theorem dX6_dangers_5 : decode cX6_dangers 5 = .ok (.aload_n 0, 1) := by decide +kernel
theorem dX6_dangers_6 : decode cX6_dangers 6 = .ok (.invokevirtual 169, 3) := by decide +kernel
theorem dX6_dangers_9 : decode cX6_dangers 9 = .ok (.if_icmp .ge 40, 3) := by decide +kernel
theorem dX6_dangers_12 : decode cX6_dangers 12 = .ok (.iload_n 2, 1) := by decide +kernel
theorem dX6_dangers_13 : decode cX6_dangers 13 = .ok (.iload_n 1, 1) := by decide +kernel
theorem dX6_dangers_14 : decode cX6_dangers 14 = .ok (.ifCond .eq 14, 3) := by decide +kernel
theorem dX6_dangers_17 : decode cX6_dangers 17 = .ok (.aload_n 0, 1) := by decide +kernel
theorem dX6_dangers_18 : decode cX6_dangers 18 = .ok (.iload_n 3, 1) := by decide +kernel
theorem dX6_dangers_19 : decode cX6_dangers 19 = .ok (.invokevirtual 235, 3) := by decide +kernel
theorem dX6_dangers_22 : decode cX6_dangers 22 = .ok (.ifCond .eq 18, 3) := by decide +kernel
theorem dX6_dangers_25 : decode cX6_dangers 25 = .ok (.goto 11, 3) := by decide +kernel
theorem dX6_dangers_28 : decode cX6_dangers 28 = .ok (.aload_n 0, 1) := by decide +kernel
theorem dX6_dangers_29 : decode cX6_dangers 29 = .ok (.iload_n 3, 1) := by decide +kernel
theorem dX6_dangers_30 : decode cX6_dangers 30 = .ok (.invokevirtual 238, 3) := by decide +kernel
theorem dX6_dangers_33 : decode cX6_dangers 33 = .ok (.ifCond .eq 7, 3) := by decide +kernel
theorem dX6_dangers_36 : decode cX6_dangers 36 = .ok (.iconst 1, 1) := by decide +kernel
theorem dX6_dangers_37 : decode cX6_dangers 37 = .ok (.goto 4, 3) := by decide +kernel
theorem dX6_dangers_40 : decode cX6_dangers 40 = .ok (.iconst 0, 1) := by decide +kernel
theorem dX6_dangers_41 : decode cX6_dangers 41 = .ok (.iadd, 1) := by decide +kernel
theorem dX6_dangers_42 : decode cX6_dangers 42 = .ok (.istore_n 2, 1) := by decide +kernel
theorem dX6_dangers_43 : decode cX6_dangers 43 = .ok (.iinc 3 1, 3) := by decide +kernel
theorem dX6_dangers_46 : decode cX6_dangers 46 = .ok (.goto (-42), 3) := by decide +kernel
theorem dX6_dangers_49 : decode cX6_dangers 49 = .ok (.iload_n 2, 1) := by decide +kernel
theorem dX6_dangers_50 : decode cX6_dangers 50 = .ok (.ireturn, 1) := by decide +kernel
theorem dX6_pairs_0 : decode cX6_pairs 0 = .ok (.iconst 0, 1) := by decide +kernel
theorem dX6_pairs_1 : decode cX6_pairs 1 = .ok (.istore_n 1, 1) := by decide +kernel
theorem dX6_pairs_2 : decode cX6_pairs 2 = .ok (.iconst 0, 1) := by decide +kernel
theorem dX6_pairs_3 : decode cX6_pairs 3 = .ok (.istore_n 2, 1) := by decide +kernel
theorem dX6_pairs_4 : decode cX6_pairs 4 = .ok (.iload_n 2, 1) := by decide +kernel
theorem dX6_pairs_5 : decode cX6_pairs 5 = .ok (.aload_n 0, 1) := by decide +kernel
theorem dX6_pairs_6 : decode cX6_pairs 6 = .ok (.invokevirtual 67, 3) := by decide +kernel
theorem dX6_pairs_9 : decode cX6_pairs 9 = .ok (.if_icmp .ge 21, 3) := by decide +kernel
theorem dX6_pairs_12 : decode cX6_pairs 12 = .ok (.iload_n 1, 1) := by decide +kernel
theorem dX6_pairs_13 : decode cX6_pairs 13 = .ok (.aload_n 0, 1) := by decide +kernel
theorem dX6_pairs_14 : decode cX6_pairs 14 = .ok (.iload_n 2, 1) := by decide +kernel
theorem dX6_pairs_15 : decode cX6_pairs 15 = .ok (.iconst 3, 1) := by decide +kernel
theorem dX6_pairs_16 : decode cX6_pairs 16 = .ok (.invokevirtual 206, 3) := by decide +kernel
theorem dX6_pairs_19 : decode cX6_pairs 19 = .ok (.invokestatic 229, 3) := by decide +kernel
theorem dX6_pairs_22 : decode cX6_pairs 22 = .ok (.iadd, 1) := by decide +kernel
theorem dX6_pairs_23 : decode cX6_pairs 23 = .ok (.istore_n 1, 1) := by decide +kernel
theorem dX6_pairs_24 : decode cX6_pairs 24 = .ok (.iinc 2 1, 3) := by decide +kernel
theorem dX6_pairs_27 : decode cX6_pairs 27 = .ok (.goto (-23), 3) := by decide +kernel
theorem dX6_pairs_30 : decode cX6_pairs 30 = .ok (.iload_n 1, 1) := by decide +kernel
theorem dX6_pairs_31 : decode cX6_pairs 31 = .ok (.iconst 2, 1) := by decide +kernel
theorem dX6_pairs_32 : decode cX6_pairs 32 = .ok (.idiv, 1) := by decide +kernel
theorem dX6_pairs_33 : decode cX6_pairs 33 = .ok (.ireturn, 1) := by decide +kernel
theorem dX6_count_0 : decode cX6_count 0 = .ok (.aload_n 0, 1) := by decide +kernel
theorem dX6_count_1 : decode cX6_count 1 = .ok (.iload_n 1, 1) := by decide +kernel
theorem dX6_count_2 : decode cX6_count 2 = .ok (.iconst 0, 1) := by decide +kernel
theorem dX6_count_3 : decode cX6_count 3 = .ok (.bipush 10, 2) := by decide +kernel
theorem dX6_count_5 : decode cX6_count 5 = .ok (.invokestatic 59, 3) := by decide +kernel
theorem dX6_count_8 : decode cX6_count 8 = .ok (.ifCond .eq 7, 3) := by decide +kernel
theorem dX6_count_11 : decode cX6_count 11 = .ok (.iconst 0, 1) := by decide +kernel
theorem dX6_count_12 : decode cX6_count 12 = .ok (.goto 4, 3) := by decide +kernel
theorem dX6_count_15 : decode cX6_count 15 = .ok (.iconst 1, 1) := by decide +kernel
theorem dX6_count_16 : decode cX6_count 16 = .ok (.putfield 49, 3) := by decide +kernel
theorem dX6_count_19 : decode cX6_count 19 = .ok (.aload_n 0, 1) := by decide +kernel
theorem dX6_count_20 : decode cX6_count 20 = .ok (.getfield 49, 3) := by decide +kernel
theorem dX6_count_23 : decode cX6_count 23 = .ok (.ifCond .le 5, 3) := by decide +kernel
theorem dX6_count_26 : decode cX6_count 26 = .ok (.iconst 0, 1) := by decide +kernel
theorem dX6_count_27 : decode cX6_count 27 = .ok (.ireturn, 1) := by decide +kernel
theorem dX6_count_28 : decode cX6_count 28 = .ok (.iload_n 1, 1) := by decide +kernel
theorem dX6_count_29 : decode cX6_count 29 = .ok (.tableswitch 122 0 9 #[55, 62, 67, 72, 78, 84, 96, 102, 108, 115], 55) := by decide +kernel
theorem dX6_count_84 : decode cX6_count 84 = .ok (.aload_n 0, 1) := by decide +kernel
theorem dX6_count_85 : decode cX6_count 85 = .ok (.getfield 7, 3) := by decide +kernel
theorem dX6_count_88 : decode cX6_count 88 = .ok (.iconst 0, 1) := by decide +kernel
theorem dX6_count_89 : decode cX6_count 89 = .ok (.iaload, 1) := by decide +kernel
theorem dX6_count_90 : decode cX6_count 90 = .ok (.ireturn, 1) := by decide +kernel
theorem dX6_count_91 : decode cX6_count 91 = .ok (.aload_n 0, 1) := by decide +kernel
theorem dX6_count_92 : decode cX6_count 92 = .ok (.invokevirtual 67, 3) := by decide +kernel
theorem dX6_count_95 : decode cX6_count 95 = .ok (.ireturn, 1) := by decide +kernel
theorem dX6_count_96 : decode cX6_count 96 = .ok (.aload_n 0, 1) := by decide +kernel
theorem dX6_count_97 : decode cX6_count 97 = .ok (.invokevirtual 169, 3) := by decide +kernel
theorem dX6_count_100 : decode cX6_count 100 = .ok (.ireturn, 1) := by decide +kernel
theorem dX6_count_101 : decode cX6_count 101 = .ok (.aload_n 0, 1) := by decide +kernel
theorem dX6_count_102 : decode cX6_count 102 = .ok (.iconst 0, 1) := by decide +kernel
theorem dX6_count_103 : decode cX6_count 103 = .ok (.invokevirtual 241, 3) := by decide +kernel
theorem dX6_count_106 : decode cX6_count 106 = .ok (.ireturn, 1) := by decide +kernel
theorem dX6_count_107 : decode cX6_count 107 = .ok (.aload_n 0, 1) := by decide +kernel
theorem dX6_count_108 : decode cX6_count 108 = .ok (.iconst 2, 1) := by decide +kernel
theorem dX6_count_109 : decode cX6_count 109 = .ok (.invokevirtual 241, 3) := by decide +kernel
theorem dX6_count_112 : decode cX6_count 112 = .ok (.ireturn, 1) := by decide +kernel
theorem dX6_count_113 : decode cX6_count 113 = .ok (.aload_n 0, 1) := by decide +kernel
theorem dX6_count_114 : decode cX6_count 114 = .ok (.iconst 1, 1) := by decide +kernel
theorem dX6_count_115 : decode cX6_count 115 = .ok (.invokevirtual 241, 3) := by decide +kernel
theorem dX6_count_118 : decode cX6_count 118 = .ok (.aload_n 0, 1) := by decide +kernel
theorem dX6_count_119 : decode cX6_count 119 = .ok (.iconst 3, 1) := by decide +kernel
theorem dX6_count_120 : decode cX6_count 120 = .ok (.invokevirtual 241, 3) := by decide +kernel
theorem dX6_count_123 : decode cX6_count 123 = .ok (.isub, 1) := by decide +kernel
theorem dX6_count_124 : decode cX6_count 124 = .ok (.ireturn, 1) := by decide +kernel
theorem dX6_count_125 : decode cX6_count 125 = .ok (.aload_n 0, 1) := by decide +kernel
theorem dX6_count_126 : decode cX6_count 126 = .ok (.iconst 0, 1) := by decide +kernel
theorem dX6_count_127 : decode cX6_count 127 = .ok (.invokevirtual 244, 3) := by decide +kernel
theorem dX6_count_130 : decode cX6_count 130 = .ok (.ireturn, 1) := by decide +kernel
theorem dX6_count_131 : decode cX6_count 131 = .ok (.aload_n 0, 1) := by decide +kernel
theorem dX6_count_132 : decode cX6_count 132 = .ok (.iconst 1, 1) := by decide +kernel
theorem dX6_count_133 : decode cX6_count 133 = .ok (.invokevirtual 244, 3) := by decide +kernel
theorem dX6_count_136 : decode cX6_count 136 = .ok (.ireturn, 1) := by decide +kernel
theorem dX6_count_137 : decode cX6_count 137 = .ok (.aload_n 0, 1) := by decide +kernel
theorem dX6_count_138 : decode cX6_count 138 = .ok (.getfield 7, 3) := by decide +kernel
theorem dX6_count_141 : decode cX6_count 141 = .ok (.iconst 4, 1) := by decide +kernel
theorem dX6_count_142 : decode cX6_count 142 = .ok (.iaload, 1) := by decide +kernel
theorem dX6_count_143 : decode cX6_count 143 = .ok (.ireturn, 1) := by decide +kernel
theorem dX6_count_144 : decode cX6_count 144 = .ok (.aload_n 0, 1) := by decide +kernel
theorem dX6_count_145 : decode cX6_count 145 = .ok (.getfield 7, 3) := by decide +kernel
theorem dX6_count_148 : decode cX6_count 148 = .ok (.iconst 3, 1) := by decide +kernel
theorem dX6_count_149 : decode cX6_count 149 = .ok (.iaload, 1) := by decide +kernel
theorem dX6_count_150 : decode cX6_count 150 = .ok (.ireturn, 1) := by decide +kernel
theorem dX6_count_151 : decode cX6_count 151 = .ok (.aload_n 0, 1) := by decide +kernel
theorem dX6_count_152 : decode cX6_count 152 = .ok (.invokevirtual 248, 3) := by decide +kernel
theorem dX6_count_155 : decode cX6_count 155 = .ok (.ireturn, 1) := by decide +kernel
theorem dX6_family_0 : decode cX6_family 0 = .ok (.aload_n 0, 1) := by decide +kernel
theorem dX6_family_1 : decode cX6_family 1 = .ok (.aload_n 0, 1) := by decide +kernel
theorem dX6_family_2 : decode cX6_family 2 = .ok (.iload_n 1, 1) := by decide +kernel
theorem dX6_family_3 : decode cX6_family 3 = .ok (.invokevirtual 251, 3) := by decide +kernel
theorem dX6_family_6 : decode cX6_family 6 = .ok (.ifCond .ne 7, 3) := by decide +kernel
theorem dX6_family_9 : decode cX6_family 9 = .ok (.iconst 1, 1) := by decide +kernel
theorem dX6_family_10 : decode cX6_family 10 = .ok (.goto 18, 3) := by decide +kernel
theorem dX6_family_13 : decode cX6_family 13 = .ok (.iload_n 2, 1) := by decide +kernel
theorem dX6_family_14 : decode cX6_family 14 = .ok (.iconst 0, 1) := by decide +kernel
theorem dX6_family_15 : decode cX6_family 15 = .ok (.bipush 6, 2) := by decide +kernel
theorem dX6_family_17 : decode cX6_family 17 = .ok (.invokestatic 59, 3) := by decide +kernel
theorem dX6_family_20 : decode cX6_family 20 = .ok (.ifCond .eq 7, 3) := by decide +kernel
theorem dX6_family_23 : decode cX6_family 23 = .ok (.iconst 0, 1) := by decide +kernel
theorem dX6_family_24 : decode cX6_family 24 = .ok (.goto 4, 3) := by decide +kernel
theorem dX6_family_27 : decode cX6_family 27 = .ok (.iconst 2, 1) := by decide +kernel
theorem dX6_family_28 : decode cX6_family 28 = .ok (.putfield 49, 3) := by decide +kernel
theorem dX6_family_31 : decode cX6_family 31 = .ok (.aload_n 0, 1) := by decide +kernel
theorem dX6_family_32 : decode cX6_family 32 = .ok (.getfield 49, 3) := by decide +kernel
theorem dX6_family_35 : decode cX6_family 35 = .ok (.ifCond .le 5, 3) := by decide +kernel
theorem dX6_family_38 : decode cX6_family 38 = .ok (.iconst 0, 1) := by decide +kernel
theorem dX6_family_39 : decode cX6_family 39 = .ok (.ireturn, 1) := by decide +kernel
theorem dX6_family_40 : decode cX6_family 40 = .ok (.iload_n 2, 1) := by decide +kernel
theorem dX6_family_41 : decode cX6_family 41 = .ok (.tableswitch 80 0 5 #[39, 46, 53, 60, 67, 74], 39) := by decide +kernel
theorem dX6_family_80 : decode cX6_family 80 = .ok (.aload_n 0, 1) := by decide +kernel
theorem dX6_family_81 : decode cX6_family 81 = .ok (.iload_n 1, 1) := by decide +kernel
theorem dX6_family_82 : decode cX6_family 82 = .ok (.iconst 0, 1) := by decide +kernel
theorem dX6_family_83 : decode cX6_family 83 = .ok (.invokevirtual 206, 3) := by decide +kernel
theorem dX6_family_86 : decode cX6_family 86 = .ok (.ireturn, 1) := by decide +kernel
theorem dX6_family_87 : decode cX6_family 87 = .ok (.aload_n 0, 1) := by decide +kernel
theorem dX6_family_88 : decode cX6_family 88 = .ok (.iload_n 1, 1) := by decide +kernel
theorem dX6_family_89 : decode cX6_family 89 = .ok (.iconst 0, 1) := by decide +kernel
theorem dX6_family_90 : decode cX6_family 90 = .ok (.invokevirtual 223, 3) := by decide +kernel
theorem dX6_family_93 : decode cX6_family 93 = .ok (.ireturn, 1) := by decide +kernel
theorem dX6_family_94 : decode cX6_family 94 = .ok (.aload_n 0, 1) := by decide +kernel
theorem dX6_family_95 : decode cX6_family 95 = .ok (.iload_n 1, 1) := by decide +kernel
theorem dX6_family_96 : decode cX6_family 96 = .ok (.iconst 2, 1) := by decide +kernel
theorem dX6_family_97 : decode cX6_family 97 = .ok (.invokevirtual 223, 3) := by decide +kernel
theorem dX6_family_100 : decode cX6_family 100 = .ok (.ireturn, 1) := by decide +kernel
theorem dX6_family_101 : decode cX6_family 101 = .ok (.aload_n 0, 1) := by decide +kernel
theorem dX6_family_102 : decode cX6_family 102 = .ok (.iload_n 1, 1) := by decide +kernel
theorem dX6_family_103 : decode cX6_family 103 = .ok (.iconst 1, 1) := by decide +kernel
theorem dX6_family_104 : decode cX6_family 104 = .ok (.invokevirtual 206, 3) := by decide +kernel
theorem dX6_family_107 : decode cX6_family 107 = .ok (.ireturn, 1) := by decide +kernel
theorem dX6_family_108 : decode cX6_family 108 = .ok (.aload_n 0, 1) := by decide +kernel
theorem dX6_family_109 : decode cX6_family 109 = .ok (.iload_n 1, 1) := by decide +kernel
theorem dX6_family_110 : decode cX6_family 110 = .ok (.iconst 2, 1) := by decide +kernel
theorem dX6_family_111 : decode cX6_family 111 = .ok (.invokevirtual 206, 3) := by decide +kernel
theorem dX6_family_114 : decode cX6_family 114 = .ok (.ireturn, 1) := by decide +kernel
theorem dX6_family_115 : decode cX6_family 115 = .ok (.aload_n 0, 1) := by decide +kernel
theorem dX6_family_116 : decode cX6_family 116 = .ok (.iload_n 1, 1) := by decide +kernel
theorem dX6_family_117 : decode cX6_family 117 = .ok (.invokevirtual 254, 3) := by decide +kernel
theorem dX6_family_120 : decode cX6_family 120 = .ok (.ireturn, 1) := by decide +kernel
theorem dX6_family_121 : decode cX6_family 121 = .ok (.aload_n 0, 1) := by decide +kernel
theorem dX6_family_122 : decode cX6_family 122 = .ok (.iload_n 1, 1) := by decide +kernel
theorem dX6_family_123 : decode cX6_family 123 = .ok (.iconst 3, 1) := by decide +kernel
theorem dX6_family_124 : decode cX6_family 124 = .ok (.invokevirtual 206, 3) := by decide +kernel
theorem dX6_family_127 : decode cX6_family 127 = .ok (.ireturn, 1) := by decide +kernel
theorem dX6_picture_0 : decode cX6_picture 0 = .ok (.aload_n 0, 1) := by decide +kernel
theorem dX6_picture_1 : decode cX6_picture 1 = .ok (.aload_n 0, 1) := by decide +kernel
theorem dX6_picture_2 : decode cX6_picture 2 = .ok (.iload_n 1, 1) := by decide +kernel
theorem dX6_picture_3 : decode cX6_picture 3 = .ok (.invokevirtual 257, 3) := by decide +kernel
theorem dX6_picture_6 : decode cX6_picture 6 = .ok (.ifCond .ne 7, 3) := by decide +kernel
theorem dX6_picture_9 : decode cX6_picture 9 = .ok (.iconst 1, 1) := by decide +kernel
theorem dX6_picture_10 : decode cX6_picture 10 = .ok (.goto 17, 3) := by decide +kernel
theorem dX6_picture_13 : decode cX6_picture 13 = .ok (.iload_n 2, 1) := by decide +kernel
theorem dX6_picture_14 : decode cX6_picture 14 = .ok (.iconst 0, 1) := by decide +kernel
theorem dX6_picture_15 : decode cX6_picture 15 = .ok (.iconst 5, 1) := by decide +kernel
theorem dX6_picture_16 : decode cX6_picture 16 = .ok (.invokestatic 59, 3) := by decide +kernel
theorem dX6_picture_19 : decode cX6_picture 19 = .ok (.ifCond .eq 7, 3) := by decide +kernel
theorem dX6_picture_22 : decode cX6_picture 22 = .ok (.iconst 0, 1) := by decide +kernel
theorem dX6_picture_23 : decode cX6_picture 23 = .ok (.goto 4, 3) := by decide +kernel
theorem dX6_picture_26 : decode cX6_picture 26 = .ok (.iconst 2, 1) := by decide +kernel
theorem dX6_picture_27 : decode cX6_picture 27 = .ok (.putfield 49, 3) := by decide +kernel
theorem dX6_picture_30 : decode cX6_picture 30 = .ok (.aload_n 0, 1) := by decide +kernel
theorem dX6_picture_31 : decode cX6_picture 31 = .ok (.getfield 49, 3) := by decide +kernel
theorem dX6_picture_34 : decode cX6_picture 34 = .ok (.ifCond .le 5, 3) := by decide +kernel
theorem dX6_picture_37 : decode cX6_picture 37 = .ok (.iconst 0, 1) := by decide +kernel
theorem dX6_picture_38 : decode cX6_picture 38 = .ok (.ireturn, 1) := by decide +kernel
theorem dX6_picture_39 : decode cX6_picture 39 = .ok (.iload_n 2, 1) := by decide +kernel
theorem dX6_picture_40 : decode cX6_picture 40 = .ok (.lookupswitch 70 #[(0, 36), (4, 42), (5, 56)], 36) := by decide +kernel
theorem dX6_picture_76 : decode cX6_picture 76 = .ok (.aload_n 0, 1) := by decide +kernel
theorem dX6_picture_77 : decode cX6_picture 77 = .ok (.iload_n 1, 1) := by decide +kernel
theorem dX6_picture_78 : decode cX6_picture 78 = .ok (.invokevirtual 232, 3) := by decide +kernel
theorem dX6_picture_81 : decode cX6_picture 81 = .ok (.ireturn, 1) := by decide +kernel
theorem dX6_picture_82 : decode cX6_picture 82 = .ok (.aload_n 0, 1) := by decide +kernel
theorem dX6_picture_83 : decode cX6_picture 83 = .ok (.iload_n 1, 1) := by decide +kernel
theorem dX6_picture_84 : decode cX6_picture 84 = .ok (.invokevirtual 238, 3) := by decide +kernel
theorem dX6_picture_87 : decode cX6_picture 87 = .ok (.ifCond .eq 7, 3) := by decide +kernel
theorem dX6_picture_90 : decode cX6_picture 90 = .ok (.iconst 1, 1) := by decide +kernel
theorem dX6_picture_91 : decode cX6_picture 91 = .ok (.goto 4, 3) := by decide +kernel
theorem dX6_picture_94 : decode cX6_picture 94 = .ok (.iconst 0, 1) := by decide +kernel
theorem dX6_picture_95 : decode cX6_picture 95 = .ok (.ireturn, 1) := by decide +kernel
theorem dX6_picture_96 : decode cX6_picture 96 = .ok (.aload_n 0, 1) := by decide +kernel
theorem dX6_picture_97 : decode cX6_picture 97 = .ok (.iload_n 1, 1) := by decide +kernel
theorem dX6_picture_98 : decode cX6_picture 98 = .ok (.invokevirtual 235, 3) := by decide +kernel
theorem dX6_picture_101 : decode cX6_picture 101 = .ok (.ifCond .eq 7, 3) := by decide +kernel
theorem dX6_picture_104 : decode cX6_picture 104 = .ok (.iconst 1, 1) := by decide +kernel
theorem dX6_picture_105 : decode cX6_picture 105 = .ok (.goto 4, 3) := by decide +kernel
theorem dX6_picture_108 : decode cX6_picture 108 = .ok (.iconst 0, 1) := by decide +kernel
theorem dX6_picture_109 : decode cX6_picture 109 = .ok (.ireturn, 1) := by decide +kernel
theorem dX6_picture_110 : decode cX6_picture 110 = .ok (.aload_n 0, 1) := by decide +kernel
theorem dX6_picture_111 : decode cX6_picture 111 = .ok (.iload_n 1, 1) := by decide +kernel
theorem dX6_picture_112 : decode cX6_picture 112 = .ok (.iload_n 2, 1) := by decide +kernel
theorem dX6_picture_113 : decode cX6_picture 113 = .ok (.invokevirtual 226, 3) := by decide +kernel
theorem dX6_picture_116 : decode cX6_picture 116 = .ok (.ireturn, 1) := by decide +kernel
theorem dX6_areBoth_0 : decode cX6_areBoth 0 = .ok (.aload_n 0, 1) := by decide +kernel
theorem dX6_areBoth_1 : decode cX6_areBoth 1 = .ok (.aload_n 0, 1) := by decide +kernel
theorem dX6_areBoth_2 : decode cX6_areBoth 2 = .ok (.iload_n 1, 1) := by decide +kernel
theorem dX6_areBoth_3 : decode cX6_areBoth 3 = .ok (.invokevirtual 257, 3) := by decide +kernel
theorem dX6_areBoth_6 : decode cX6_areBoth 6 = .ok (.ifCond .eq 15, 3) := by decide +kernel
theorem dX6_areBoth_9 : decode cX6_areBoth 9 = .ok (.aload_n 0, 1) := by decide +kernel
theorem dX6_areBoth_10 : decode cX6_areBoth 10 = .ok (.iload_n 2, 1) := by decide +kernel
theorem dX6_areBoth_11 : decode cX6_areBoth 11 = .ok (.invokevirtual 251, 3) := by decide +kernel
theorem dX6_areBoth_14 : decode cX6_areBoth 14 = .ok (.ifCond .eq 7, 3) := by decide +kernel
theorem dX6_areBoth_17 : decode cX6_areBoth 17 = .ok (.iconst 0, 1) := by decide +kernel
theorem dX6_areBoth_18 : decode cX6_areBoth 18 = .ok (.goto 4, 3) := by decide +kernel
theorem dX6_areBoth_21 : decode cX6_areBoth 21 = .ok (.iconst 1, 1) := by decide +kernel
theorem dX6_areBoth_22 : decode cX6_areBoth 22 = .ok (.putfield 49, 3) := by decide +kernel
theorem dX6_areBoth_25 : decode cX6_areBoth 25 = .ok (.aload_n 0, 1) := by decide +kernel
theorem dX6_areBoth_26 : decode cX6_areBoth 26 = .ok (.getfield 49, 3) := by decide +kernel
theorem dX6_areBoth_29 : decode cX6_areBoth 29 = .ok (.ifCond .ne 7, 3) := by decide +kernel
theorem dX6_areBoth_32 : decode cX6_areBoth 32 = .ok (.iconst 1, 1) := by decide +kernel
theorem dX6_areBoth_33 : decode cX6_areBoth 33 = .ok (.goto 4, 3) := by decide +kernel
theorem dX6_areBoth_36 : decode cX6_areBoth 36 = .ok (.iconst 0, 1) := by decide +kernel
theorem dX6_areBoth_37 : decode cX6_areBoth 37 = .ok (.ireturn, 1) := by decide +kernel
theorem dX6_copy_0 : decode cX6_copy 0 = .ok (.aload_n 0, 1) := by decide +kernel
theorem dX6_copy_1 : decode cX6_copy 1 = .ok (.iload_n 1, 1) := by decide +kernel
theorem dX6_copy_2 : decode cX6_copy 2 = .ok (.iload_n 2, 1) := by decide +kernel
theorem dX6_copy_3 : decode cX6_copy 3 = .ok (.invokevirtual 260, 3) := by decide +kernel
theorem dX6_copy_6 : decode cX6_copy 6 = .ok (.ifCond .ne 5, 3) := by decide +kernel
theorem dX6_copy_9 : decode cX6_copy 9 = .ok (.iconst 0, 1) := by decide +kernel
theorem dX6_copy_10 : decode cX6_copy 10 = .ok (.ireturn, 1) := by decide +kernel
theorem dX6_copy_11 : decode cX6_copy 11 = .ok (.aload_n 0, 1) := by decide +kernel
theorem dX6_copy_12 : decode cX6_copy 12 = .ok (.iload_n 1, 1) := by decide +kernel
theorem dX6_copy_13 : decode cX6_copy 13 = .ok (.iload_n 2, 1) := by decide +kernel
theorem dX6_copy_14 : decode cX6_copy 14 = .ok (.invokevirtual 182, 3) := by decide +kernel
theorem dX6_copy_17 : decode cX6_copy 17 = .ok (.istore_n 3, 1) := by decide +kernel
theorem dX6_copy_18 : decode cX6_copy 18 = .ok (.iload_n 3, 1) := by decide +kernel
theorem dX6_copy_19 : decode cX6_copy 19 = .ok (.ifCond .ne 7, 3) := by decide +kernel
theorem dX6_copy_22 : decode cX6_copy 22 = .ok (.iconst (-1), 1) := by decide +kernel
theorem dX6_copy_23 : decode cX6_copy 23 = .ok (.goto 8, 3) := by decide +kernel
theorem dX6_copy_26 : decode cX6_copy 26 = .ok (.iload_n 3, 1) := by decide +kernel
theorem dX6_copy_27 : decode cX6_copy 27 = .ok (.ldc_w 263, 3) := by decide +kernel
theorem dX6_copy_30 : decode cX6_copy 30 = .ok (.iand, 1) := by decide +kernel
theorem dX6_copy_31 : decode cX6_copy 31 = .ok (.ireturn, 1) := by decide +kernel
theorem dX6_why_0 : decode cX6_why 0 = .ok (.aload_n 0, 1) := by decide +kernel
theorem dX6_why_1 : decode cX6_why 1 = .ok (.iload_n 1, 1) := by decide +kernel
theorem dX6_why_2 : decode cX6_why 2 = .ok (.iload_n 2, 1) := by decide +kernel
theorem dX6_why_3 : decode cX6_why 3 = .ok (.invokevirtual 260, 3) := by decide +kernel
theorem dX6_why_6 : decode cX6_why 6 = .ok (.ifCond .ne 5, 3) := by decide +kernel
theorem dX6_why_9 : decode cX6_why 9 = .ok (.iconst 0, 1) := by decide +kernel
theorem dX6_why_10 : decode cX6_why 10 = .ok (.ireturn, 1) := by decide +kernel
theorem dX6_why_11 : decode cX6_why 11 = .ok (.aload_n 0, 1) := by decide +kernel
theorem dX6_why_12 : decode cX6_why 12 = .ok (.iload_n 1, 1) := by decide +kernel
theorem dX6_why_13 : decode cX6_why 13 = .ok (.iload_n 2, 1) := by decide +kernel
theorem dX6_why_14 : decode cX6_why 14 = .ok (.invokevirtual 182, 3) := by decide +kernel
theorem dX6_why_17 : decode cX6_why 17 = .ok (.istore_n 3, 1) := by decide +kernel
theorem dX6_why_18 : decode cX6_why 18 = .ok (.iload_n 3, 1) := by decide +kernel
theorem dX6_why_19 : decode cX6_why 19 = .ok (.ifCond .ne 7, 3) := by decide +kernel
theorem dX6_why_22 : decode cX6_why 22 = .ok (.iconst 1, 1) := by decide +kernel
theorem dX6_why_23 : decode cX6_why 23 = .ok (.goto 26, 3) := by decide +kernel
theorem dX6_why_26 : decode cX6_why 26 = .ok (.iload_n 3, 1) := by decide +kernel
theorem dX6_why_27 : decode cX6_why 27 = .ok (.invokestatic 214, 3) := by decide +kernel
theorem dX6_why_30 : decode cX6_why 30 = .ok (.ifCond .eq 7, 3) := by decide +kernel
theorem dX6_why_33 : decode cX6_why 33 = .ok (.iconst 2, 1) := by decide +kernel
theorem dX6_why_34 : decode cX6_why 34 = .ok (.goto 15, 3) := by decide +kernel
theorem dX6_why_37 : decode cX6_why 37 = .ok (.iload_n 3, 1) := by decide +kernel
theorem dX6_why_38 : decode cX6_why 38 = .ok (.invokestatic 217, 3) := by decide +kernel
theorem dX6_why_41 : decode cX6_why 41 = .ok (.ifCond .eq 7, 3) := by decide +kernel
theorem dX6_why_44 : decode cX6_why 44 = .ok (.iconst 0, 1) := by decide +kernel
theorem dX6_why_45 : decode cX6_why 45 = .ok (.goto 4, 3) := by decide +kernel
theorem dX6_why_48 : decode cX6_why 48 = .ok (.iconst 3, 1) := by decide +kernel
theorem dX6_why_49 : decode cX6_why 49 = .ok (.ireturn, 1) := by decide +kernel
theorem dX6_asks_0 : decode cX6_asks 0 = .ok (.aload_n 0, 1) := by decide +kernel
theorem dX6_asks_1 : decode cX6_asks 1 = .ok (.iload_n 1, 1) := by decide +kernel
theorem dX6_asks_2 : decode cX6_asks 2 = .ok (.iload_n 2, 1) := by decide +kernel
theorem dX6_asks_3 : decode cX6_asks 3 = .ok (.invokevirtual 182, 3) := by decide +kernel
theorem dX6_asks_6 : decode cX6_asks 6 = .ok (.iload_n 3, 1) := by decide +kernel
theorem dX6_asks_7 : decode cX6_asks 7 = .ok (.ishr, 1) := by decide +kernel
theorem dX6_asks_8 : decode cX6_asks 8 = .ok (.iconst 1, 1) := by decide +kernel
theorem dX6_asks_9 : decode cX6_asks 9 = .ok (.iand, 1) := by decide +kernel
theorem dX6_asks_10 : decode cX6_asks 10 = .ok (.ifCond .ne 7, 3) := by decide +kernel
theorem dX6_asks_13 : decode cX6_asks 13 = .ok (.iconst 1, 1) := by decide +kernel
theorem dX6_asks_14 : decode cX6_asks 14 = .ok (.goto 4, 3) := by decide +kernel
theorem dX6_asks_17 : decode cX6_asks 17 = .ok (.iconst 0, 1) := by decide +kernel
theorem dX6_asks_18 : decode cX6_asks 18 = .ok (.istore 4, 2) := by decide +kernel
theorem dX6_asks_20 : decode cX6_asks 20 = .ok (.iload 4, 2) := by decide +kernel
theorem dX6_asks_22 : decode cX6_asks 22 = .ok (.ifCond .eq 7, 3) := by decide +kernel
theorem dX6_asks_25 : decode cX6_asks 25 = .ok (.iconst 1, 1) := by decide +kernel
theorem dX6_asks_26 : decode cX6_asks 26 = .ok (.goto 4, 3) := by decide +kernel
theorem dX6_asks_29 : decode cX6_asks 29 = .ok (.iconst 2, 1) := by decide +kernel
theorem dX6_asks_30 : decode cX6_asks 30 = .ok (.istore 5, 2) := by decide +kernel
theorem dX6_asks_32 : decode cX6_asks 32 = .ok (.aload_n 0, 1) := by decide +kernel
theorem dX6_asks_33 : decode cX6_asks 33 = .ok (.iload_n 2, 1) := by decide +kernel
theorem dX6_asks_34 : decode cX6_asks 34 = .ok (.iload 5, 2) := by decide +kernel
theorem dX6_asks_36 : decode cX6_asks 36 = .ok (.aload_n 0, 1) := by decide +kernel
theorem dX6_asks_37 : decode cX6_asks 37 = .ok (.iload_n 2, 1) := by decide +kernel
theorem dX6_asks_38 : decode cX6_asks 38 = .ok (.iload 5, 2) := by decide +kernel
theorem dX6_asks_40 : decode cX6_asks 40 = .ok (.invokevirtual 206, 3) := by decide +kernel
theorem dX6_asks_43 : decode cX6_asks 43 = .ok (.iconst 1, 1) := by decide +kernel
theorem dX6_asks_44 : decode cX6_asks 44 = .ok (.iadd, 1) := by decide +kernel
theorem dX6_asks_45 : decode cX6_asks 45 = .ok (.invokevirtual 45, 3) := by decide +kernel
theorem dX6_asks_48 : decode cX6_asks 48 = .ok (.aload_n 0, 1) := by decide +kernel
theorem dX6_asks_49 : decode cX6_asks 49 = .ok (.getfield 7, 3) := by decide +kernel
theorem dX6_asks_52 : decode cX6_asks 52 = .ok (.iconst 4, 1) := by decide +kernel
theorem dX6_asks_53 : decode cX6_asks 53 = .ok (.dup2, 1) := by decide +kernel
theorem dX6_asks_54 : decode cX6_asks 54 = .ok (.iaload, 1) := by decide +kernel
theorem dX6_asks_55 : decode cX6_asks 55 = .ok (.iconst 1, 1) := by decide +kernel
theorem dX6_asks_56 : decode cX6_asks 56 = .ok (.iadd, 1) := by decide +kernel
theorem dX6_asks_57 : decode cX6_asks 57 = .ok (.iastore, 1) := by decide +kernel
theorem dX6_asks_58 : decode cX6_asks 58 = .ok (.iload 4, 2) := by decide +kernel
theorem dX6_asks_60 : decode cX6_asks 60 = .ok (.ifCond .ne 18, 3) := by decide +kernel
theorem dX6_asks_63 : decode cX6_asks 63 = .ok (.aload_n 0, 1) := by decide +kernel
theorem dX6_asks_64 : decode cX6_asks 64 = .ok (.iload_n 1, 1) := by decide +kernel
theorem dX6_asks_65 : decode cX6_asks 65 = .ok (.iload_n 2, 1) := by decide +kernel
theorem dX6_asks_66 : decode cX6_asks 66 = .ok (.aload_n 0, 1) := by decide +kernel
theorem dX6_asks_67 : decode cX6_asks 67 = .ok (.iload_n 1, 1) := by decide +kernel
theorem dX6_asks_68 : decode cX6_asks 68 = .ok (.iload_n 2, 1) := by decide +kernel
theorem dX6_asks_69 : decode cX6_asks 69 = .ok (.invokevirtual 182, 3) := by decide +kernel
theorem dX6_asks_72 : decode cX6_asks 72 = .ok (.ldc 210, 2) := by decide +kernel
theorem dX6_asks_74 : decode cX6_asks 74 = .ok (.ior, 1) := by decide +kernel
theorem dX6_asks_75 : decode cX6_asks 75 = .ok (.invokevirtual 172, 3) := by decide +kernel
theorem dX6_asks_78 : decode cX6_asks 78 = .ok (.iload 4, 2) := by decide +kernel
theorem dX6_asks_80 : decode cX6_asks 80 = .ok (.ireturn, 1) := by decide +kernel
theorem dX6_rounds_0 : decode cX6_rounds 0 = .ok (.iconst 0, 1) := by decide +kernel
theorem dX6_rounds_1 : decode cX6_rounds 1 = .ok (.istore_n 1, 1) := by decide +kernel
theorem dX6_rounds_2 : decode cX6_rounds 2 = .ok (.iconst 0, 1) := by decide +kernel
theorem dX6_rounds_3 : decode cX6_rounds 3 = .ok (.istore_n 2, 1) := by decide +kernel
theorem dX6_rounds_4 : decode cX6_rounds 4 = .ok (.iload_n 2, 1) := by decide +kernel
theorem dX6_rounds_5 : decode cX6_rounds 5 = .ok (.aload_n 0, 1) := by decide +kernel
theorem dX6_rounds_6 : decode cX6_rounds 6 = .ok (.invokevirtual 169, 3) := by decide +kernel
theorem dX6_rounds_9 : decode cX6_rounds 9 = .ok (.if_icmp .ge 93, 3) := by decide +kernel
theorem dX6_rounds_12 : decode cX6_rounds 12 = .ok (.iconst 0, 1) := by decide +kernel
theorem dX6_rounds_13 : decode cX6_rounds 13 = .ok (.istore_n 3, 1) := by decide +kernel
theorem dX6_rounds_14 : decode cX6_rounds 14 = .ok (.iload_n 3, 1) := by decide +kernel
theorem dX6_rounds_15 : decode cX6_rounds 15 = .ok (.aload_n 0, 1) := by decide +kernel
theorem dX6_rounds_16 : decode cX6_rounds 16 = .ok (.invokevirtual 67, 3) := by decide +kernel
theorem dX6_rounds_19 : decode cX6_rounds 19 = .ok (.if_icmp .ge 77, 3) := by decide +kernel
theorem dX6_rounds_22 : decode cX6_rounds 22 = .ok (.aload_n 0, 1) := by decide +kernel
theorem dX6_rounds_23 : decode cX6_rounds 23 = .ok (.iload_n 2, 1) := by decide +kernel
theorem dX6_rounds_24 : decode cX6_rounds 24 = .ok (.iload_n 3, 1) := by decide +kernel
theorem dX6_rounds_25 : decode cX6_rounds 25 = .ok (.invokevirtual 182, 3) := by decide +kernel
theorem dX6_rounds_28 : decode cX6_rounds 28 = .ok (.invokestatic 211, 3) := by decide +kernel
theorem dX6_rounds_31 : decode cX6_rounds 31 = .ok (.ifCond .ne 6, 3) := by decide +kernel
theorem dX6_rounds_34 : decode cX6_rounds 34 = .ok (.goto 56, 3) := by decide +kernel
theorem dX6_rounds_37 : decode cX6_rounds 37 = .ok (.aload_n 0, 1) := by decide +kernel
theorem dX6_rounds_38 : decode cX6_rounds 38 = .ok (.ldc2_w 264, 3) := by decide +kernel
theorem dX6_rounds_41 : decode cX6_rounds 41 = .ok (.aload_n 0, 1) := by decide +kernel
theorem dX6_rounds_42 : decode cX6_rounds 42 = .ok (.getfield 266, 3) := by decide +kernel
theorem dX6_rounds_45 : decode cX6_rounds 45 = .ok (.lmul, 1) := by decide +kernel
theorem dX6_rounds_46 : decode cX6_rounds 46 = .ok (.ldc2_w 270, 3) := by decide +kernel
theorem dX6_rounds_49 : decode cX6_rounds 49 = .ok (.ladd, 1) := by decide +kernel
theorem dX6_rounds_50 : decode cX6_rounds 50 = .ok (.ldc2_w 272, 3) := by decide +kernel
theorem dX6_rounds_53 : decode cX6_rounds 53 = .ok (.lrem, 1) := by decide +kernel
theorem dX6_rounds_54 : decode cX6_rounds 54 = .ok (.putfield 266, 3) := by decide +kernel
theorem dX6_rounds_57 : decode cX6_rounds 57 = .ok (.iload_n 1, 1) := by decide +kernel
theorem dX6_rounds_58 : decode cX6_rounds 58 = .ok (.aload_n 0, 1) := by decide +kernel
theorem dX6_rounds_59 : decode cX6_rounds 59 = .ok (.iload_n 2, 1) := by decide +kernel
theorem dX6_rounds_60 : decode cX6_rounds 60 = .ok (.iload_n 3, 1) := by decide +kernel
theorem dX6_rounds_61 : decode cX6_rounds 61 = .ok (.aload_n 0, 1) := by decide +kernel
theorem dX6_rounds_62 : decode cX6_rounds 62 = .ok (.getfield 266, 3) := by decide +kernel
theorem dX6_rounds_65 : decode cX6_rounds 65 = .ok (.ldc2_w 274, 3) := by decide +kernel
theorem dX6_rounds_68 : decode cX6_rounds 68 = .ok (.ldiv, 1) := by decide +kernel
theorem dX6_rounds_69 : decode cX6_rounds 69 = .ok (.l2i, 1) := by decide +kernel
theorem dX6_rounds_70 : decode cX6_rounds 70 = .ok (.aload_n 0, 1) := by decide +kernel
theorem dX6_rounds_71 : decode cX6_rounds 71 = .ok (.getfield 7, 3) := by decide +kernel
theorem dX6_rounds_74 : decode cX6_rounds 74 = .ok (.iconst 0, 1) := by decide +kernel
theorem dX6_rounds_75 : decode cX6_rounds 75 = .ok (.iaload, 1) := by decide +kernel
theorem dX6_rounds_76 : decode cX6_rounds 76 = .ok (.irem, 1) := by decide +kernel
theorem dX6_rounds_77 : decode cX6_rounds 77 = .ok (.invokevirtual 276, 3) := by decide +kernel
theorem dX6_rounds_80 : decode cX6_rounds 80 = .ok (.ifCond .eq 7, 3) := by decide +kernel
theorem dX6_rounds_83 : decode cX6_rounds 83 = .ok (.iconst 0, 1) := by decide +kernel
theorem dX6_rounds_84 : decode cX6_rounds 84 = .ok (.goto 4, 3) := by decide +kernel
theorem dX6_rounds_87 : decode cX6_rounds 87 = .ok (.iconst 1, 1) := by decide +kernel
theorem dX6_rounds_88 : decode cX6_rounds 88 = .ok (.iadd, 1) := by decide +kernel
theorem dX6_rounds_89 : decode cX6_rounds 89 = .ok (.istore_n 1, 1) := by decide +kernel
theorem dX6_rounds_90 : decode cX6_rounds 90 = .ok (.iinc 3 1, 3) := by decide +kernel
theorem dX6_rounds_93 : decode cX6_rounds 93 = .ok (.goto (-79), 3) := by decide +kernel
theorem dX6_rounds_96 : decode cX6_rounds 96 = .ok (.iinc 2 1, 3) := by decide +kernel
theorem dX6_rounds_99 : decode cX6_rounds 99 = .ok (.goto (-95), 3) := by decide +kernel
theorem dX6_rounds_102 : decode cX6_rounds 102 = .ok (.iload_n 1, 1) := by decide +kernel
theorem dX6_rounds_103 : decode cX6_rounds 103 = .ok (.ireturn, 1) := by decide +kernel
theorem dX6_chance_0 : decode cX6_chance 0 = .ok (.aload_n 0, 1) := by decide +kernel
theorem dX6_chance_1 : decode cX6_chance 1 = .ok (.iload_n 1, 1) := by decide +kernel
theorem dX6_chance_2 : decode cX6_chance 2 = .ok (.iload_n 2, 1) := by decide +kernel
theorem dX6_chance_3 : decode cX6_chance 3 = .ok (.invokevirtual 260, 3) := by decide +kernel
theorem dX6_chance_6 : decode cX6_chance 6 = .ok (.ifCond .ne 5, 3) := by decide +kernel
theorem dX6_chance_9 : decode cX6_chance 9 = .ok (.dconst 0, 1) := by decide +kernel
theorem dX6_chance_10 : decode cX6_chance 10 = .ok (.dreturn, 1) := by decide +kernel
theorem dX6_chance_11 : decode cX6_chance 11 = .ok (.aload_n 0, 1) := by decide +kernel
theorem dX6_chance_12 : decode cX6_chance 12 = .ok (.aload_n 0, 1) := by decide +kernel
theorem dX6_chance_13 : decode cX6_chance 13 = .ok (.iload_n 1, 1) := by decide +kernel
theorem dX6_chance_14 : decode cX6_chance 14 = .ok (.iload_n 2, 1) := by decide +kernel
theorem dX6_chance_15 : decode cX6_chance 15 = .ok (.invokevirtual 182, 3) := by decide +kernel
theorem dX6_chance_18 : decode cX6_chance 18 = .ok (.invokestatic 211, 3) := by decide +kernel
theorem dX6_chance_21 : decode cX6_chance 21 = .ok (.ifCond .ne 7, 3) := by decide +kernel
theorem dX6_chance_24 : decode cX6_chance 24 = .ok (.iconst 2, 1) := by decide +kernel
theorem dX6_chance_25 : decode cX6_chance 25 = .ok (.goto 22, 3) := by decide +kernel
theorem dX6_chance_28 : decode cX6_chance 28 = .ok (.iload_n 3, 1) := by decide +kernel
theorem dX6_chance_29 : decode cX6_chance 29 = .ok (.iconst 0, 1) := by decide +kernel
theorem dX6_chance_30 : decode cX6_chance 30 = .ok (.aload_n 0, 1) := by decide +kernel
theorem dX6_chance_31 : decode cX6_chance 31 = .ok (.getfield 7, 3) := by decide +kernel
theorem dX6_chance_34 : decode cX6_chance 34 = .ok (.iconst 0, 1) := by decide +kernel
theorem dX6_chance_35 : decode cX6_chance 35 = .ok (.iaload, 1) := by decide +kernel
theorem dX6_chance_36 : decode cX6_chance 36 = .ok (.invokestatic 59, 3) := by decide +kernel
theorem dX6_chance_39 : decode cX6_chance 39 = .ok (.ifCond .eq 7, 3) := by decide +kernel
theorem dX6_chance_42 : decode cX6_chance 42 = .ok (.iconst 0, 1) := by decide +kernel
theorem dX6_chance_43 : decode cX6_chance 43 = .ok (.goto 4, 3) := by decide +kernel
theorem dX6_chance_46 : decode cX6_chance 46 = .ok (.iconst 3, 1) := by decide +kernel
theorem dX6_chance_47 : decode cX6_chance 47 = .ok (.putfield 49, 3) := by decide +kernel
theorem dX6_chance_50 : decode cX6_chance 50 = .ok (.aload_n 0, 1) := by decide +kernel
theorem dX6_chance_51 : decode cX6_chance 51 = .ok (.getfield 49, 3) := by decide +kernel
theorem dX6_chance_54 : decode cX6_chance 54 = .ok (.ifCond .le 5, 3) := by decide +kernel
theorem dX6_chance_57 : decode cX6_chance 57 = .ok (.dconst 0, 1) := by decide +kernel
theorem dX6_chance_58 : decode cX6_chance 58 = .ok (.dreturn, 1) := by decide +kernel
theorem dX6_chance_59 : decode cX6_chance 59 = .ok (.aload_n 0, 1) := by decide +kernel
theorem dX6_chance_60 : decode cX6_chance 60 = .ok (.getfield 7, 3) := by decide +kernel
theorem dX6_chance_63 : decode cX6_chance 63 = .ok (.iconst 0, 1) := by decide +kernel
theorem dX6_chance_64 : decode cX6_chance 64 = .ok (.iaload, 1) := by decide +kernel
theorem dX6_chance_65 : decode cX6_chance 65 = .ok (.istore 4, 2) := by decide +kernel
theorem dX6_chance_67 : decode cX6_chance 67 = .ok (.aload_n 0, 1) := by decide +kernel
theorem dX6_chance_68 : decode cX6_chance 68 = .ok (.iload_n 1, 1) := by decide +kernel
theorem dX6_chance_69 : decode cX6_chance 69 = .ok (.iload_n 2, 1) := by decide +kernel
theorem dX6_chance_70 : decode cX6_chance 70 = .ok (.invokevirtual 182, 3) := by decide +kernel
theorem dX6_chance_73 : decode cX6_chance 73 = .ok (.ldc_w 263, 3) := by decide +kernel
theorem dX6_chance_76 : decode cX6_chance 76 = .ok (.iand, 1) := by decide +kernel
theorem dX6_chance_77 : decode cX6_chance 77 = .ok (.invokestatic 229, 3) := by decide +kernel
theorem dX6_chance_80 : decode cX6_chance 80 = .ok (.istore 5, 2) := by decide +kernel
theorem dX6_chance_82 : decode cX6_chance 82 = .ok (.dconst 1, 1) := by decide +kernel
theorem dX6_chance_83 : decode cX6_chance 83 = .ok (.dstore 6, 2) := by decide +kernel
theorem dX6_chance_85 : decode cX6_chance 85 = .ok (.iconst 0, 1) := by decide +kernel
theorem dX6_chance_86 : decode cX6_chance 86 = .ok (.istore 8, 2) := by decide +kernel
theorem dX6_chance_88 : decode cX6_chance 88 = .ok (.iload 8, 2) := by decide +kernel
theorem dX6_chance_90 : decode cX6_chance 90 = .ok (.iload_n 3, 1) := by decide +kernel
theorem dX6_chance_91 : decode cX6_chance 91 = .ok (.if_icmp .ge 52, 3) := by decide +kernel
theorem dX6_chance_94 : decode cX6_chance 94 = .ok (.dload 6, 2) := by decide +kernel
theorem dX6_chance_96 : decode cX6_chance 96 = .ok (.dconst 0, 1) := by decide +kernel
theorem dX6_chance_97 : decode cX6_chance 97 = .ok (.dcmp .l, 1) := by decide +kernel
theorem dX6_chance_98 : decode cX6_chance 98 = .ok (.ifCond .le 45, 3) := by decide +kernel
theorem dX6_chance_101 : decode cX6_chance 101 = .ok (.iload 4, 2) := by decide +kernel
theorem dX6_chance_103 : decode cX6_chance 103 = .ok (.iload 5, 2) := by decide +kernel
theorem dX6_chance_105 : decode cX6_chance 105 = .ok (.isub, 1) := by decide +kernel
theorem dX6_chance_106 : decode cX6_chance 106 = .ok (.iload 8, 2) := by decide +kernel
theorem dX6_chance_108 : decode cX6_chance 108 = .ok (.isub, 1) := by decide +kernel
theorem dX6_chance_109 : decode cX6_chance 109 = .ok (.ifCond .ne 7, 3) := by decide +kernel
theorem dX6_chance_112 : decode cX6_chance 112 = .ok (.dconst 0, 1) := by decide +kernel
theorem dX6_chance_113 : decode cX6_chance 113 = .ok (.goto 22, 3) := by decide +kernel
theorem dX6_chance_116 : decode cX6_chance 116 = .ok (.dload 6, 2) := by decide +kernel
theorem dX6_chance_118 : decode cX6_chance 118 = .ok (.iload 4, 2) := by decide +kernel
theorem dX6_chance_120 : decode cX6_chance 120 = .ok (.iload 5, 2) := by decide +kernel
theorem dX6_chance_122 : decode cX6_chance 122 = .ok (.isub, 1) := by decide +kernel
theorem dX6_chance_123 : decode cX6_chance 123 = .ok (.iload 8, 2) := by decide +kernel
theorem dX6_chance_125 : decode cX6_chance 125 = .ok (.isub, 1) := by decide +kernel
theorem dX6_chance_126 : decode cX6_chance 126 = .ok (.i2d, 1) := by decide +kernel
theorem dX6_chance_127 : decode cX6_chance 127 = .ok (.iload 4, 2) := by decide +kernel
theorem dX6_chance_129 : decode cX6_chance 129 = .ok (.iload 8, 2) := by decide +kernel
theorem dX6_chance_131 : decode cX6_chance 131 = .ok (.isub, 1) := by decide +kernel
theorem dX6_chance_132 : decode cX6_chance 132 = .ok (.i2d, 1) := by decide +kernel
theorem dX6_chance_133 : decode cX6_chance 133 = .ok (.ddiv, 1) := by decide +kernel
theorem dX6_chance_134 : decode cX6_chance 134 = .ok (.dmul, 1) := by decide +kernel
theorem dX6_chance_135 : decode cX6_chance 135 = .ok (.dstore 6, 2) := by decide +kernel
theorem dX6_chance_137 : decode cX6_chance 137 = .ok (.iinc 8 1, 3) := by decide +kernel
theorem dX6_chance_140 : decode cX6_chance 140 = .ok (.goto (-52), 3) := by decide +kernel
theorem dX6_chance_143 : decode cX6_chance 143 = .ok (.dconst 1, 1) := by decide +kernel
theorem dX6_chance_144 : decode cX6_chance 144 = .ok (.dload 6, 2) := by decide +kernel
theorem dX6_chance_146 : decode cX6_chance 146 = .ok (.dsub, 1) := by decide +kernel
theorem dX6_chance_147 : decode cX6_chance 147 = .ok (.dreturn, 1) := by decide +kernel
theorem dX6_bestTile_0 : decode cX6_bestTile 0 = .ok (.aload_n 0, 1) := by decide +kernel
theorem dX6_bestTile_1 : decode cX6_bestTile 1 = .ok (.aload_n 0, 1) := by decide +kernel
theorem dX6_bestTile_2 : decode cX6_bestTile 2 = .ok (.iload_n 1, 1) := by decide +kernel
theorem dX6_bestTile_3 : decode cX6_bestTile 3 = .ok (.invokevirtual 257, 3) := by decide +kernel
theorem dX6_bestTile_6 : decode cX6_bestTile 6 = .ok (.ifCond .eq 7, 3) := by decide +kernel
theorem dX6_bestTile_9 : decode cX6_bestTile 9 = .ok (.iconst 0, 1) := by decide +kernel
theorem dX6_bestTile_10 : decode cX6_bestTile 10 = .ok (.goto 4, 3) := by decide +kernel
theorem dX6_bestTile_13 : decode cX6_bestTile 13 = .ok (.iconst 1, 1) := by decide +kernel
theorem dX6_bestTile_14 : decode cX6_bestTile 14 = .ok (.putfield 49, 3) := by decide +kernel
theorem dX6_bestTile_17 : decode cX6_bestTile 17 = .ok (.aload_n 0, 1) := by decide +kernel
theorem dX6_bestTile_18 : decode cX6_bestTile 18 = .ok (.getfield 49, 3) := by decide +kernel
theorem dX6_bestTile_21 : decode cX6_bestTile 21 = .ok (.ifCond .le 5, 3) := by decide +kernel
theorem dX6_bestTile_24 : decode cX6_bestTile 24 = .ok (.iconst 0, 1) := by decide +kernel
theorem dX6_bestTile_25 : decode cX6_bestTile 25 = .ok (.ireturn, 1) := by decide +kernel
theorem dX6_bestTile_26 : decode cX6_bestTile 26 = .ok (.iconst (-1), 1) := by decide +kernel
theorem dX6_bestTile_27 : decode cX6_bestTile 27 = .ok (.istore_n 2, 1) := by decide +kernel
theorem dX6_bestTile_28 : decode cX6_bestTile 28 = .ok (.iconst 0, 1) := by decide +kernel
theorem dX6_bestTile_29 : decode cX6_bestTile 29 = .ok (.istore_n 3, 1) := by decide +kernel
theorem dX6_bestTile_30 : decode cX6_bestTile 30 = .ok (.iconst 0, 1) := by decide +kernel
theorem dX6_bestTile_31 : decode cX6_bestTile 31 = .ok (.istore 4, 2) := by decide +kernel
theorem dX6_bestTile_33 : decode cX6_bestTile 33 = .ok (.iload 4, 2) := by decide +kernel
theorem dX6_bestTile_35 : decode cX6_bestTile 35 = .ok (.aload_n 0, 1) := by decide +kernel
theorem dX6_bestTile_36 : decode cX6_bestTile 36 = .ok (.getfield 7, 3) := by decide +kernel
theorem dX6_bestTile_39 : decode cX6_bestTile 39 = .ok (.iconst 0, 1) := by decide +kernel
theorem dX6_bestTile_40 : decode cX6_bestTile 40 = .ok (.iaload, 1) := by decide +kernel
theorem dX6_bestTile_41 : decode cX6_bestTile 41 = .ok (.if_icmp .ge 79, 3) := by decide +kernel
theorem dX6_bestTile_44 : decode cX6_bestTile 44 = .ok (.iconst 0, 1) := by decide +kernel
theorem dX6_bestTile_45 : decode cX6_bestTile 45 = .ok (.istore 5, 2) := by decide +kernel
theorem dX6_bestTile_47 : decode cX6_bestTile 47 = .ok (.iconst 0, 1) := by decide +kernel
theorem dX6_bestTile_48 : decode cX6_bestTile 48 = .ok (.istore 6, 2) := by decide +kernel
theorem dX6_bestTile_50 : decode cX6_bestTile 50 = .ok (.iload 6, 2) := by decide +kernel
theorem dX6_bestTile_52 : decode cX6_bestTile 52 = .ok (.aload_n 0, 1) := by decide +kernel
theorem dX6_bestTile_53 : decode cX6_bestTile 53 = .ok (.invokevirtual 67, 3) := by decide +kernel
theorem dX6_bestTile_56 : decode cX6_bestTile 56 = .ok (.if_icmp .ge 43, 3) := by decide +kernel
theorem dX6_bestTile_59 : decode cX6_bestTile 59 = .ok (.iload 5, 2) := by decide +kernel
theorem dX6_bestTile_61 : decode cX6_bestTile 61 = .ok (.aload_n 0, 1) := by decide +kernel
theorem dX6_bestTile_62 : decode cX6_bestTile 62 = .ok (.iload_n 1, 1) := by decide +kernel
theorem dX6_bestTile_63 : decode cX6_bestTile 63 = .ok (.iload 6, 2) := by decide +kernel
theorem dX6_bestTile_65 : decode cX6_bestTile 65 = .ok (.invokevirtual 182, 3) := by decide +kernel
theorem dX6_bestTile_68 : decode cX6_bestTile 68 = .ok (.invokestatic 211, 3) := by decide +kernel
theorem dX6_bestTile_71 : decode cX6_bestTile 71 = .ok (.ifCond .eq 18, 3) := by decide +kernel
theorem dX6_bestTile_74 : decode cX6_bestTile 74 = .ok (.aload_n 0, 1) := by decide +kernel
theorem dX6_bestTile_75 : decode cX6_bestTile 75 = .ok (.iload_n 1, 1) := by decide +kernel
theorem dX6_bestTile_76 : decode cX6_bestTile 76 = .ok (.iload 6, 2) := by decide +kernel
theorem dX6_bestTile_78 : decode cX6_bestTile 78 = .ok (.invokevirtual 182, 3) := by decide +kernel
theorem dX6_bestTile_81 : decode cX6_bestTile 81 = .ok (.iload 4, 2) := by decide +kernel
theorem dX6_bestTile_83 : decode cX6_bestTile 83 = .ok (.ishr, 1) := by decide +kernel
theorem dX6_bestTile_84 : decode cX6_bestTile 84 = .ok (.iconst 1, 1) := by decide +kernel
theorem dX6_bestTile_85 : decode cX6_bestTile 85 = .ok (.iand, 1) := by decide +kernel
theorem dX6_bestTile_86 : decode cX6_bestTile 86 = .ok (.goto 4, 3) := by decide +kernel
theorem dX6_bestTile_89 : decode cX6_bestTile 89 = .ok (.iconst 0, 1) := by decide +kernel
theorem dX6_bestTile_90 : decode cX6_bestTile 90 = .ok (.iadd, 1) := by decide +kernel
theorem dX6_bestTile_91 : decode cX6_bestTile 91 = .ok (.istore 5, 2) := by decide +kernel
theorem dX6_bestTile_93 : decode cX6_bestTile 93 = .ok (.iinc 6 1, 3) := by decide +kernel
theorem dX6_bestTile_96 : decode cX6_bestTile 96 = .ok (.goto (-46), 3) := by decide +kernel
theorem dX6_bestTile_99 : decode cX6_bestTile 99 = .ok (.iload 5, 2) := by decide +kernel
theorem dX6_bestTile_101 : decode cX6_bestTile 101 = .ok (.iload_n 3, 1) := by decide +kernel
theorem dX6_bestTile_102 : decode cX6_bestTile 102 = .ok (.if_icmp .gt 6, 3) := by decide +kernel
theorem dX6_bestTile_105 : decode cX6_bestTile 105 = .ok (.goto 9, 3) := by decide +kernel
theorem dX6_bestTile_108 : decode cX6_bestTile 108 = .ok (.iload 5, 2) := by decide +kernel
theorem dX6_bestTile_110 : decode cX6_bestTile 110 = .ok (.istore_n 3, 1) := by decide +kernel
theorem dX6_bestTile_111 : decode cX6_bestTile 111 = .ok (.iload 4, 2) := by decide +kernel
theorem dX6_bestTile_113 : decode cX6_bestTile 113 = .ok (.istore_n 2, 1) := by decide +kernel
theorem dX6_bestTile_114 : decode cX6_bestTile 114 = .ok (.iinc 4 1, 3) := by decide +kernel
theorem dX6_bestTile_117 : decode cX6_bestTile 117 = .ok (.goto (-84), 3) := by decide +kernel
theorem dX6_bestTile_120 : decode cX6_bestTile 120 = .ok (.iload_n 2, 1) := by decide +kernel
theorem dX6_bestTile_121 : decode cX6_bestTile 121 = .ok (.ireturn, 1) := by decide +kernel
theorem dX6_roundsToFind_0 : decode cX6_roundsToFind 0 = .ok (.aload_n 0, 1) := by decide +kernel
theorem dX6_roundsToFind_1 : decode cX6_roundsToFind 1 = .ok (.iload_n 1, 1) := by decide +kernel
theorem dX6_roundsToFind_2 : decode cX6_roundsToFind 2 = .ok (.ifCond .ge 7, 3) := by decide +kernel
theorem dX6_roundsToFind_5 : decode cX6_roundsToFind 5 = .ok (.iconst 1, 1) := by decide +kernel
theorem dX6_roundsToFind_6 : decode cX6_roundsToFind 6 = .ok (.goto 4, 3) := by decide +kernel
theorem dX6_roundsToFind_9 : decode cX6_roundsToFind 9 = .ok (.iconst 0, 1) := by decide +kernel
theorem dX6_roundsToFind_10 : decode cX6_roundsToFind 10 = .ok (.putfield 49, 3) := by decide +kernel
theorem dX6_roundsToFind_13 : decode cX6_roundsToFind 13 = .ok (.aload_n 0, 1) := by decide +kernel
theorem dX6_roundsToFind_14 : decode cX6_roundsToFind 14 = .ok (.getfield 49, 3) := by decide +kernel
theorem dX6_roundsToFind_17 : decode cX6_roundsToFind 17 = .ok (.ifCond .le 5, 3) := by decide +kernel
theorem dX6_roundsToFind_20 : decode cX6_roundsToFind 20 = .ok (.iconst 0, 1) := by decide +kernel
theorem dX6_roundsToFind_21 : decode cX6_roundsToFind 21 = .ok (.ireturn, 1) := by decide +kernel
theorem dX6_roundsToFind_22 : decode cX6_roundsToFind 22 = .ok (.aload_n 0, 1) := by decide +kernel
theorem dX6_roundsToFind_23 : decode cX6_roundsToFind 23 = .ok (.getfield 16, 3) := by decide +kernel
theorem dX6_roundsToFind_26 : decode cX6_roundsToFind 26 = .ok (.iconst 0, 1) := by decide +kernel
theorem dX6_roundsToFind_27 : decode cX6_roundsToFind 27 = .ok (.aload_n 0, 1) := by decide +kernel
theorem dX6_roundsToFind_28 : decode cX6_roundsToFind 28 = .ok (.getfield 7, 3) := by decide +kernel
theorem dX6_roundsToFind_31 : decode cX6_roundsToFind 31 = .ok (.iconst 0, 1) := by decide +kernel
theorem dX6_roundsToFind_32 : decode cX6_roundsToFind 32 = .ok (.invokestatic 55, 3) := by decide +kernel
theorem dX6_roundsToFind_35 : decode cX6_roundsToFind 35 = .ok (.aload_n 0, 1) := by decide +kernel
theorem dX6_roundsToFind_36 : decode cX6_roundsToFind 36 = .ok (.iload_n 1, 1) := by decide +kernel
theorem dX6_roundsToFind_37 : decode cX6_roundsToFind 37 = .ok (.i2l, 1) := by decide +kernel
theorem dX6_roundsToFind_38 : decode cX6_roundsToFind 38 = .ok (.putfield 266, 3) := by decide +kernel
theorem dX6_roundsToFind_41 : decode cX6_roundsToFind 41 = .ok (.iconst 0, 1) := by decide +kernel
theorem dX6_roundsToFind_42 : decode cX6_roundsToFind 42 = .ok (.istore_n 2, 1) := by decide +kernel
theorem dX6_roundsToFind_43 : decode cX6_roundsToFind 43 = .ok (.iload_n 2, 1) := by decide +kernel
theorem dX6_roundsToFind_44 : decode cX6_roundsToFind 44 = .ok (.bipush 60, 2) := by decide +kernel
theorem dX6_roundsToFind_46 : decode cX6_roundsToFind 46 = .ok (.if_icmp .ge 30, 3) := by decide +kernel
theorem dX6_roundsToFind_49 : decode cX6_roundsToFind 49 = .ok (.aload_n 0, 1) := by decide +kernel
theorem dX6_roundsToFind_50 : decode cX6_roundsToFind 50 = .ok (.iconst 1, 1) := by decide +kernel
theorem dX6_roundsToFind_51 : decode cX6_roundsToFind 51 = .ok (.invokevirtual 241, 3) := by decide +kernel
theorem dX6_roundsToFind_54 : decode cX6_roundsToFind 54 = .ok (.aload_n 0, 1) := by decide +kernel
theorem dX6_roundsToFind_55 : decode cX6_roundsToFind 55 = .ok (.iconst 3, 1) := by decide +kernel
theorem dX6_roundsToFind_56 : decode cX6_roundsToFind 56 = .ok (.invokevirtual 241, 3) := by decide +kernel
theorem dX6_roundsToFind_59 : decode cX6_roundsToFind 59 = .ok (.if_icmp .le 17, 3) := by decide +kernel
theorem dX6_roundsToFind_62 : decode cX6_roundsToFind 62 = .ok (.aload_n 0, 1) := by decide +kernel
theorem dX6_roundsToFind_63 : decode cX6_roundsToFind 63 = .ok (.aload_n 0, 1) := by decide +kernel
theorem dX6_roundsToFind_64 : decode cX6_roundsToFind 64 = .ok (.invokevirtual 279, 3) := by decide +kernel
theorem dX6_roundsToFind_67 : decode cX6_roundsToFind 67 = .ok (.putfield 282, 3) := by decide +kernel
theorem dX6_roundsToFind_70 : decode cX6_roundsToFind 70 = .ok (.iinc 2 1, 3) := by decide +kernel
theorem dX6_roundsToFind_73 : decode cX6_roundsToFind 73 = .ok (.goto (-30), 3) := by decide +kernel
theorem dX6_roundsToFind_76 : decode cX6_roundsToFind 76 = .ok (.aload_n 0, 1) := by decide +kernel
theorem dX6_roundsToFind_77 : decode cX6_roundsToFind 77 = .ok (.iconst 1, 1) := by decide +kernel
theorem dX6_roundsToFind_78 : decode cX6_roundsToFind 78 = .ok (.invokevirtual 241, 3) := by decide +kernel
theorem dX6_roundsToFind_81 : decode cX6_roundsToFind 81 = .ok (.aload_n 0, 1) := by decide +kernel
theorem dX6_roundsToFind_82 : decode cX6_roundsToFind 82 = .ok (.iconst 3, 1) := by decide +kernel
theorem dX6_roundsToFind_83 : decode cX6_roundsToFind 83 = .ok (.invokevirtual 241, 3) := by decide +kernel
theorem dX6_roundsToFind_86 : decode cX6_roundsToFind 86 = .ok (.if_icmp .ne 7, 3) := by decide +kernel
theorem dX6_roundsToFind_89 : decode cX6_roundsToFind 89 = .ok (.iconst 1, 1) := by decide +kernel
theorem dX6_roundsToFind_90 : decode cX6_roundsToFind 90 = .ok (.goto 4, 3) := by decide +kernel
theorem dX6_roundsToFind_93 : decode cX6_roundsToFind 93 = .ok (.iconst 0, 1) := by decide +kernel
theorem dX6_roundsToFind_94 : decode cX6_roundsToFind 94 = .ok (.istore_n 3, 1) := by decide +kernel
theorem dX6_roundsToFind_95 : decode cX6_roundsToFind 95 = .ok (.aload_n 0, 1) := by decide +kernel
theorem dX6_roundsToFind_96 : decode cX6_roundsToFind 96 = .ok (.getfield 7, 3) := by decide +kernel
theorem dX6_roundsToFind_99 : decode cX6_roundsToFind 99 = .ok (.iconst 0, 1) := by decide +kernel
theorem dX6_roundsToFind_100 : decode cX6_roundsToFind 100 = .ok (.aload_n 0, 1) := by decide +kernel
theorem dX6_roundsToFind_101 : decode cX6_roundsToFind 101 = .ok (.getfield 16, 3) := by decide +kernel
theorem dX6_roundsToFind_104 : decode cX6_roundsToFind 104 = .ok (.iconst 0, 1) := by decide +kernel
theorem dX6_roundsToFind_105 : decode cX6_roundsToFind 105 = .ok (.invokestatic 55, 3) := by decide +kernel
theorem dX6_roundsToFind_108 : decode cX6_roundsToFind 108 = .ok (.iload_n 3, 1) := by decide +kernel
theorem dX6_roundsToFind_109 : decode cX6_roundsToFind 109 = .ok (.ifCond .eq 7, 3) := by decide +kernel
theorem dX6_roundsToFind_112 : decode cX6_roundsToFind 112 = .ok (.iload_n 2, 1) := by decide +kernel
theorem dX6_roundsToFind_113 : decode cX6_roundsToFind 113 = .ok (.goto 4, 3) := by decide +kernel
theorem dX6_roundsToFind_116 : decode cX6_roundsToFind 116 = .ok (.iconst (-1), 1) := by decide +kernel
theorem dX6_roundsToFind_117 : decode cX6_roundsToFind 117 = .ok (.ireturn, 1) := by decide +kernel
theorem dX6_leastTrusted_0 : decode cX6_leastTrusted 0 = .ok (.aload_n 0, 1) := by decide +kernel
theorem dX6_leastTrusted_1 : decode cX6_leastTrusted 1 = .ok (.iconst 0, 1) := by decide +kernel
theorem dX6_leastTrusted_2 : decode cX6_leastTrusted 2 = .ok (.putfield 49, 3) := by decide +kernel
theorem dX6_leastTrusted_5 : decode cX6_leastTrusted 5 = .ok (.iconst 0, 1) := by decide +kernel
theorem dX6_leastTrusted_6 : decode cX6_leastTrusted 6 = .ok (.istore_n 1, 1) := by decide +kernel
theorem dX6_leastTrusted_7 : decode cX6_leastTrusted 7 = .ok (.iconst 1, 1) := by decide +kernel
theorem dX6_leastTrusted_8 : decode cX6_leastTrusted 8 = .ok (.istore_n 2, 1) := by decide +kernel
theorem dX6_leastTrusted_9 : decode cX6_leastTrusted 9 = .ok (.iload_n 2, 1) := by decide +kernel
theorem dX6_leastTrusted_10 : decode cX6_leastTrusted 10 = .ok (.aload_n 0, 1) := by decide +kernel
theorem dX6_leastTrusted_11 : decode cX6_leastTrusted 11 = .ok (.invokevirtual 67, 3) := by decide +kernel
theorem dX6_leastTrusted_14 : decode cX6_leastTrusted 14 = .ok (.if_icmp .ge 24, 3) := by decide +kernel
theorem dX6_leastTrusted_17 : decode cX6_leastTrusted 17 = .ok (.aload_n 0, 1) := by decide +kernel
theorem dX6_leastTrusted_18 : decode cX6_leastTrusted 18 = .ok (.iload_n 2, 1) := by decide +kernel
theorem dX6_leastTrusted_19 : decode cX6_leastTrusted 19 = .ok (.invokevirtual 254, 3) := by decide +kernel
theorem dX6_leastTrusted_22 : decode cX6_leastTrusted 22 = .ok (.aload_n 0, 1) := by decide +kernel
theorem dX6_leastTrusted_23 : decode cX6_leastTrusted 23 = .ok (.iload_n 1, 1) := by decide +kernel
theorem dX6_leastTrusted_24 : decode cX6_leastTrusted 24 = .ok (.invokevirtual 254, 3) := by decide +kernel
theorem dX6_leastTrusted_27 : decode cX6_leastTrusted 27 = .ok (.if_icmp .ge 5, 3) := by decide +kernel
theorem dX6_leastTrusted_30 : decode cX6_leastTrusted 30 = .ok (.iload_n 2, 1) := by decide +kernel
theorem dX6_leastTrusted_31 : decode cX6_leastTrusted 31 = .ok (.istore_n 1, 1) := by decide +kernel
theorem dX6_leastTrusted_32 : decode cX6_leastTrusted 32 = .ok (.iinc 2 1, 3) := by decide +kernel
theorem dX6_leastTrusted_35 : decode cX6_leastTrusted 35 = .ok (.goto (-26), 3) := by decide +kernel
theorem dX6_leastTrusted_38 : decode cX6_leastTrusted 38 = .ok (.iload_n 1, 1) := by decide +kernel
theorem dX6_leastTrusted_39 : decode cX6_leastTrusted 39 = .ok (.ireturn, 1) := by decide +kernel
theorem dX6_sourcesOf_0 : decode cX6_sourcesOf 0 = .ok (.aload_n 0, 1) := by decide +kernel
theorem dX6_sourcesOf_1 : decode cX6_sourcesOf 1 = .ok (.iload_n 2, 1) := by decide +kernel
theorem dX6_sourcesOf_2 : decode cX6_sourcesOf 2 = .ok (.iconst 3, 1) := by decide +kernel
theorem dX6_sourcesOf_3 : decode cX6_sourcesOf 3 = .ok (.invokevirtual 206, 3) := by decide +kernel
theorem dX6_sourcesOf_6 : decode cX6_sourcesOf 6 = .ok (.aload_n 0, 1) := by decide +kernel
theorem dX6_sourcesOf_7 : decode cX6_sourcesOf 7 = .ok (.iload_n 1, 1) := by decide +kernel
theorem dX6_sourcesOf_8 : decode cX6_sourcesOf 8 = .ok (.iconst 1, 1) := by decide +kernel
theorem dX6_sourcesOf_9 : decode cX6_sourcesOf 9 = .ok (.invokevirtual 226, 3) := by decide +kernel
theorem dX6_sourcesOf_12 : decode cX6_sourcesOf 12 = .ok (.iand, 1) := by decide +kernel
theorem dX6_sourcesOf_13 : decode cX6_sourcesOf 13 = .ok (.ireturn, 1) := by decide +kernel
theorem dX6_gets_0 : decode cX6_gets 0 = .ok (.aload_n 0, 1) := by decide +kernel
theorem dX6_gets_1 : decode cX6_gets 1 = .ok (.iload_n 1, 1) := by decide +kernel
theorem dX6_gets_2 : decode cX6_gets 2 = .ok (.iload_n 2, 1) := by decide +kernel
theorem dX6_gets_3 : decode cX6_gets 3 = .ok (.invokevirtual 285, 3) := by decide +kernel
theorem dX6_gets_6 : decode cX6_gets 6 = .ok (.istore_n 3, 1) := by decide +kernel
theorem dX6_gets_7 : decode cX6_gets 7 = .ok (.ldc_w 263, 3) := by decide +kernel
theorem dX6_gets_10 : decode cX6_gets 10 = .ok (.istore 4, 2) := by decide +kernel
theorem dX6_gets_12 : decode cX6_gets 12 = .ok (.iconst 0, 1) := by decide +kernel
theorem dX6_gets_13 : decode cX6_gets 13 = .ok (.istore 5, 2) := by decide +kernel
theorem dX6_gets_15 : decode cX6_gets 15 = .ok (.iload 5, 2) := by decide +kernel
theorem dX6_gets_17 : decode cX6_gets 17 = .ok (.aload_n 0, 1) := by decide +kernel
theorem dX6_gets_18 : decode cX6_gets 18 = .ok (.invokevirtual 67, 3) := by decide +kernel
theorem dX6_gets_21 : decode cX6_gets 21 = .ok (.if_icmp .ge 31, 3) := by decide +kernel
theorem dX6_gets_24 : decode cX6_gets 24 = .ok (.iload_n 3, 1) := by decide +kernel
theorem dX6_gets_25 : decode cX6_gets 25 = .ok (.iload 5, 2) := by decide +kernel
theorem dX6_gets_27 : decode cX6_gets 27 = .ok (.ishr, 1) := by decide +kernel
theorem dX6_gets_28 : decode cX6_gets 28 = .ok (.iconst 1, 1) := by decide +kernel
theorem dX6_gets_29 : decode cX6_gets 29 = .ok (.iand, 1) := by decide +kernel
theorem dX6_gets_30 : decode cX6_gets 30 = .ok (.iconst 1, 1) := by decide +kernel
theorem dX6_gets_31 : decode cX6_gets 31 = .ok (.if_icmp .ne 15, 3) := by decide +kernel
theorem dX6_gets_34 : decode cX6_gets 34 = .ok (.iload 4, 2) := by decide +kernel
theorem dX6_gets_36 : decode cX6_gets 36 = .ok (.aload_n 0, 1) := by decide +kernel
theorem dX6_gets_37 : decode cX6_gets 37 = .ok (.iload_n 1, 1) := by decide +kernel
theorem dX6_gets_38 : decode cX6_gets 38 = .ok (.iload 5, 2) := by decide +kernel
theorem dX6_gets_40 : decode cX6_gets 40 = .ok (.invokevirtual 182, 3) := by decide +kernel
theorem dX6_gets_43 : decode cX6_gets 43 = .ok (.iand, 1) := by decide +kernel
theorem dX6_gets_44 : decode cX6_gets 44 = .ok (.istore 4, 2) := by decide +kernel
theorem dX6_gets_46 : decode cX6_gets 46 = .ok (.iinc 5 1, 3) := by decide +kernel
theorem dX6_gets_49 : decode cX6_gets 49 = .ok (.goto (-34), 3) := by decide +kernel
theorem dX6_gets_52 : decode cX6_gets 52 = .ok (.ldc 188, 2) := by decide +kernel
theorem dX6_gets_54 : decode cX6_gets 54 = .ok (.iload 4, 2) := by decide +kernel
theorem dX6_gets_56 : decode cX6_gets 56 = .ok (.ldc_w 263, 3) := by decide +kernel
theorem dX6_gets_59 : decode cX6_gets 59 = .ok (.iand, 1) := by decide +kernel
theorem dX6_gets_60 : decode cX6_gets 60 = .ok (.ior, 1) := by decide +kernel
theorem dX6_gets_61 : decode cX6_gets 61 = .ok (.ireturn, 1) := by decide +kernel
theorem dX6_canRepair_0 : decode cX6_canRepair 0 = .ok (.aload_n 0, 1) := by decide +kernel
theorem dX6_canRepair_1 : decode cX6_canRepair 1 = .ok (.iload_n 1, 1) := by decide +kernel
theorem dX6_canRepair_2 : decode cX6_canRepair 2 = .ok (.iload_n 2, 1) := by decide +kernel
theorem dX6_canRepair_3 : decode cX6_canRepair 3 = .ok (.invokevirtual 182, 3) := by decide +kernel
theorem dX6_canRepair_6 : decode cX6_canRepair 6 = .ok (.invokestatic 214, 3) := by decide +kernel
theorem dX6_canRepair_9 : decode cX6_canRepair 9 = .ok (.ifCond .eq 16, 3) := by decide +kernel
theorem dX6_canRepair_12 : decode cX6_canRepair 12 = .ok (.aload_n 0, 1) := by decide +kernel
theorem dX6_canRepair_13 : decode cX6_canRepair 13 = .ok (.iload_n 1, 1) := by decide +kernel
theorem dX6_canRepair_14 : decode cX6_canRepair 14 = .ok (.iload_n 2, 1) := by decide +kernel
theorem dX6_canRepair_15 : decode cX6_canRepair 15 = .ok (.invokevirtual 285, 3) := by decide +kernel
theorem dX6_canRepair_18 : decode cX6_canRepair 18 = .ok (.ifCond .eq 7, 3) := by decide +kernel
theorem dX6_canRepair_21 : decode cX6_canRepair 21 = .ok (.iconst 1, 1) := by decide +kernel
theorem dX6_canRepair_22 : decode cX6_canRepair 22 = .ok (.goto 4, 3) := by decide +kernel
theorem dX6_canRepair_25 : decode cX6_canRepair 25 = .ok (.iconst 0, 1) := by decide +kernel
theorem dX6_canRepair_26 : decode cX6_canRepair 26 = .ok (.ireturn, 1) := by decide +kernel
theorem dX6_waves1_0 : decode cX6_waves1 0 = .ok (.iconst 0, 1) := by decide +kernel
theorem dX6_waves1_1 : decode cX6_waves1 1 = .ok (.istore_n 1, 1) := by decide +kernel
theorem dX6_waves1_2 : decode cX6_waves1 2 = .ok (.iconst 0, 1) := by decide +kernel
theorem dX6_waves1_3 : decode cX6_waves1 3 = .ok (.istore_n 2, 1) := by decide +kernel
theorem dX6_waves1_4 : decode cX6_waves1 4 = .ok (.iload_n 2, 1) := by decide +kernel
theorem dX6_waves1_5 : decode cX6_waves1 5 = .ok (.aload_n 0, 1) := by decide +kernel
theorem dX6_waves1_6 : decode cX6_waves1 6 = .ok (.invokevirtual 169, 3) := by decide +kernel
theorem dX6_waves1_9 : decode cX6_waves1 9 = .ok (.if_icmp .ge 55, 3) := by decide +kernel
theorem dX6_waves1_12 : decode cX6_waves1 12 = .ok (.iconst 0, 1) := by decide +kernel
theorem dX6_waves1_13 : decode cX6_waves1 13 = .ok (.istore_n 3, 1) := by decide +kernel
theorem dX6_waves1_14 : decode cX6_waves1 14 = .ok (.iload_n 3, 1) := by decide +kernel
theorem dX6_waves1_15 : decode cX6_waves1 15 = .ok (.aload_n 0, 1) := by decide +kernel
theorem dX6_waves1_16 : decode cX6_waves1 16 = .ok (.invokevirtual 67, 3) := by decide +kernel
theorem dX6_waves1_19 : decode cX6_waves1 19 = .ok (.if_icmp .ge 39, 3) := by decide +kernel
theorem dX6_waves1_22 : decode cX6_waves1 22 = .ok (.aload_n 0, 1) := by decide +kernel
theorem dX6_waves1_23 : decode cX6_waves1 23 = .ok (.getfield 36, 3) := by decide +kernel
theorem dX6_waves1_26 : decode cX6_waves1 26 = .ok (.bipush 10, 2) := by decide +kernel
theorem dX6_waves1_28 : decode cX6_waves1 28 = .ok (.iload_n 2, 1) := by decide +kernel
theorem dX6_waves1_29 : decode cX6_waves1 29 = .ok (.imul, 1) := by decide +kernel
theorem dX6_waves1_30 : decode cX6_waves1 30 = .ok (.iload_n 3, 1) := by decide +kernel
theorem dX6_waves1_31 : decode cX6_waves1 31 = .ok (.iadd, 1) := by decide +kernel
theorem dX6_waves1_32 : decode cX6_waves1 32 = .ok (.aload_n 0, 1) := by decide +kernel
theorem dX6_waves1_33 : decode cX6_waves1 33 = .ok (.iload_n 2, 1) := by decide +kernel
theorem dX6_waves1_34 : decode cX6_waves1 34 = .ok (.iload_n 3, 1) := by decide +kernel
theorem dX6_waves1_35 : decode cX6_waves1 35 = .ok (.invokevirtual 288, 3) := by decide +kernel
theorem dX6_waves1_38 : decode cX6_waves1 38 = .ok (.ifCond .eq 12, 3) := by decide +kernel
theorem dX6_waves1_41 : decode cX6_waves1 41 = .ok (.aload_n 0, 1) := by decide +kernel
theorem dX6_waves1_42 : decode cX6_waves1 42 = .ok (.iload_n 2, 1) := by decide +kernel
theorem dX6_waves1_43 : decode cX6_waves1 43 = .ok (.iload_n 3, 1) := by decide +kernel
theorem dX6_waves1_44 : decode cX6_waves1 44 = .ok (.invokevirtual 291, 3) := by decide +kernel
theorem dX6_waves1_47 : decode cX6_waves1 47 = .ok (.goto 4, 3) := by decide +kernel
theorem dX6_waves1_50 : decode cX6_waves1 50 = .ok (.iconst 0, 1) := by decide +kernel
theorem dX6_waves1_51 : decode cX6_waves1 51 = .ok (.iastore, 1) := by decide +kernel
theorem dX6_waves1_52 : decode cX6_waves1 52 = .ok (.iinc 3 1, 3) := by decide +kernel
theorem dX6_waves1_55 : decode cX6_waves1 55 = .ok (.goto (-41), 3) := by decide +kernel
theorem dX6_waves1_58 : decode cX6_waves1 58 = .ok (.iinc 2 1, 3) := by decide +kernel
theorem dX6_waves1_61 : decode cX6_waves1 61 = .ok (.goto (-57), 3) := by decide +kernel
theorem dX6_waves1_64 : decode cX6_waves1 64 = .ok (.iconst 0, 1) := by decide +kernel
theorem dX6_waves1_65 : decode cX6_waves1 65 = .ok (.istore_n 2, 1) := by decide +kernel
theorem dX6_waves1_66 : decode cX6_waves1 66 = .ok (.iload_n 2, 1) := by decide +kernel
theorem dX6_waves1_67 : decode cX6_waves1 67 = .ok (.aload_n 0, 1) := by decide +kernel
theorem dX6_waves1_68 : decode cX6_waves1 68 = .ok (.invokevirtual 169, 3) := by decide +kernel
theorem dX6_waves1_71 : decode cX6_waves1 71 = .ok (.if_icmp .ge 62, 3) := by decide +kernel
theorem dX6_waves1_74 : decode cX6_waves1 74 = .ok (.iconst 0, 1) := by decide +kernel
theorem dX6_waves1_75 : decode cX6_waves1 75 = .ok (.istore_n 3, 1) := by decide +kernel
theorem dX6_waves1_76 : decode cX6_waves1 76 = .ok (.iload_n 3, 1) := by decide +kernel
theorem dX6_waves1_77 : decode cX6_waves1 77 = .ok (.aload_n 0, 1) := by decide +kernel
theorem dX6_waves1_78 : decode cX6_waves1 78 = .ok (.invokevirtual 67, 3) := by decide +kernel
theorem dX6_waves1_81 : decode cX6_waves1 81 = .ok (.if_icmp .ge 46, 3) := by decide +kernel
theorem dX6_waves1_84 : decode cX6_waves1 84 = .ok (.aload_n 0, 1) := by decide +kernel
theorem dX6_waves1_85 : decode cX6_waves1 85 = .ok (.getfield 36, 3) := by decide +kernel
theorem dX6_waves1_88 : decode cX6_waves1 88 = .ok (.bipush 10, 2) := by decide +kernel
theorem dX6_waves1_90 : decode cX6_waves1 90 = .ok (.iload_n 2, 1) := by decide +kernel
theorem dX6_waves1_91 : decode cX6_waves1 91 = .ok (.imul, 1) := by decide +kernel
theorem dX6_waves1_92 : decode cX6_waves1 92 = .ok (.iload_n 3, 1) := by decide +kernel
theorem dX6_waves1_93 : decode cX6_waves1 93 = .ok (.iadd, 1) := by decide +kernel
theorem dX6_waves1_94 : decode cX6_waves1 94 = .ok (.iaload, 1) := by decide +kernel
theorem dX6_waves1_95 : decode cX6_waves1 95 = .ok (.ifCond .ne 6, 3) := by decide +kernel
theorem dX6_waves1_98 : decode cX6_waves1 98 = .ok (.goto 23, 3) := by decide +kernel
theorem dX6_waves1_101 : decode cX6_waves1 101 = .ok (.aload_n 0, 1) := by decide +kernel
theorem dX6_waves1_102 : decode cX6_waves1 102 = .ok (.iload_n 2, 1) := by decide +kernel
theorem dX6_waves1_103 : decode cX6_waves1 103 = .ok (.iload_n 3, 1) := by decide +kernel
theorem dX6_waves1_104 : decode cX6_waves1 104 = .ok (.aload_n 0, 1) := by decide +kernel
theorem dX6_waves1_105 : decode cX6_waves1 105 = .ok (.getfield 36, 3) := by decide +kernel
theorem dX6_waves1_108 : decode cX6_waves1 108 = .ok (.bipush 10, 2) := by decide +kernel
theorem dX6_waves1_110 : decode cX6_waves1 110 = .ok (.iload_n 2, 1) := by decide +kernel
theorem dX6_waves1_111 : decode cX6_waves1 111 = .ok (.imul, 1) := by decide +kernel
theorem dX6_waves1_112 : decode cX6_waves1 112 = .ok (.iload_n 3, 1) := by decide +kernel
theorem dX6_waves1_113 : decode cX6_waves1 113 = .ok (.iadd, 1) := by decide +kernel
theorem dX6_waves1_114 : decode cX6_waves1 114 = .ok (.iaload, 1) := by decide +kernel
theorem dX6_waves1_115 : decode cX6_waves1 115 = .ok (.invokevirtual 172, 3) := by decide +kernel
theorem dX6_waves1_118 : decode cX6_waves1 118 = .ok (.iinc 1 1, 3) := by decide +kernel
theorem dX6_waves1_121 : decode cX6_waves1 121 = .ok (.iinc 3 1, 3) := by decide +kernel
theorem dX6_waves1_124 : decode cX6_waves1 124 = .ok (.goto (-48), 3) := by decide +kernel
theorem dX6_waves1_127 : decode cX6_waves1 127 = .ok (.iinc 2 1, 3) := by decide +kernel
theorem dX6_waves1_130 : decode cX6_waves1 130 = .ok (.goto (-64), 3) := by decide +kernel
theorem dX6_waves1_133 : decode cX6_waves1 133 = .ok (.aload_n 0, 1) := by decide +kernel
theorem dX6_waves1_134 : decode cX6_waves1 134 = .ok (.getfield 7, 3) := by decide +kernel
theorem dX6_waves1_137 : decode cX6_waves1 137 = .ok (.iconst 3, 1) := by decide +kernel
theorem dX6_waves1_138 : decode cX6_waves1 138 = .ok (.dup2, 1) := by decide +kernel
theorem dX6_waves1_139 : decode cX6_waves1 139 = .ok (.iaload, 1) := by decide +kernel
theorem dX6_waves1_140 : decode cX6_waves1 140 = .ok (.iload_n 1, 1) := by decide +kernel
theorem dX6_waves1_141 : decode cX6_waves1 141 = .ok (.iadd, 1) := by decide +kernel
theorem dX6_waves1_142 : decode cX6_waves1 142 = .ok (.iastore, 1) := by decide +kernel
theorem dX6_waves1_143 : decode cX6_waves1 143 = .ok (.iload_n 1, 1) := by decide +kernel
theorem dX6_waves1_144 : decode cX6_waves1 144 = .ok (.ireturn, 1) := by decide +kernel
theorem dX6_sources_0 : decode cX6_sources 0 = .ok (.aload_n 0, 1) := by decide +kernel
theorem dX6_sources_1 : decode cX6_sources 1 = .ok (.iload_n 1, 1) := by decide +kernel
theorem dX6_sources_2 : decode cX6_sources 2 = .ok (.iload_n 2, 1) := by decide +kernel
theorem dX6_sources_3 : decode cX6_sources 3 = .ok (.invokevirtual 260, 3) := by decide +kernel
theorem dX6_sources_6 : decode cX6_sources 6 = .ok (.ifCond .eq 12, 3) := by decide +kernel
theorem dX6_sources_9 : decode cX6_sources 9 = .ok (.aload_n 0, 1) := by decide +kernel
theorem dX6_sources_10 : decode cX6_sources 10 = .ok (.iload_n 1, 1) := by decide +kernel
theorem dX6_sources_11 : decode cX6_sources 11 = .ok (.iload_n 2, 1) := by decide +kernel
theorem dX6_sources_12 : decode cX6_sources 12 = .ok (.invokevirtual 285, 3) := by decide +kernel
theorem dX6_sources_15 : decode cX6_sources 15 = .ok (.goto 4, 3) := by decide +kernel
theorem dX6_sources_18 : decode cX6_sources 18 = .ok (.iconst 0, 1) := by decide +kernel
theorem dX6_sources_19 : decode cX6_sources 19 = .ok (.ireturn, 1) := by decide +kernel
theorem dX6_wouldGet_0 : decode cX6_wouldGet 0 = .ok (.aload_n 0, 1) := by decide +kernel
theorem dX6_wouldGet_1 : decode cX6_wouldGet 1 = .ok (.iload_n 1, 1) := by decide +kernel
theorem dX6_wouldGet_2 : decode cX6_wouldGet 2 = .ok (.iload_n 2, 1) := by decide +kernel
theorem dX6_wouldGet_3 : decode cX6_wouldGet 3 = .ok (.invokevirtual 260, 3) := by decide +kernel
theorem dX6_wouldGet_6 : decode cX6_wouldGet 6 = .ok (.ifCond .ne 5, 3) := by decide +kernel
theorem dX6_wouldGet_9 : decode cX6_wouldGet 9 = .ok (.iconst 0, 1) := by decide +kernel
theorem dX6_wouldGet_10 : decode cX6_wouldGet 10 = .ok (.ireturn, 1) := by decide +kernel
theorem dX6_wouldGet_11 : decode cX6_wouldGet 11 = .ok (.aload_n 0, 1) := by decide +kernel
theorem dX6_wouldGet_12 : decode cX6_wouldGet 12 = .ok (.iload_n 1, 1) := by decide +kernel
theorem dX6_wouldGet_13 : decode cX6_wouldGet 13 = .ok (.iload_n 2, 1) := by decide +kernel
theorem dX6_wouldGet_14 : decode cX6_wouldGet 14 = .ok (.invokevirtual 285, 3) := by decide +kernel
theorem dX6_wouldGet_17 : decode cX6_wouldGet 17 = .ok (.ifCond .ne 7, 3) := by decide +kernel
theorem dX6_wouldGet_20 : decode cX6_wouldGet 20 = .ok (.iconst (-1), 1) := by decide +kernel
theorem dX6_wouldGet_21 : decode cX6_wouldGet 21 = .ok (.goto 13, 3) := by decide +kernel
theorem dX6_wouldGet_24 : decode cX6_wouldGet 24 = .ok (.aload_n 0, 1) := by decide +kernel
theorem dX6_wouldGet_25 : decode cX6_wouldGet 25 = .ok (.iload_n 1, 1) := by decide +kernel
theorem dX6_wouldGet_26 : decode cX6_wouldGet 26 = .ok (.iload_n 2, 1) := by decide +kernel
theorem dX6_wouldGet_27 : decode cX6_wouldGet 27 = .ok (.invokevirtual 291, 3) := by decide +kernel
theorem dX6_wouldGet_30 : decode cX6_wouldGet 30 = .ok (.ldc_w 263, 3) := by decide +kernel
theorem dX6_wouldGet_33 : decode cX6_wouldGet 33 = .ok (.iand, 1) := by decide +kernel
theorem dX6_wouldGet_34 : decode cX6_wouldGet 34 = .ok (.ireturn, 1) := by decide +kernel
theorem dX6_triesWaves_0 : decode cX6_triesWaves 0 = .ok (.aload_n 0, 1) := by decide +kernel
theorem dX6_triesWaves_1 : decode cX6_triesWaves 1 = .ok (.iconst 0, 1) := by decide +kernel
theorem dX6_triesWaves_2 : decode cX6_triesWaves 2 = .ok (.putfield 49, 3) := by decide +kernel
theorem dX6_triesWaves_5 : decode cX6_triesWaves 5 = .ok (.aload_n 0, 1) := by decide +kernel
theorem dX6_triesWaves_6 : decode cX6_triesWaves 6 = .ok (.getfield 16, 3) := by decide +kernel
theorem dX6_triesWaves_9 : decode cX6_triesWaves 9 = .ok (.iconst 0, 1) := by decide +kernel
theorem dX6_triesWaves_10 : decode cX6_triesWaves 10 = .ok (.aload_n 0, 1) := by decide +kernel
theorem dX6_triesWaves_11 : decode cX6_triesWaves 11 = .ok (.getfield 7, 3) := by decide +kernel
theorem dX6_triesWaves_14 : decode cX6_triesWaves 14 = .ok (.iconst 0, 1) := by decide +kernel
theorem dX6_triesWaves_15 : decode cX6_triesWaves 15 = .ok (.invokestatic 55, 3) := by decide +kernel
theorem dX6_triesWaves_18 : decode cX6_triesWaves 18 = .ok (.aload_n 0, 1) := by decide +kernel
theorem dX6_triesWaves_19 : decode cX6_triesWaves 19 = .ok (.iconst 0, 1) := by decide +kernel
theorem dX6_triesWaves_20 : decode cX6_triesWaves 20 = .ok (.putfield 294, 3) := by decide +kernel
theorem dX6_triesWaves_23 : decode cX6_triesWaves 23 = .ok (.aload_n 0, 1) := by decide +kernel
theorem dX6_triesWaves_24 : decode cX6_triesWaves 24 = .ok (.invokevirtual 297, 3) := by decide +kernel
theorem dX6_triesWaves_27 : decode cX6_triesWaves 27 = .ok (.ifCond .le 16, 3) := by decide +kernel
theorem dX6_triesWaves_30 : decode cX6_triesWaves 30 = .ok (.aload_n 0, 1) := by decide +kernel
theorem dX6_triesWaves_31 : decode cX6_triesWaves 31 = .ok (.dup, 1) := by decide +kernel
theorem dX6_triesWaves_32 : decode cX6_triesWaves 32 = .ok (.getfield 294, 3) := by decide +kernel
theorem dX6_triesWaves_35 : decode cX6_triesWaves 35 = .ok (.iconst 1, 1) := by decide +kernel
theorem dX6_triesWaves_36 : decode cX6_triesWaves 36 = .ok (.iadd, 1) := by decide +kernel
theorem dX6_triesWaves_37 : decode cX6_triesWaves 37 = .ok (.putfield 294, 3) := by decide +kernel
theorem dX6_triesWaves_40 : decode cX6_triesWaves 40 = .ok (.goto (-17), 3) := by decide +kernel
theorem dX6_triesWaves_43 : decode cX6_triesWaves 43 = .ok (.aload_n 0, 1) := by decide +kernel
theorem dX6_triesWaves_44 : decode cX6_triesWaves 44 = .ok (.aload_n 0, 1) := by decide +kernel
theorem dX6_triesWaves_45 : decode cX6_triesWaves 45 = .ok (.iconst 2, 1) := by decide +kernel
theorem dX6_triesWaves_46 : decode cX6_triesWaves 46 = .ok (.invokevirtual 241, 3) := by decide +kernel
theorem dX6_triesWaves_49 : decode cX6_triesWaves 49 = .ok (.putfield 300, 3) := by decide +kernel
theorem dX6_triesWaves_52 : decode cX6_triesWaves 52 = .ok (.aload_n 0, 1) := by decide +kernel
theorem dX6_triesWaves_53 : decode cX6_triesWaves 53 = .ok (.getfield 7, 3) := by decide +kernel
theorem dX6_triesWaves_56 : decode cX6_triesWaves 56 = .ok (.iconst 0, 1) := by decide +kernel
theorem dX6_triesWaves_57 : decode cX6_triesWaves 57 = .ok (.aload_n 0, 1) := by decide +kernel
theorem dX6_triesWaves_58 : decode cX6_triesWaves 58 = .ok (.getfield 16, 3) := by decide +kernel
theorem dX6_triesWaves_61 : decode cX6_triesWaves 61 = .ok (.iconst 0, 1) := by decide +kernel
theorem dX6_triesWaves_62 : decode cX6_triesWaves 62 = .ok (.invokestatic 55, 3) := by decide +kernel
theorem dX6_triesWaves_65 : decode cX6_triesWaves 65 = .ok (.return_, 1) := by decide +kernel
theorem dX6_waves_0 : decode cX6_waves 0 = .ok (.aload_n 0, 1) := by decide +kernel
theorem dX6_waves_1 : decode cX6_waves 1 = .ok (.invokevirtual 303, 3) := by decide +kernel
theorem dX6_waves_4 : decode cX6_waves 4 = .ok (.aload_n 0, 1) := by decide +kernel
theorem dX6_waves_5 : decode cX6_waves 5 = .ok (.getfield 294, 3) := by decide +kernel
theorem dX6_waves_8 : decode cX6_waves 8 = .ok (.ireturn, 1) := by decide +kernel
theorem dX6_lost_0 : decode cX6_lost 0 = .ok (.aload_n 0, 1) := by decide +kernel
theorem dX6_lost_1 : decode cX6_lost 1 = .ok (.invokevirtual 303, 3) := by decide +kernel
theorem dX6_lost_4 : decode cX6_lost 4 = .ok (.aload_n 0, 1) := by decide +kernel
theorem dX6_lost_5 : decode cX6_lost 5 = .ok (.getfield 300, 3) := by decide +kernel
theorem dX6_lost_8 : decode cX6_lost 8 = .ok (.ireturn, 1) := by decide +kernel
theorem dX6_dependsOn_0 : decode cX6_dependsOn 0 = .ok (.aload_n 0, 1) := by decide +kernel
theorem dX6_dependsOn_1 : decode cX6_dependsOn 1 = .ok (.iload_n 1, 1) := by decide +kernel
theorem dX6_dependsOn_2 : decode cX6_dependsOn 2 = .ok (.iconst 1, 1) := by decide +kernel
theorem dX6_dependsOn_3 : decode cX6_dependsOn 3 = .ok (.invokevirtual 226, 3) := by decide +kernel
theorem dX6_dependsOn_6 : decode cX6_dependsOn 6 = .ok (.invokestatic 229, 3) := by decide +kernel
theorem dX6_dependsOn_9 : decode cX6_dependsOn 9 = .ok (.aload_n 0, 1) := by decide +kernel
theorem dX6_dependsOn_10 : decode cX6_dependsOn 10 = .ok (.iload_n 1, 1) := by decide +kernel
theorem dX6_dependsOn_11 : decode cX6_dependsOn 11 = .ok (.invokevirtual 232, 3) := by decide +kernel
theorem dX6_dependsOn_14 : decode cX6_dependsOn 14 = .ok (.if_icmp .ne 12, 3) := by decide +kernel
theorem dX6_dependsOn_17 : decode cX6_dependsOn 17 = .ok (.aload_n 0, 1) := by decide +kernel
theorem dX6_dependsOn_18 : decode cX6_dependsOn 18 = .ok (.iload_n 1, 1) := by decide +kernel
theorem dX6_dependsOn_19 : decode cX6_dependsOn 19 = .ok (.iconst 1, 1) := by decide +kernel
theorem dX6_dependsOn_20 : decode cX6_dependsOn 20 = .ok (.invokevirtual 226, 3) := by decide +kernel
theorem dX6_dependsOn_23 : decode cX6_dependsOn 23 = .ok (.goto 4, 3) := by decide +kernel
theorem dX6_dependsOn_26 : decode cX6_dependsOn 26 = .ok (.iconst 0, 1) := by decide +kernel
theorem dX6_dependsOn_27 : decode cX6_dependsOn 27 = .ok (.ireturn, 1) := by decide +kernel
theorem dX6_depends_0 : decode cX6_depends 0 = .ok (.aload_n 0, 1) := by decide +kernel
theorem dX6_depends_1 : decode cX6_depends 1 = .ok (.aload_n 0, 1) := by decide +kernel
theorem dX6_depends_2 : decode cX6_depends 2 = .ok (.iload_n 1, 1) := by decide +kernel
theorem dX6_depends_3 : decode cX6_depends 3 = .ok (.invokevirtual 257, 3) := by decide +kernel
theorem dX6_depends_6 : decode cX6_depends 6 = .ok (.ifCond .eq 7, 3) := by decide +kernel
theorem dX6_depends_9 : decode cX6_depends 9 = .ok (.iconst 0, 1) := by decide +kernel
theorem dX6_depends_10 : decode cX6_depends 10 = .ok (.goto 4, 3) := by decide +kernel
theorem dX6_depends_13 : decode cX6_depends 13 = .ok (.iconst 1, 1) := by decide +kernel
theorem dX6_depends_14 : decode cX6_depends 14 = .ok (.putfield 49, 3) := by decide +kernel
theorem dX6_depends_17 : decode cX6_depends 17 = .ok (.aload_n 0, 1) := by decide +kernel
theorem dX6_depends_18 : decode cX6_depends 18 = .ok (.getfield 49, 3) := by decide +kernel
theorem dX6_depends_21 : decode cX6_depends 21 = .ok (.ifCond .le 7, 3) := by decide +kernel
theorem dX6_depends_24 : decode cX6_depends 24 = .ok (.iconst 0, 1) := by decide +kernel
theorem dX6_depends_25 : decode cX6_depends 25 = .ok (.goto 8, 3) := by decide +kernel
theorem dX6_depends_28 : decode cX6_depends 28 = .ok (.aload_n 0, 1) := by decide +kernel
theorem dX6_depends_29 : decode cX6_depends 29 = .ok (.iload_n 1, 1) := by decide +kernel
theorem dX6_depends_30 : decode cX6_depends 30 = .ok (.invokevirtual 306, 3) := by decide +kernel
theorem dX6_depends_33 : decode cX6_depends 33 = .ok (.ireturn, 1) := by decide +kernel
theorem dX6_mostNeeded_0 : decode cX6_mostNeeded 0 = .ok (.aload_n 0, 1) := by decide +kernel
theorem dX6_mostNeeded_1 : decode cX6_mostNeeded 1 = .ok (.iconst 0, 1) := by decide +kernel
theorem dX6_mostNeeded_2 : decode cX6_mostNeeded 2 = .ok (.putfield 49, 3) := by decide +kernel
theorem dX6_mostNeeded_5 : decode cX6_mostNeeded 5 = .ok (.iconst (-1), 1) := by decide +kernel
theorem dX6_mostNeeded_6 : decode cX6_mostNeeded 6 = .ok (.istore_n 1, 1) := by decide +kernel
theorem dX6_mostNeeded_7 : decode cX6_mostNeeded 7 = .ok (.iconst 0, 1) := by decide +kernel
theorem dX6_mostNeeded_8 : decode cX6_mostNeeded 8 = .ok (.istore_n 2, 1) := by decide +kernel
theorem dX6_mostNeeded_9 : decode cX6_mostNeeded 9 = .ok (.iconst 0, 1) := by decide +kernel
theorem dX6_mostNeeded_10 : decode cX6_mostNeeded 10 = .ok (.istore_n 3, 1) := by decide +kernel
theorem dX6_mostNeeded_11 : decode cX6_mostNeeded 11 = .ok (.iload_n 3, 1) := by decide +kernel
theorem dX6_mostNeeded_12 : decode cX6_mostNeeded 12 = .ok (.aload_n 0, 1) := by decide +kernel
theorem dX6_mostNeeded_13 : decode cX6_mostNeeded 13 = .ok (.invokevirtual 67, 3) := by decide +kernel
theorem dX6_mostNeeded_16 : decode cX6_mostNeeded 16 = .ok (.if_icmp .ge 59, 3) := by decide +kernel
theorem dX6_mostNeeded_19 : decode cX6_mostNeeded 19 = .ok (.iconst 0, 1) := by decide +kernel
theorem dX6_mostNeeded_20 : decode cX6_mostNeeded 20 = .ok (.istore 4, 2) := by decide +kernel
theorem dX6_mostNeeded_22 : decode cX6_mostNeeded 22 = .ok (.iconst 0, 1) := by decide +kernel
theorem dX6_mostNeeded_23 : decode cX6_mostNeeded 23 = .ok (.istore 5, 2) := by decide +kernel
theorem dX6_mostNeeded_25 : decode cX6_mostNeeded 25 = .ok (.iload 5, 2) := by decide +kernel
theorem dX6_mostNeeded_27 : decode cX6_mostNeeded 27 = .ok (.aload_n 0, 1) := by decide +kernel
theorem dX6_mostNeeded_28 : decode cX6_mostNeeded 28 = .ok (.invokevirtual 169, 3) := by decide +kernel
theorem dX6_mostNeeded_31 : decode cX6_mostNeeded 31 = .ok (.if_icmp .ge 24, 3) := by decide +kernel
theorem dX6_mostNeeded_34 : decode cX6_mostNeeded 34 = .ok (.iload 4, 2) := by decide +kernel
theorem dX6_mostNeeded_36 : decode cX6_mostNeeded 36 = .ok (.aload_n 0, 1) := by decide +kernel
theorem dX6_mostNeeded_37 : decode cX6_mostNeeded 37 = .ok (.iload 5, 2) := by decide +kernel
theorem dX6_mostNeeded_39 : decode cX6_mostNeeded 39 = .ok (.invokevirtual 306, 3) := by decide +kernel
theorem dX6_mostNeeded_42 : decode cX6_mostNeeded 42 = .ok (.iload_n 3, 1) := by decide +kernel
theorem dX6_mostNeeded_43 : decode cX6_mostNeeded 43 = .ok (.ishr, 1) := by decide +kernel
theorem dX6_mostNeeded_44 : decode cX6_mostNeeded 44 = .ok (.iconst 1, 1) := by decide +kernel
theorem dX6_mostNeeded_45 : decode cX6_mostNeeded 45 = .ok (.iand, 1) := by decide +kernel
theorem dX6_mostNeeded_46 : decode cX6_mostNeeded 46 = .ok (.iadd, 1) := by decide +kernel
theorem dX6_mostNeeded_47 : decode cX6_mostNeeded 47 = .ok (.istore 4, 2) := by decide +kernel
theorem dX6_mostNeeded_49 : decode cX6_mostNeeded 49 = .ok (.iinc 5 1, 3) := by decide +kernel
theorem dX6_mostNeeded_52 : decode cX6_mostNeeded 52 = .ok (.goto (-27), 3) := by decide +kernel
theorem dX6_mostNeeded_55 : decode cX6_mostNeeded 55 = .ok (.iload 4, 2) := by decide +kernel
theorem dX6_mostNeeded_57 : decode cX6_mostNeeded 57 = .ok (.iload_n 2, 1) := by decide +kernel
theorem dX6_mostNeeded_58 : decode cX6_mostNeeded 58 = .ok (.if_icmp .gt 6, 3) := by decide +kernel
theorem dX6_mostNeeded_61 : decode cX6_mostNeeded 61 = .ok (.goto 8, 3) := by decide +kernel
theorem dX6_mostNeeded_64 : decode cX6_mostNeeded 64 = .ok (.iload 4, 2) := by decide +kernel
theorem dX6_mostNeeded_66 : decode cX6_mostNeeded 66 = .ok (.istore_n 2, 1) := by decide +kernel
theorem dX6_mostNeeded_67 : decode cX6_mostNeeded 67 = .ok (.iload_n 3, 1) := by decide +kernel
theorem dX6_mostNeeded_68 : decode cX6_mostNeeded 68 = .ok (.istore_n 1, 1) := by decide +kernel
theorem dX6_mostNeeded_69 : decode cX6_mostNeeded 69 = .ok (.iinc 3 1, 3) := by decide +kernel
theorem dX6_mostNeeded_72 : decode cX6_mostNeeded 72 = .ok (.goto (-61), 3) := by decide +kernel
theorem dX6_mostNeeded_75 : decode cX6_mostNeeded 75 = .ok (.iload_n 1, 1) := by decide +kernel
theorem dX6_mostNeeded_76 : decode cX6_mostNeeded 76 = .ok (.ireturn, 1) := by decide +kernel
theorem dX6_reach_0 : decode cX6_reach 0 = .ok (.aload_n 0, 1) := by decide +kernel
theorem dX6_reach_1 : decode cX6_reach 1 = .ok (.aload_n 0, 1) := by decide +kernel
theorem dX6_reach_2 : decode cX6_reach 2 = .ok (.iload_n 1, 1) := by decide +kernel
theorem dX6_reach_3 : decode cX6_reach 3 = .ok (.invokevirtual 257, 3) := by decide +kernel
theorem dX6_reach_6 : decode cX6_reach 6 = .ok (.ifCond .eq 7, 3) := by decide +kernel
theorem dX6_reach_9 : decode cX6_reach 9 = .ok (.iconst 0, 1) := by decide +kernel
theorem dX6_reach_10 : decode cX6_reach 10 = .ok (.goto 4, 3) := by decide +kernel
theorem dX6_reach_13 : decode cX6_reach 13 = .ok (.iconst 1, 1) := by decide +kernel
theorem dX6_reach_14 : decode cX6_reach 14 = .ok (.putfield 49, 3) := by decide +kernel
theorem dX6_reach_17 : decode cX6_reach 17 = .ok (.aload_n 0, 1) := by decide +kernel
theorem dX6_reach_18 : decode cX6_reach 18 = .ok (.getfield 49, 3) := by decide +kernel
theorem dX6_reach_21 : decode cX6_reach 21 = .ok (.ifCond .le 5, 3) := by decide +kernel
theorem dX6_reach_24 : decode cX6_reach 24 = .ok (.iconst 0, 1) := by decide +kernel
theorem dX6_reach_25 : decode cX6_reach 25 = .ok (.ireturn, 1) := by decide +kernel
theorem dX6_reach_26 : decode cX6_reach 26 = .ok (.aload_n 0, 1) := by decide +kernel
theorem dX6_reach_27 : decode cX6_reach 27 = .ok (.iload_n 1, 1) := by decide +kernel
theorem dX6_reach_28 : decode cX6_reach 28 = .ok (.iconst 1, 1) := by decide +kernel
theorem dX6_reach_29 : decode cX6_reach 29 = .ok (.invokevirtual 226, 3) := by decide +kernel
theorem dX6_reach_32 : decode cX6_reach 32 = .ok (.istore_n 2, 1) := by decide +kernel
theorem dX6_reach_33 : decode cX6_reach 33 = .ok (.iconst 0, 1) := by decide +kernel
theorem dX6_reach_34 : decode cX6_reach 34 = .ok (.istore_n 3, 1) := by decide +kernel
theorem dX6_reach_35 : decode cX6_reach 35 = .ok (.iload_n 3, 1) := by decide +kernel
theorem dX6_reach_36 : decode cX6_reach 36 = .ok (.iload_n 2, 1) := by decide +kernel
theorem dX6_reach_37 : decode cX6_reach 37 = .ok (.if_icmp .eq 46, 3) := by decide +kernel
theorem dX6_reach_40 : decode cX6_reach 40 = .ok (.iload_n 2, 1) := by decide +kernel
theorem dX6_reach_41 : decode cX6_reach 41 = .ok (.istore_n 3, 1) := by decide +kernel
theorem dX6_reach_42 : decode cX6_reach 42 = .ok (.iconst 0, 1) := by decide +kernel
theorem dX6_reach_43 : decode cX6_reach 43 = .ok (.istore 4, 2) := by decide +kernel
theorem dX6_reach_45 : decode cX6_reach 45 = .ok (.iload 4, 2) := by decide +kernel
theorem dX6_reach_47 : decode cX6_reach 47 = .ok (.aload_n 0, 1) := by decide +kernel
theorem dX6_reach_48 : decode cX6_reach 48 = .ok (.invokevirtual 67, 3) := by decide +kernel
theorem dX6_reach_51 : decode cX6_reach 51 = .ok (.if_icmp .ge 29, 3) := by decide +kernel
theorem dX6_reach_54 : decode cX6_reach 54 = .ok (.iload_n 3, 1) := by decide +kernel
theorem dX6_reach_55 : decode cX6_reach 55 = .ok (.iload 4, 2) := by decide +kernel
theorem dX6_reach_57 : decode cX6_reach 57 = .ok (.ishr, 1) := by decide +kernel
theorem dX6_reach_58 : decode cX6_reach 58 = .ok (.iconst 1, 1) := by decide +kernel
theorem dX6_reach_59 : decode cX6_reach 59 = .ok (.iand, 1) := by decide +kernel
theorem dX6_reach_60 : decode cX6_reach 60 = .ok (.iconst 1, 1) := by decide +kernel
theorem dX6_reach_61 : decode cX6_reach 61 = .ok (.if_icmp .ne 13, 3) := by decide +kernel
theorem dX6_reach_64 : decode cX6_reach 64 = .ok (.iload_n 2, 1) := by decide +kernel
theorem dX6_reach_65 : decode cX6_reach 65 = .ok (.aload_n 0, 1) := by decide +kernel
theorem dX6_reach_66 : decode cX6_reach 66 = .ok (.iload 4, 2) := by decide +kernel
theorem dX6_reach_68 : decode cX6_reach 68 = .ok (.iconst 3, 1) := by decide +kernel
theorem dX6_reach_69 : decode cX6_reach 69 = .ok (.invokevirtual 206, 3) := by decide +kernel
theorem dX6_reach_72 : decode cX6_reach 72 = .ok (.ior, 1) := by decide +kernel
theorem dX6_reach_73 : decode cX6_reach 73 = .ok (.istore_n 2, 1) := by decide +kernel
theorem dX6_reach_74 : decode cX6_reach 74 = .ok (.iinc 4 1, 3) := by decide +kernel
theorem dX6_reach_77 : decode cX6_reach 77 = .ok (.goto (-32), 3) := by decide +kernel
theorem dX6_reach_80 : decode cX6_reach 80 = .ok (.goto (-45), 3) := by decide +kernel
theorem dX6_reach_83 : decode cX6_reach 83 = .ok (.iload_n 2, 1) := by decide +kernel
theorem dX6_reach_84 : decode cX6_reach 84 = .ok (.invokestatic 229, 3) := by decide +kernel
theorem dX6_reach_87 : decode cX6_reach 87 = .ok (.ireturn, 1) := by decide +kernel
theorem dX6_isAhead_0 : decode cX6_isAhead 0 = .ok (.iload_n 2, 1) := by decide +kernel
theorem dX6_isAhead_1 : decode cX6_isAhead 1 = .ok (.iconst (-1), 1) := by decide +kernel
theorem dX6_isAhead_2 : decode cX6_isAhead 2 = .ok (.if_icmp .eq 16, 3) := by decide +kernel
theorem dX6_isAhead_5 : decode cX6_isAhead 5 = .ok (.aload_n 0, 1) := by decide +kernel
theorem dX6_isAhead_6 : decode cX6_isAhead 6 = .ok (.iload_n 1, 1) := by decide +kernel
theorem dX6_isAhead_7 : decode cX6_isAhead 7 = .ok (.invokevirtual 185, 3) := by decide +kernel
theorem dX6_isAhead_10 : decode cX6_isAhead 10 = .ok (.aload_n 0, 1) := by decide +kernel
theorem dX6_isAhead_11 : decode cX6_isAhead 11 = .ok (.iload_n 2, 1) := by decide +kernel
theorem dX6_isAhead_12 : decode cX6_isAhead 12 = .ok (.invokevirtual 185, 3) := by decide +kernel
theorem dX6_isAhead_15 : decode cX6_isAhead 15 = .ok (.if_icmp .eq 27, 3) := by decide +kernel
theorem dX6_isAhead_18 : decode cX6_isAhead 18 = .ok (.iload_n 2, 1) := by decide +kernel
theorem dX6_isAhead_19 : decode cX6_isAhead 19 = .ok (.iconst (-1), 1) := by decide +kernel
theorem dX6_isAhead_20 : decode cX6_isAhead 20 = .ok (.if_icmp .eq 16, 3) := by decide +kernel
theorem dX6_isAhead_23 : decode cX6_isAhead 23 = .ok (.aload_n 0, 1) := by decide +kernel
theorem dX6_isAhead_24 : decode cX6_isAhead 24 = .ok (.iload_n 1, 1) := by decide +kernel
theorem dX6_isAhead_25 : decode cX6_isAhead 25 = .ok (.invokevirtual 185, 3) := by decide +kernel
theorem dX6_isAhead_28 : decode cX6_isAhead 28 = .ok (.aload_n 0, 1) := by decide +kernel
theorem dX6_isAhead_29 : decode cX6_isAhead 29 = .ok (.iload_n 2, 1) := by decide +kernel
theorem dX6_isAhead_30 : decode cX6_isAhead 30 = .ok (.invokevirtual 185, 3) := by decide +kernel
theorem dX6_isAhead_33 : decode cX6_isAhead 33 = .ok (.if_icmp .le 7, 3) := by decide +kernel
theorem dX6_isAhead_36 : decode cX6_isAhead 36 = .ok (.iconst 1, 1) := by decide +kernel
theorem dX6_isAhead_37 : decode cX6_isAhead 37 = .ok (.goto 4, 3) := by decide +kernel
theorem dX6_isAhead_40 : decode cX6_isAhead 40 = .ok (.iconst 0, 1) := by decide +kernel
theorem dX6_isAhead_41 : decode cX6_isAhead 41 = .ok (.ireturn, 1) := by decide +kernel
theorem dX6_isAhead_42 : decode cX6_isAhead 42 = .ok (.aload_n 0, 1) := by decide +kernel
theorem dX6_isAhead_43 : decode cX6_isAhead 43 = .ok (.iload_n 1, 1) := by decide +kernel
theorem dX6_isAhead_44 : decode cX6_isAhead 44 = .ok (.invokevirtual 254, 3) := by decide +kernel
theorem dX6_isAhead_47 : decode cX6_isAhead 47 = .ok (.aload_n 0, 1) := by decide +kernel
theorem dX6_isAhead_48 : decode cX6_isAhead 48 = .ok (.iload_n 2, 1) := by decide +kernel
theorem dX6_isAhead_49 : decode cX6_isAhead 49 = .ok (.invokevirtual 254, 3) := by decide +kernel
theorem dX6_isAhead_52 : decode cX6_isAhead 52 = .ok (.if_icmp .le 7, 3) := by decide +kernel
theorem dX6_isAhead_55 : decode cX6_isAhead 55 = .ok (.iconst 1, 1) := by decide +kernel
theorem dX6_isAhead_56 : decode cX6_isAhead 56 = .ok (.goto 4, 3) := by decide +kernel
theorem dX6_isAhead_59 : decode cX6_isAhead 59 = .ok (.iconst 0, 1) := by decide +kernel
theorem dX6_isAhead_60 : decode cX6_isAhead 60 = .ok (.ireturn, 1) := by decide +kernel
theorem dX6_nextFor_0 : decode cX6_nextFor 0 = .ok (.iconst (-1), 1) := by decide +kernel
theorem dX6_nextFor_1 : decode cX6_nextFor 1 = .ok (.istore_n 2, 1) := by decide +kernel
theorem dX6_nextFor_2 : decode cX6_nextFor 2 = .ok (.iconst 0, 1) := by decide +kernel
theorem dX6_nextFor_3 : decode cX6_nextFor 3 = .ok (.istore_n 3, 1) := by decide +kernel
theorem dX6_nextFor_4 : decode cX6_nextFor 4 = .ok (.iload_n 3, 1) := by decide +kernel
theorem dX6_nextFor_5 : decode cX6_nextFor 5 = .ok (.aload_n 0, 1) := by decide +kernel
theorem dX6_nextFor_6 : decode cX6_nextFor 6 = .ok (.invokevirtual 67, 3) := by decide +kernel
theorem dX6_nextFor_9 : decode cX6_nextFor 9 = .ok (.if_icmp .ge 46, 3) := by decide +kernel
theorem dX6_nextFor_12 : decode cX6_nextFor 12 = .ok (.aload_n 0, 1) := by decide +kernel
theorem dX6_nextFor_13 : decode cX6_nextFor 13 = .ok (.iload_n 1, 1) := by decide +kernel
theorem dX6_nextFor_14 : decode cX6_nextFor 14 = .ok (.iload_n 3, 1) := by decide +kernel
theorem dX6_nextFor_15 : decode cX6_nextFor 15 = .ok (.invokevirtual 182, 3) := by decide +kernel
theorem dX6_nextFor_18 : decode cX6_nextFor 18 = .ok (.ifCond .ne 31, 3) := by decide +kernel
theorem dX6_nextFor_21 : decode cX6_nextFor 21 = .ok (.aload_n 0, 1) := by decide +kernel
theorem dX6_nextFor_22 : decode cX6_nextFor 22 = .ok (.iload_n 3, 1) := by decide +kernel
theorem dX6_nextFor_23 : decode cX6_nextFor 23 = .ok (.invokevirtual 185, 3) := by decide +kernel
theorem dX6_nextFor_26 : decode cX6_nextFor 26 = .ok (.ifCond .le 23, 3) := by decide +kernel
theorem dX6_nextFor_29 : decode cX6_nextFor 29 = .ok (.aload_n 0, 1) := by decide +kernel
theorem dX6_nextFor_30 : decode cX6_nextFor 30 = .ok (.iload_n 1, 1) := by decide +kernel
theorem dX6_nextFor_31 : decode cX6_nextFor 31 = .ok (.iload_n 3, 1) := by decide +kernel
theorem dX6_nextFor_32 : decode cX6_nextFor 32 = .ok (.invokevirtual 285, 3) := by decide +kernel
theorem dX6_nextFor_35 : decode cX6_nextFor 35 = .ok (.ifCond .eq 14, 3) := by decide +kernel
theorem dX6_nextFor_38 : decode cX6_nextFor 38 = .ok (.aload_n 0, 1) := by decide +kernel
theorem dX6_nextFor_39 : decode cX6_nextFor 39 = .ok (.iload_n 3, 1) := by decide +kernel
theorem dX6_nextFor_40 : decode cX6_nextFor 40 = .ok (.iload_n 2, 1) := by decide +kernel
theorem dX6_nextFor_41 : decode cX6_nextFor 41 = .ok (.invokevirtual 309, 3) := by decide +kernel
theorem dX6_nextFor_44 : decode cX6_nextFor 44 = .ok (.ifCond .eq 5, 3) := by decide +kernel
theorem dX6_nextFor_47 : decode cX6_nextFor 47 = .ok (.iload_n 3, 1) := by decide +kernel
theorem dX6_nextFor_48 : decode cX6_nextFor 48 = .ok (.istore_n 2, 1) := by decide +kernel
theorem dX6_nextFor_49 : decode cX6_nextFor 49 = .ok (.iinc 3 1, 3) := by decide +kernel
theorem dX6_nextFor_52 : decode cX6_nextFor 52 = .ok (.goto (-48), 3) := by decide +kernel
theorem dX6_nextFor_55 : decode cX6_nextFor 55 = .ok (.iload_n 2, 1) := by decide +kernel
theorem dX6_nextFor_56 : decode cX6_nextFor 56 = .ok (.ireturn, 1) := by decide +kernel
theorem dX6_spreads_0 : decode cX6_spreads 0 = .ok (.iconst 0, 1) := by decide +kernel
theorem dX6_spreads_1 : decode cX6_spreads 1 = .ok (.istore_n 1, 1) := by decide +kernel
theorem dX6_spreads_2 : decode cX6_spreads 2 = .ok (.iconst 0, 1) := by decide +kernel
theorem dX6_spreads_3 : decode cX6_spreads 3 = .ok (.istore_n 2, 1) := by decide +kernel
theorem dX6_spreads_4 : decode cX6_spreads 4 = .ok (.iload_n 2, 1) := by decide +kernel
theorem dX6_spreads_5 : decode cX6_spreads 5 = .ok (.aload_n 0, 1) := by decide +kernel
theorem dX6_spreads_6 : decode cX6_spreads 6 = .ok (.invokevirtual 169, 3) := by decide +kernel
theorem dX6_spreads_9 : decode cX6_spreads 9 = .ok (.if_icmp .ge 56, 3) := by decide +kernel
theorem dX6_spreads_12 : decode cX6_spreads 12 = .ok (.aload_n 0, 1) := by decide +kernel
theorem dX6_spreads_13 : decode cX6_spreads 13 = .ok (.iload_n 2, 1) := by decide +kernel
theorem dX6_spreads_14 : decode cX6_spreads 14 = .ok (.invokevirtual 312, 3) := by decide +kernel
theorem dX6_spreads_17 : decode cX6_spreads 17 = .ok (.istore_n 3, 1) := by decide +kernel
theorem dX6_spreads_18 : decode cX6_spreads 18 = .ok (.aload_n 0, 1) := by decide +kernel
theorem dX6_spreads_19 : decode cX6_spreads 19 = .ok (.iload_n 2, 1) := by decide +kernel
theorem dX6_spreads_20 : decode cX6_spreads 20 = .ok (.invokevirtual 238, 3) := by decide +kernel
theorem dX6_spreads_23 : decode cX6_spreads 23 = .ok (.ifCond .eq 36, 3) := by decide +kernel
theorem dX6_spreads_26 : decode cX6_spreads 26 = .ok (.iload_n 3, 1) := by decide +kernel
theorem dX6_spreads_27 : decode cX6_spreads 27 = .ok (.iconst (-1), 1) := by decide +kernel
theorem dX6_spreads_28 : decode cX6_spreads 28 = .ok (.if_icmp .eq 31, 3) := by decide +kernel
theorem dX6_spreads_31 : decode cX6_spreads 31 = .ok (.aload_n 0, 1) := by decide +kernel
theorem dX6_spreads_32 : decode cX6_spreads 32 = .ok (.iload_n 2, 1) := by decide +kernel
theorem dX6_spreads_33 : decode cX6_spreads 33 = .ok (.iload_n 3, 1) := by decide +kernel
theorem dX6_spreads_34 : decode cX6_spreads 34 = .ok (.invokevirtual 291, 3) := by decide +kernel
theorem dX6_spreads_37 : decode cX6_spreads 37 = .ok (.istore 4, 2) := by decide +kernel
theorem dX6_spreads_39 : decode cX6_spreads 39 = .ok (.aload_n 0, 1) := by decide +kernel
theorem dX6_spreads_40 : decode cX6_spreads 40 = .ok (.iload_n 2, 1) := by decide +kernel
theorem dX6_spreads_41 : decode cX6_spreads 41 = .ok (.iload_n 3, 1) := by decide +kernel
theorem dX6_spreads_42 : decode cX6_spreads 42 = .ok (.iload 4, 2) := by decide +kernel
theorem dX6_spreads_44 : decode cX6_spreads 44 = .ok (.invokevirtual 172, 3) := by decide +kernel
theorem dX6_spreads_47 : decode cX6_spreads 47 = .ok (.iinc 1 1, 3) := by decide +kernel
theorem dX6_spreads_50 : decode cX6_spreads 50 = .ok (.aload_n 0, 1) := by decide +kernel
theorem dX6_spreads_51 : decode cX6_spreads 51 = .ok (.iload_n 2, 1) := by decide +kernel
theorem dX6_spreads_52 : decode cX6_spreads 52 = .ok (.invokevirtual 312, 3) := by decide +kernel
theorem dX6_spreads_55 : decode cX6_spreads 55 = .ok (.istore_n 3, 1) := by decide +kernel
theorem dX6_spreads_56 : decode cX6_spreads 56 = .ok (.goto (-38), 3) := by decide +kernel
theorem dX6_spreads_59 : decode cX6_spreads 59 = .ok (.iinc 2 1, 3) := by decide +kernel
theorem dX6_spreads_62 : decode cX6_spreads 62 = .ok (.goto (-58), 3) := by decide +kernel
theorem dX6_spreads_65 : decode cX6_spreads 65 = .ok (.iload_n 1, 1) := by decide +kernel
theorem dX6_spreads_66 : decode cX6_spreads 66 = .ok (.ireturn, 1) := by decide +kernel
theorem dX6_wouldSpread_0 : decode cX6_wouldSpread 0 = .ok (.aload_n 0, 1) := by decide +kernel
theorem dX6_wouldSpread_1 : decode cX6_wouldSpread 1 = .ok (.iconst 0, 1) := by decide +kernel
theorem dX6_wouldSpread_2 : decode cX6_wouldSpread 2 = .ok (.putfield 49, 3) := by decide +kernel
theorem dX6_wouldSpread_5 : decode cX6_wouldSpread 5 = .ok (.aload_n 0, 1) := by decide +kernel
theorem dX6_wouldSpread_6 : decode cX6_wouldSpread 6 = .ok (.getfield 16, 3) := by decide +kernel
theorem dX6_wouldSpread_9 : decode cX6_wouldSpread 9 = .ok (.iconst 0, 1) := by decide +kernel
theorem dX6_wouldSpread_10 : decode cX6_wouldSpread 10 = .ok (.aload_n 0, 1) := by decide +kernel
theorem dX6_wouldSpread_11 : decode cX6_wouldSpread 11 = .ok (.getfield 7, 3) := by decide +kernel
theorem dX6_wouldSpread_14 : decode cX6_wouldSpread 14 = .ok (.iconst 0, 1) := by decide +kernel
theorem dX6_wouldSpread_15 : decode cX6_wouldSpread 15 = .ok (.invokestatic 55, 3) := by decide +kernel
theorem dX6_wouldSpread_18 : decode cX6_wouldSpread 18 = .ok (.aload_n 0, 1) := by decide +kernel
theorem dX6_wouldSpread_19 : decode cX6_wouldSpread 19 = .ok (.invokevirtual 315, 3) := by decide +kernel
theorem dX6_wouldSpread_22 : decode cX6_wouldSpread 22 = .ok (.istore_n 1, 1) := by decide +kernel
theorem dX6_wouldSpread_23 : decode cX6_wouldSpread 23 = .ok (.aload_n 0, 1) := by decide +kernel
theorem dX6_wouldSpread_24 : decode cX6_wouldSpread 24 = .ok (.getfield 7, 3) := by decide +kernel
theorem dX6_wouldSpread_27 : decode cX6_wouldSpread 27 = .ok (.iconst 0, 1) := by decide +kernel
theorem dX6_wouldSpread_28 : decode cX6_wouldSpread 28 = .ok (.aload_n 0, 1) := by decide +kernel
theorem dX6_wouldSpread_29 : decode cX6_wouldSpread 29 = .ok (.getfield 16, 3) := by decide +kernel
theorem dX6_wouldSpread_32 : decode cX6_wouldSpread 32 = .ok (.iconst 0, 1) := by decide +kernel
theorem dX6_wouldSpread_33 : decode cX6_wouldSpread 33 = .ok (.invokestatic 55, 3) := by decide +kernel
theorem dX6_wouldSpread_36 : decode cX6_wouldSpread 36 = .ok (.iload_n 1, 1) := by decide +kernel
theorem dX6_wouldSpread_37 : decode cX6_wouldSpread 37 = .ok (.ireturn, 1) := by decide +kernel
theorem dX6_dangersWith_0 : decode cX6_dangersWith 0 = .ok (.aload_n 0, 1) := by decide +kernel
theorem dX6_dangersWith_1 : decode cX6_dangersWith 1 = .ok (.getfield 16, 3) := by decide +kernel
theorem dX6_dangersWith_4 : decode cX6_dangersWith 4 = .ok (.iconst 0, 1) := by decide +kernel
theorem dX6_dangersWith_5 : decode cX6_dangersWith 5 = .ok (.aload_n 0, 1) := by decide +kernel
theorem dX6_dangersWith_6 : decode cX6_dangersWith 6 = .ok (.getfield 7, 3) := by decide +kernel
theorem dX6_dangersWith_9 : decode cX6_dangersWith 9 = .ok (.iconst 0, 1) := by decide +kernel
theorem dX6_dangersWith_10 : decode cX6_dangersWith 10 = .ok (.invokestatic 55, 3) := by decide +kernel
theorem dX6_dangersWith_13 : decode cX6_dangersWith 13 = .ok (.iload_n 1, 1) := by decide +kernel
theorem dX6_dangersWith_14 : decode cX6_dangersWith 14 = .ok (.iconst (-1), 1) := by decide +kernel
theorem dX6_dangersWith_15 : decode cX6_dangersWith 15 = .ok (.if_icmp .eq 9, 3) := by decide +kernel
theorem dX6_dangersWith_18 : decode cX6_dangersWith 18 = .ok (.aload_n 0, 1) := by decide +kernel
theorem dX6_dangersWith_19 : decode cX6_dangersWith 19 = .ok (.iload_n 1, 1) := by decide +kernel
theorem dX6_dangersWith_20 : decode cX6_dangersWith 20 = .ok (.iload_n 2, 1) := by decide +kernel
theorem dX6_dangersWith_21 : decode cX6_dangersWith 21 = .ok (.invokevirtual 165, 3) := by decide +kernel
theorem dX6_dangersWith_24 : decode cX6_dangersWith 24 = .ok (.aload_n 0, 1) := by decide +kernel
theorem dX6_dangersWith_25 : decode cX6_dangersWith 25 = .ok (.aload_n 0, 1) := by decide +kernel
theorem dX6_dangersWith_26 : decode cX6_dangersWith 26 = .ok (.invokevirtual 315, 3) := by decide +kernel
theorem dX6_dangersWith_29 : decode cX6_dangersWith 29 = .ok (.putfield 282, 3) := by decide +kernel
theorem dX6_dangersWith_32 : decode cX6_dangersWith 32 = .ok (.aload_n 0, 1) := by decide +kernel
theorem dX6_dangersWith_33 : decode cX6_dangersWith 33 = .ok (.iconst 0, 1) := by decide +kernel
theorem dX6_dangersWith_34 : decode cX6_dangersWith 34 = .ok (.invokevirtual 244, 3) := by decide +kernel
theorem dX6_dangersWith_37 : decode cX6_dangersWith 37 = .ok (.istore_n 3, 1) := by decide +kernel
theorem dX6_dangersWith_38 : decode cX6_dangersWith 38 = .ok (.aload_n 0, 1) := by decide +kernel
theorem dX6_dangersWith_39 : decode cX6_dangersWith 39 = .ok (.getfield 7, 3) := by decide +kernel
theorem dX6_dangersWith_42 : decode cX6_dangersWith 42 = .ok (.iconst 0, 1) := by decide +kernel
theorem dX6_dangersWith_43 : decode cX6_dangersWith 43 = .ok (.aload_n 0, 1) := by decide +kernel
theorem dX6_dangersWith_44 : decode cX6_dangersWith 44 = .ok (.getfield 16, 3) := by decide +kernel
theorem dX6_dangersWith_47 : decode cX6_dangersWith 47 = .ok (.iconst 0, 1) := by decide +kernel
theorem dX6_dangersWith_48 : decode cX6_dangersWith 48 = .ok (.invokestatic 55, 3) := by decide +kernel
theorem dX6_dangersWith_51 : decode cX6_dangersWith 51 = .ok (.iload_n 3, 1) := by decide +kernel
theorem dX6_dangersWith_52 : decode cX6_dangersWith 52 = .ok (.ireturn, 1) := by decide +kernel
theorem dX6_bestPair_0 : decode cX6_bestPair 0 = .ok (.aload_n 0, 1) := by decide +kernel
theorem dX6_bestPair_1 : decode cX6_bestPair 1 = .ok (.iconst 0, 1) := by decide +kernel
theorem dX6_bestPair_2 : decode cX6_bestPair 2 = .ok (.putfield 49, 3) := by decide +kernel
theorem dX6_bestPair_5 : decode cX6_bestPair 5 = .ok (.iconst (-1), 1) := by decide +kernel
theorem dX6_bestPair_6 : decode cX6_bestPair 6 = .ok (.istore_n 1, 1) := by decide +kernel
theorem dX6_bestPair_7 : decode cX6_bestPair 7 = .ok (.aload_n 0, 1) := by decide +kernel
theorem dX6_bestPair_8 : decode cX6_bestPair 8 = .ok (.iconst (-1), 1) := by decide +kernel
theorem dX6_bestPair_9 : decode cX6_bestPair 9 = .ok (.iconst (-1), 1) := by decide +kernel
theorem dX6_bestPair_10 : decode cX6_bestPair 10 = .ok (.invokevirtual 318, 3) := by decide +kernel
theorem dX6_bestPair_13 : decode cX6_bestPair 13 = .ok (.istore_n 2, 1) := by decide +kernel
theorem dX6_bestPair_14 : decode cX6_bestPair 14 = .ok (.iconst 0, 1) := by decide +kernel
theorem dX6_bestPair_15 : decode cX6_bestPair 15 = .ok (.istore_n 3, 1) := by decide +kernel
theorem dX6_bestPair_16 : decode cX6_bestPair 16 = .ok (.iload_n 3, 1) := by decide +kernel
theorem dX6_bestPair_17 : decode cX6_bestPair 17 = .ok (.aload_n 0, 1) := by decide +kernel
theorem dX6_bestPair_18 : decode cX6_bestPair 18 = .ok (.invokevirtual 67, 3) := by decide +kernel
theorem dX6_bestPair_21 : decode cX6_bestPair 21 = .ok (.if_icmp .ge 72, 3) := by decide +kernel
theorem dX6_bestPair_24 : decode cX6_bestPair 24 = .ok (.iload_n 3, 1) := by decide +kernel
theorem dX6_bestPair_25 : decode cX6_bestPair 25 = .ok (.iconst 1, 1) := by decide +kernel
theorem dX6_bestPair_26 : decode cX6_bestPair 26 = .ok (.iadd, 1) := by decide +kernel
theorem dX6_bestPair_27 : decode cX6_bestPair 27 = .ok (.istore 4, 2) := by decide +kernel
theorem dX6_bestPair_29 : decode cX6_bestPair 29 = .ok (.iload 4, 2) := by decide +kernel
theorem dX6_bestPair_31 : decode cX6_bestPair 31 = .ok (.aload_n 0, 1) := by decide +kernel
theorem dX6_bestPair_32 : decode cX6_bestPair 32 = .ok (.invokevirtual 67, 3) := by decide +kernel
theorem dX6_bestPair_35 : decode cX6_bestPair 35 = .ok (.if_icmp .ge 52, 3) := by decide +kernel
theorem dX6_bestPair_38 : decode cX6_bestPair 38 = .ok (.aload_n 0, 1) := by decide +kernel
theorem dX6_bestPair_39 : decode cX6_bestPair 39 = .ok (.iload_n 3, 1) := by decide +kernel
theorem dX6_bestPair_40 : decode cX6_bestPair 40 = .ok (.iload 4, 2) := by decide +kernel
theorem dX6_bestPair_42 : decode cX6_bestPair 42 = .ok (.invokevirtual 161, 3) := by decide +kernel
theorem dX6_bestPair_45 : decode cX6_bestPair 45 = .ok (.ifCond .eq 7, 3) := by decide +kernel
theorem dX6_bestPair_48 : decode cX6_bestPair 48 = .ok (.iload_n 2, 1) := by decide +kernel
theorem dX6_bestPair_49 : decode cX6_bestPair 49 = .ok (.goto 10, 3) := by decide +kernel
theorem dX6_bestPair_52 : decode cX6_bestPair 52 = .ok (.aload_n 0, 1) := by decide +kernel
theorem dX6_bestPair_53 : decode cX6_bestPair 53 = .ok (.iload_n 3, 1) := by decide +kernel
theorem dX6_bestPair_54 : decode cX6_bestPair 54 = .ok (.iload 4, 2) := by decide +kernel
theorem dX6_bestPair_56 : decode cX6_bestPair 56 = .ok (.invokevirtual 318, 3) := by decide +kernel
theorem dX6_bestPair_59 : decode cX6_bestPair 59 = .ok (.istore 5, 2) := by decide +kernel
theorem dX6_bestPair_61 : decode cX6_bestPair 61 = .ok (.iload 5, 2) := by decide +kernel
theorem dX6_bestPair_63 : decode cX6_bestPair 63 = .ok (.iload_n 2, 1) := by decide +kernel
theorem dX6_bestPair_64 : decode cX6_bestPair 64 = .ok (.if_icmp .lt 6, 3) := by decide +kernel
theorem dX6_bestPair_67 : decode cX6_bestPair 67 = .ok (.goto 14, 3) := by decide +kernel
theorem dX6_bestPair_70 : decode cX6_bestPair 70 = .ok (.iload 5, 2) := by decide +kernel
theorem dX6_bestPair_72 : decode cX6_bestPair 72 = .ok (.istore_n 2, 1) := by decide +kernel
theorem dX6_bestPair_73 : decode cX6_bestPair 73 = .ok (.bipush 10, 2) := by decide +kernel
theorem dX6_bestPair_75 : decode cX6_bestPair 75 = .ok (.iload_n 3, 1) := by decide +kernel
theorem dX6_bestPair_76 : decode cX6_bestPair 76 = .ok (.imul, 1) := by decide +kernel
theorem dX6_bestPair_77 : decode cX6_bestPair 77 = .ok (.iload 4, 2) := by decide +kernel
theorem dX6_bestPair_79 : decode cX6_bestPair 79 = .ok (.iadd, 1) := by decide +kernel
theorem dX6_bestPair_80 : decode cX6_bestPair 80 = .ok (.istore_n 1, 1) := by decide +kernel
theorem dX6_bestPair_81 : decode cX6_bestPair 81 = .ok (.iinc 4 1, 3) := by decide +kernel
theorem dX6_bestPair_84 : decode cX6_bestPair 84 = .ok (.goto (-55), 3) := by decide +kernel
theorem dX6_bestPair_87 : decode cX6_bestPair 87 = .ok (.iinc 3 1, 3) := by decide +kernel
theorem dX6_bestPair_90 : decode cX6_bestPair 90 = .ok (.goto (-74), 3) := by decide +kernel
theorem dX6_bestPair_93 : decode cX6_bestPair 93 = .ok (.iload_n 1, 1) := by decide +kernel
theorem dX6_bestPair_94 : decode cX6_bestPair 94 = .ok (.ireturn, 1) := by decide +kernel
theorem dX6_soundness_0 : decode cX6_soundness 0 = .ok (.aload_n 0, 1) := by decide +kernel
theorem dX6_soundness_1 : decode cX6_soundness 1 = .ok (.iconst 0, 1) := by decide +kernel
theorem dX6_soundness_2 : decode cX6_soundness 2 = .ok (.putfield 49, 3) := by decide +kernel
theorem dX6_soundness_5 : decode cX6_soundness 5 = .ok (.aload_n 0, 1) := by decide +kernel
theorem dX6_soundness_6 : decode cX6_soundness 6 = .ok (.iconst 1, 1) := by decide +kernel
theorem dX6_soundness_7 : decode cX6_soundness 7 = .ok (.invokevirtual 241, 3) := by decide +kernel
theorem dX6_soundness_10 : decode cX6_soundness 10 = .ok (.istore_n 1, 1) := by decide +kernel
theorem dX6_soundness_11 : decode cX6_soundness 11 = .ok (.iload_n 1, 1) := by decide +kernel
theorem dX6_soundness_12 : decode cX6_soundness 12 = .ok (.ifCond .ne 7, 3) := by decide +kernel
theorem dX6_soundness_15 : decode cX6_soundness 15 = .ok (.fconst 0, 1) := by decide +kernel
theorem dX6_soundness_16 : decode cX6_soundness 16 = .ok (.goto 12, 3) := by decide +kernel
theorem dX6_soundness_19 : decode cX6_soundness 19 = .ok (.aload_n 0, 1) := by decide +kernel
theorem dX6_soundness_20 : decode cX6_soundness 20 = .ok (.iconst 3, 1) := by decide +kernel
theorem dX6_soundness_21 : decode cX6_soundness 21 = .ok (.invokevirtual 241, 3) := by decide +kernel
theorem dX6_soundness_24 : decode cX6_soundness 24 = .ok (.i2f, 1) := by decide +kernel
theorem dX6_soundness_25 : decode cX6_soundness 25 = .ok (.iload_n 1, 1) := by decide +kernel
theorem dX6_soundness_26 : decode cX6_soundness 26 = .ok (.i2f, 1) := by decide +kernel
theorem dX6_soundness_27 : decode cX6_soundness 27 = .ok (.fdiv, 1) := by decide +kernel
theorem dX6_soundness_28 : decode cX6_soundness 28 = .ok (.freturn, 1) := by decide +kernel
theorem dX6_ask_0 : decode cX6_ask 0 = .ok (.aload_n 0, 1) := by decide +kernel
theorem dX6_ask_1 : decode cX6_ask 1 = .ok (.aload_n 0, 1) := by decide +kernel
theorem dX6_ask_2 : decode cX6_ask 2 = .ok (.iload_n 1, 1) := by decide +kernel
theorem dX6_ask_3 : decode cX6_ask 3 = .ok (.invokevirtual 257, 3) := by decide +kernel
theorem dX6_ask_6 : decode cX6_ask 6 = .ok (.ifCond .eq 31, 3) := by decide +kernel
theorem dX6_ask_9 : decode cX6_ask 9 = .ok (.aload_n 0, 1) := by decide +kernel
theorem dX6_ask_10 : decode cX6_ask 10 = .ok (.iload_n 2, 1) := by decide +kernel
theorem dX6_ask_11 : decode cX6_ask 11 = .ok (.invokevirtual 251, 3) := by decide +kernel
theorem dX6_ask_14 : decode cX6_ask 14 = .ok (.ifCond .eq 23, 3) := by decide +kernel
theorem dX6_ask_17 : decode cX6_ask 17 = .ok (.iload_n 3, 1) := by decide +kernel
theorem dX6_ask_18 : decode cX6_ask 18 = .ok (.iconst 0, 1) := by decide +kernel
theorem dX6_ask_19 : decode cX6_ask 19 = .ok (.aload_n 0, 1) := by decide +kernel
theorem dX6_ask_20 : decode cX6_ask 20 = .ok (.getfield 7, 3) := by decide +kernel
theorem dX6_ask_23 : decode cX6_ask 23 = .ok (.iconst 0, 1) := by decide +kernel
theorem dX6_ask_24 : decode cX6_ask 24 = .ok (.iaload, 1) := by decide +kernel
theorem dX6_ask_25 : decode cX6_ask 25 = .ok (.iconst 1, 1) := by decide +kernel
theorem dX6_ask_26 : decode cX6_ask 26 = .ok (.isub, 1) := by decide +kernel
theorem dX6_ask_27 : decode cX6_ask 27 = .ok (.invokestatic 59, 3) := by decide +kernel
theorem dX6_ask_30 : decode cX6_ask 30 = .ok (.ifCond .eq 7, 3) := by decide +kernel
theorem dX6_ask_33 : decode cX6_ask 33 = .ok (.iconst 0, 1) := by decide +kernel
theorem dX6_ask_34 : decode cX6_ask 34 = .ok (.goto 4, 3) := by decide +kernel
theorem dX6_ask_37 : decode cX6_ask 37 = .ok (.iconst 1, 1) := by decide +kernel
theorem dX6_ask_38 : decode cX6_ask 38 = .ok (.putfield 49, 3) := by decide +kernel
theorem dX6_ask_41 : decode cX6_ask 41 = .ok (.aload_n 0, 1) := by decide +kernel
theorem dX6_ask_42 : decode cX6_ask 42 = .ok (.getfield 49, 3) := by decide +kernel
theorem dX6_ask_45 : decode cX6_ask 45 = .ok (.ifCond .le 5, 3) := by decide +kernel
theorem dX6_ask_48 : decode cX6_ask 48 = .ok (.iconst 0, 1) := by decide +kernel
theorem dX6_ask_49 : decode cX6_ask 49 = .ok (.ireturn, 1) := by decide +kernel
theorem dX6_ask_50 : decode cX6_ask 50 = .ok (.aload_n 0, 1) := by decide +kernel
theorem dX6_ask_51 : decode cX6_ask 51 = .ok (.iload_n 1, 1) := by decide +kernel
theorem dX6_ask_52 : decode cX6_ask 52 = .ok (.iload_n 2, 1) := by decide +kernel
theorem dX6_ask_53 : decode cX6_ask 53 = .ok (.invokevirtual 182, 3) := by decide +kernel
theorem dX6_ask_56 : decode cX6_ask 56 = .ok (.istore 4, 2) := by decide +kernel
theorem dX6_ask_58 : decode cX6_ask 58 = .ok (.iload 4, 2) := by decide +kernel
theorem dX6_ask_60 : decode cX6_ask 60 = .ok (.ifCond .ne 6, 3) := by decide +kernel
theorem dX6_ask_63 : decode cX6_ask 63 = .ok (.bipush (-11), 2) := by decide +kernel
theorem dX6_ask_65 : decode cX6_ask 65 = .ok (.ireturn, 1) := by decide +kernel
theorem dX6_ask_66 : decode cX6_ask 66 = .ok (.iload 4, 2) := by decide +kernel
theorem dX6_ask_68 : decode cX6_ask 68 = .ok (.invokestatic 214, 3) := by decide +kernel
theorem dX6_ask_71 : decode cX6_ask 71 = .ok (.ifCond .eq 6, 3) := by decide +kernel
theorem dX6_ask_74 : decode cX6_ask 74 = .ok (.bipush (-12), 2) := by decide +kernel
theorem dX6_ask_76 : decode cX6_ask 76 = .ok (.ireturn, 1) := by decide +kernel
theorem dX6_ask_77 : decode cX6_ask 77 = .ok (.aload_n 0, 1) := by decide +kernel
theorem dX6_ask_78 : decode cX6_ask 78 = .ok (.aload_n 0, 1) := by decide +kernel
theorem dX6_ask_79 : decode cX6_ask 79 = .ok (.getfield 7, 3) := by decide +kernel
theorem dX6_ask_82 : decode cX6_ask 82 = .ok (.invokevirtual 63, 3) := by decide +kernel
theorem dX6_ask_85 : decode cX6_ask 85 = .ok (.aload_n 0, 1) := by decide +kernel
theorem dX6_ask_86 : decode cX6_ask 86 = .ok (.iload_n 1, 1) := by decide +kernel
theorem dX6_ask_87 : decode cX6_ask 87 = .ok (.iload_n 2, 1) := by decide +kernel
theorem dX6_ask_88 : decode cX6_ask 88 = .ok (.iload_n 3, 1) := by decide +kernel
theorem dX6_ask_89 : decode cX6_ask 89 = .ok (.invokevirtual 276, 3) := by decide +kernel
theorem dX6_ask_92 : decode cX6_ask 92 = .ok (.ifCond .eq 7, 3) := by decide +kernel
theorem dX6_ask_95 : decode cX6_ask 95 = .ok (.iconst 1, 1) := by decide +kernel
theorem dX6_ask_96 : decode cX6_ask 96 = .ok (.goto 4, 3) := by decide +kernel
theorem dX6_ask_99 : decode cX6_ask 99 = .ok (.iconst 0, 1) := by decide +kernel
theorem dX6_ask_100 : decode cX6_ask 100 = .ok (.ireturn, 1) := by decide +kernel
theorem dX6_round_0 : decode cX6_round 0 = .ok (.aload_n 0, 1) := by decide +kernel
theorem dX6_round_1 : decode cX6_round 1 = .ok (.iload_n 1, 1) := by decide +kernel
theorem dX6_round_2 : decode cX6_round 2 = .ok (.ifCond .ge 7, 3) := by decide +kernel
theorem dX6_round_5 : decode cX6_round 5 = .ok (.iconst 1, 1) := by decide +kernel
theorem dX6_round_6 : decode cX6_round 6 = .ok (.goto 4, 3) := by decide +kernel
theorem dX6_round_9 : decode cX6_round 9 = .ok (.iconst 0, 1) := by decide +kernel
theorem dX6_round_10 : decode cX6_round 10 = .ok (.putfield 49, 3) := by decide +kernel
theorem dX6_round_13 : decode cX6_round 13 = .ok (.aload_n 0, 1) := by decide +kernel
theorem dX6_round_14 : decode cX6_round 14 = .ok (.getfield 49, 3) := by decide +kernel
theorem dX6_round_17 : decode cX6_round 17 = .ok (.ifCond .le 5, 3) := by decide +kernel
theorem dX6_round_20 : decode cX6_round 20 = .ok (.iconst 0, 1) := by decide +kernel
theorem dX6_round_21 : decode cX6_round 21 = .ok (.ireturn, 1) := by decide +kernel
theorem dX6_round_22 : decode cX6_round 22 = .ok (.aload_n 0, 1) := by decide +kernel
theorem dX6_round_23 : decode cX6_round 23 = .ok (.aload_n 0, 1) := by decide +kernel
theorem dX6_round_24 : decode cX6_round 24 = .ok (.getfield 7, 3) := by decide +kernel
theorem dX6_round_27 : decode cX6_round 27 = .ok (.invokevirtual 63, 3) := by decide +kernel
theorem dX6_round_30 : decode cX6_round 30 = .ok (.aload_n 0, 1) := by decide +kernel
theorem dX6_round_31 : decode cX6_round 31 = .ok (.iload_n 1, 1) := by decide +kernel
theorem dX6_round_32 : decode cX6_round 32 = .ok (.i2l, 1) := by decide +kernel
theorem dX6_round_33 : decode cX6_round 33 = .ok (.putfield 266, 3) := by decide +kernel
theorem dX6_round_36 : decode cX6_round 36 = .ok (.aload_n 0, 1) := by decide +kernel
theorem dX6_round_37 : decode cX6_round 37 = .ok (.invokevirtual 279, 3) := by decide +kernel
theorem dX6_round_40 : decode cX6_round 40 = .ok (.ireturn, 1) := by decide +kernel
theorem dX6_harm_0 : decode cX6_harm 0 = .ok (.aload_n 0, 1) := by decide +kernel
theorem dX6_harm_1 : decode cX6_harm 1 = .ok (.aload_n 0, 1) := by decide +kernel
theorem dX6_harm_2 : decode cX6_harm 2 = .ok (.iload_n 1, 1) := by decide +kernel
theorem dX6_harm_3 : decode cX6_harm 3 = .ok (.invokevirtual 251, 3) := by decide +kernel
theorem dX6_harm_6 : decode cX6_harm 6 = .ok (.ifCond .ne 7, 3) := by decide +kernel
theorem dX6_harm_9 : decode cX6_harm 9 = .ok (.iconst 1, 1) := by decide +kernel
theorem dX6_harm_10 : decode cX6_harm 10 = .ok (.goto 26, 3) := by decide +kernel
theorem dX6_harm_13 : decode cX6_harm 13 = .ok (.iload_n 2, 1) := by decide +kernel
theorem dX6_harm_14 : decode cX6_harm 14 = .ok (.iconst 1, 1) := by decide +kernel
theorem dX6_harm_15 : decode cX6_harm 15 = .ok (.iconst 1, 1) := by decide +kernel
theorem dX6_harm_16 : decode cX6_harm 16 = .ok (.aload_n 0, 1) := by decide +kernel
theorem dX6_harm_17 : decode cX6_harm 17 = .ok (.getfield 7, 3) := by decide +kernel
theorem dX6_harm_20 : decode cX6_harm 20 = .ok (.iconst 0, 1) := by decide +kernel
theorem dX6_harm_21 : decode cX6_harm 21 = .ok (.iaload, 1) := by decide +kernel
theorem dX6_harm_22 : decode cX6_harm 22 = .ok (.ishl, 1) := by decide +kernel
theorem dX6_harm_23 : decode cX6_harm 23 = .ok (.iconst 1, 1) := by decide +kernel
theorem dX6_harm_24 : decode cX6_harm 24 = .ok (.isub, 1) := by decide +kernel
theorem dX6_harm_25 : decode cX6_harm 25 = .ok (.invokestatic 59, 3) := by decide +kernel
theorem dX6_harm_28 : decode cX6_harm 28 = .ok (.ifCond .eq 7, 3) := by decide +kernel
theorem dX6_harm_31 : decode cX6_harm 31 = .ok (.iconst 0, 1) := by decide +kernel
theorem dX6_harm_32 : decode cX6_harm 32 = .ok (.goto 4, 3) := by decide +kernel
theorem dX6_harm_35 : decode cX6_harm 35 = .ok (.iconst 2, 1) := by decide +kernel
theorem dX6_harm_36 : decode cX6_harm 36 = .ok (.putfield 49, 3) := by decide +kernel
theorem dX6_harm_39 : decode cX6_harm 39 = .ok (.aload_n 0, 1) := by decide +kernel
theorem dX6_harm_40 : decode cX6_harm 40 = .ok (.getfield 49, 3) := by decide +kernel
theorem dX6_harm_43 : decode cX6_harm 43 = .ok (.ifCond .le 5, 3) := by decide +kernel
theorem dX6_harm_46 : decode cX6_harm 46 = .ok (.iconst 0, 1) := by decide +kernel
theorem dX6_harm_47 : decode cX6_harm 47 = .ok (.ireturn, 1) := by decide +kernel
theorem dX6_harm_48 : decode cX6_harm 48 = .ok (.aload_n 0, 1) := by decide +kernel
theorem dX6_harm_49 : decode cX6_harm 49 = .ok (.aload_n 0, 1) := by decide +kernel
theorem dX6_harm_50 : decode cX6_harm 50 = .ok (.getfield 7, 3) := by decide +kernel
theorem dX6_harm_53 : decode cX6_harm 53 = .ok (.invokevirtual 63, 3) := by decide +kernel
theorem dX6_harm_56 : decode cX6_harm 56 = .ok (.aload_n 0, 1) := by decide +kernel
theorem dX6_harm_57 : decode cX6_harm 57 = .ok (.iload_n 1, 1) := by decide +kernel
theorem dX6_harm_58 : decode cX6_harm 58 = .ok (.iconst 3, 1) := by decide +kernel
theorem dX6_harm_59 : decode cX6_harm 59 = .ok (.invokevirtual 223, 3) := by decide +kernel
theorem dX6_harm_62 : decode cX6_harm 62 = .ok (.istore_n 3, 1) := by decide +kernel
theorem dX6_harm_63 : decode cX6_harm 63 = .ok (.iconst 0, 1) := by decide +kernel
theorem dX6_harm_64 : decode cX6_harm 64 = .ok (.istore 4, 2) := by decide +kernel
theorem dX6_harm_66 : decode cX6_harm 66 = .ok (.iload 4, 2) := by decide +kernel
theorem dX6_harm_68 : decode cX6_harm 68 = .ok (.aload_n 0, 1) := by decide +kernel
theorem dX6_harm_69 : decode cX6_harm 69 = .ok (.invokevirtual 169, 3) := by decide +kernel
theorem dX6_harm_72 : decode cX6_harm 72 = .ok (.if_icmp .ge 35, 3) := by decide +kernel
theorem dX6_harm_75 : decode cX6_harm 75 = .ok (.aload_n 0, 1) := by decide +kernel
theorem dX6_harm_76 : decode cX6_harm 76 = .ok (.iload 4, 2) := by decide +kernel
theorem dX6_harm_78 : decode cX6_harm 78 = .ok (.iload_n 1, 1) := by decide +kernel
theorem dX6_harm_79 : decode cX6_harm 79 = .ok (.invokevirtual 182, 3) := by decide +kernel
theorem dX6_harm_82 : decode cX6_harm 82 = .ok (.ifCond .eq 19, 3) := by decide +kernel
theorem dX6_harm_85 : decode cX6_harm 85 = .ok (.aload_n 0, 1) := by decide +kernel
theorem dX6_harm_86 : decode cX6_harm 86 = .ok (.iload 4, 2) := by decide +kernel
theorem dX6_harm_88 : decode cX6_harm 88 = .ok (.iload_n 1, 1) := by decide +kernel
theorem dX6_harm_89 : decode cX6_harm 89 = .ok (.aload_n 0, 1) := by decide +kernel
theorem dX6_harm_90 : decode cX6_harm 90 = .ok (.iload 4, 2) := by decide +kernel
theorem dX6_harm_92 : decode cX6_harm 92 = .ok (.iload_n 1, 1) := by decide +kernel
theorem dX6_harm_93 : decode cX6_harm 93 = .ok (.invokevirtual 182, 3) := by decide +kernel
theorem dX6_harm_96 : decode cX6_harm 96 = .ok (.iload_n 2, 1) := by decide +kernel
theorem dX6_harm_97 : decode cX6_harm 97 = .ok (.ior, 1) := by decide +kernel
theorem dX6_harm_98 : decode cX6_harm 98 = .ok (.invokevirtual 172, 3) := by decide +kernel
theorem dX6_harm_101 : decode cX6_harm 101 = .ok (.iinc 4 1, 3) := by decide +kernel
theorem dX6_harm_104 : decode cX6_harm 104 = .ok (.goto (-38), 3) := by decide +kernel
theorem dX6_harm_107 : decode cX6_harm 107 = .ok (.iload_n 3, 1) := by decide +kernel
theorem dX6_harm_108 : decode cX6_harm 108 = .ok (.ireturn, 1) := by decide +kernel
theorem dX6_repair_0 : decode cX6_repair 0 = .ok (.aload_n 0, 1) := by decide +kernel
theorem dX6_repair_1 : decode cX6_repair 1 = .ok (.iload_n 1, 1) := by decide +kernel
theorem dX6_repair_2 : decode cX6_repair 2 = .ok (.iload_n 2, 1) := by decide +kernel
theorem dX6_repair_3 : decode cX6_repair 3 = .ok (.invokevirtual 260, 3) := by decide +kernel
theorem dX6_repair_6 : decode cX6_repair 6 = .ok (.ifCond .ne 5, 3) := by decide +kernel
theorem dX6_repair_9 : decode cX6_repair 9 = .ok (.iconst 0, 1) := by decide +kernel
theorem dX6_repair_10 : decode cX6_repair 10 = .ok (.ireturn, 1) := by decide +kernel
theorem dX6_repair_11 : decode cX6_repair 11 = .ok (.aload_n 0, 1) := by decide +kernel
theorem dX6_repair_12 : decode cX6_repair 12 = .ok (.iload_n 1, 1) := by decide +kernel
theorem dX6_repair_13 : decode cX6_repair 13 = .ok (.iload_n 2, 1) := by decide +kernel
theorem dX6_repair_14 : decode cX6_repair 14 = .ok (.invokevirtual 182, 3) := by decide +kernel
theorem dX6_repair_17 : decode cX6_repair 17 = .ok (.istore_n 3, 1) := by decide +kernel
theorem dX6_repair_18 : decode cX6_repair 18 = .ok (.aload_n 0, 1) := by decide +kernel
theorem dX6_repair_19 : decode cX6_repair 19 = .ok (.iload_n 1, 1) := by decide +kernel
theorem dX6_repair_20 : decode cX6_repair 20 = .ok (.iload_n 2, 1) := by decide +kernel
theorem dX6_repair_21 : decode cX6_repair 21 = .ok (.invokevirtual 285, 3) := by decide +kernel
theorem dX6_repair_24 : decode cX6_repair 24 = .ok (.istore 4, 2) := by decide +kernel
theorem dX6_repair_26 : decode cX6_repair 26 = .ok (.iload_n 3, 1) := by decide +kernel
theorem dX6_repair_27 : decode cX6_repair 27 = .ok (.ifCond .ne 6, 3) := by decide +kernel
theorem dX6_repair_30 : decode cX6_repair 30 = .ok (.bipush (-11), 2) := by decide +kernel
theorem dX6_repair_32 : decode cX6_repair 32 = .ok (.ireturn, 1) := by decide +kernel
theorem dX6_repair_33 : decode cX6_repair 33 = .ok (.iload_n 3, 1) := by decide +kernel
theorem dX6_repair_34 : decode cX6_repair 34 = .ok (.invokestatic 214, 3) := by decide +kernel
theorem dX6_repair_37 : decode cX6_repair 37 = .ok (.ifCond .ne 6, 3) := by decide +kernel
theorem dX6_repair_40 : decode cX6_repair 40 = .ok (.bipush (-13), 2) := by decide +kernel
theorem dX6_repair_42 : decode cX6_repair 42 = .ok (.ireturn, 1) := by decide +kernel
theorem dX6_repair_43 : decode cX6_repair 43 = .ok (.iload 4, 2) := by decide +kernel
theorem dX6_repair_45 : decode cX6_repair 45 = .ok (.ifCond .ne 6, 3) := by decide +kernel
theorem dX6_repair_48 : decode cX6_repair 48 = .ok (.bipush (-14), 2) := by decide +kernel
theorem dX6_repair_50 : decode cX6_repair 50 = .ok (.ireturn, 1) := by decide +kernel
theorem dX6_repair_51 : decode cX6_repair 51 = .ok (.aload_n 0, 1) := by decide +kernel
theorem dX6_repair_52 : decode cX6_repair 52 = .ok (.aload_n 0, 1) := by decide +kernel
theorem dX6_repair_53 : decode cX6_repair 53 = .ok (.getfield 7, 3) := by decide +kernel
theorem dX6_repair_56 : decode cX6_repair 56 = .ok (.invokevirtual 63, 3) := by decide +kernel
theorem dX6_repair_59 : decode cX6_repair 59 = .ok (.aload_n 0, 1) := by decide +kernel
theorem dX6_repair_60 : decode cX6_repair 60 = .ok (.iload_n 1, 1) := by decide +kernel
theorem dX6_repair_61 : decode cX6_repair 61 = .ok (.iload_n 2, 1) := by decide +kernel
theorem dX6_repair_62 : decode cX6_repair 62 = .ok (.invokevirtual 291, 3) := by decide +kernel
theorem dX6_repair_65 : decode cX6_repair 65 = .ok (.istore 5, 2) := by decide +kernel
theorem dX6_repair_67 : decode cX6_repair 67 = .ok (.aload_n 0, 1) := by decide +kernel
theorem dX6_repair_68 : decode cX6_repair 68 = .ok (.iload_n 1, 1) := by decide +kernel
theorem dX6_repair_69 : decode cX6_repair 69 = .ok (.iload_n 2, 1) := by decide +kernel
theorem dX6_repair_70 : decode cX6_repair 70 = .ok (.iload 5, 2) := by decide +kernel
theorem dX6_repair_72 : decode cX6_repair 72 = .ok (.invokevirtual 172, 3) := by decide +kernel
theorem dX6_repair_75 : decode cX6_repair 75 = .ok (.aload_n 0, 1) := by decide +kernel
theorem dX6_repair_76 : decode cX6_repair 76 = .ok (.getfield 7, 3) := by decide +kernel
theorem dX6_repair_79 : decode cX6_repair 79 = .ok (.iconst 3, 1) := by decide +kernel
theorem dX6_repair_80 : decode cX6_repair 80 = .ok (.dup2, 1) := by decide +kernel
theorem dX6_repair_81 : decode cX6_repair 81 = .ok (.iaload, 1) := by decide +kernel
theorem dX6_repair_82 : decode cX6_repair 82 = .ok (.iconst 1, 1) := by decide +kernel
theorem dX6_repair_83 : decode cX6_repair 83 = .ok (.iadd, 1) := by decide +kernel
theorem dX6_repair_84 : decode cX6_repair 84 = .ok (.iastore, 1) := by decide +kernel
theorem dX6_repair_85 : decode cX6_repair 85 = .ok (.iload 4, 2) := by decide +kernel
theorem dX6_repair_87 : decode cX6_repair 87 = .ok (.invokestatic 229, 3) := by decide +kernel
theorem dX6_repair_90 : decode cX6_repair 90 = .ok (.ireturn, 1) := by decide +kernel
theorem dX6_wave_0 : decode cX6_wave 0 = .ok (.aload_n 0, 1) := by decide +kernel
theorem dX6_wave_1 : decode cX6_wave 1 = .ok (.iconst 0, 1) := by decide +kernel
theorem dX6_wave_2 : decode cX6_wave 2 = .ok (.putfield 49, 3) := by decide +kernel
theorem dX6_wave_5 : decode cX6_wave 5 = .ok (.aload_n 0, 1) := by decide +kernel
theorem dX6_wave_6 : decode cX6_wave 6 = .ok (.aload_n 0, 1) := by decide +kernel
theorem dX6_wave_7 : decode cX6_wave 7 = .ok (.getfield 7, 3) := by decide +kernel
theorem dX6_wave_10 : decode cX6_wave 10 = .ok (.invokevirtual 63, 3) := by decide +kernel
theorem dX6_wave_13 : decode cX6_wave 13 = .ok (.aload_n 0, 1) := by decide +kernel
theorem dX6_wave_14 : decode cX6_wave 14 = .ok (.invokevirtual 297, 3) := by decide +kernel
theorem dX6_wave_17 : decode cX6_wave 17 = .ok (.ireturn, 1) := by decide +kernel
theorem dX6_spread_0 : decode cX6_spread 0 = .ok (.aload_n 0, 1) := by decide +kernel
theorem dX6_spread_1 : decode cX6_spread 1 = .ok (.iconst 0, 1) := by decide +kernel
theorem dX6_spread_2 : decode cX6_spread 2 = .ok (.putfield 49, 3) := by decide +kernel
theorem dX6_spread_5 : decode cX6_spread 5 = .ok (.aload_n 0, 1) := by decide +kernel
theorem dX6_spread_6 : decode cX6_spread 6 = .ok (.aload_n 0, 1) := by decide +kernel
theorem dX6_spread_7 : decode cX6_spread 7 = .ok (.getfield 7, 3) := by decide +kernel
theorem dX6_spread_10 : decode cX6_spread 10 = .ok (.invokevirtual 63, 3) := by decide +kernel
theorem dX6_spread_13 : decode cX6_spread 13 = .ok (.aload_n 0, 1) := by decide +kernel
theorem dX6_spread_14 : decode cX6_spread 14 = .ok (.invokevirtual 315, 3) := by decide +kernel
theorem dX6_spread_17 : decode cX6_spread 17 = .ok (.ireturn, 1) := by decide +kernel
theorem dX6_join_0 : decode cX6_join 0 = .ok (.aload_n 0, 1) := by decide +kernel
theorem dX6_join_1 : decode cX6_join 1 = .ok (.iload_n 1, 1) := by decide +kernel
theorem dX6_join_2 : decode cX6_join 2 = .ok (.iconst 1, 1) := by decide +kernel
theorem dX6_join_3 : decode cX6_join 3 = .ok (.bipush 20, 2) := by decide +kernel
theorem dX6_join_5 : decode cX6_join 5 = .ok (.invokestatic 59, 3) := by decide +kernel
theorem dX6_join_8 : decode cX6_join 8 = .ok (.ifCond .eq 7, 3) := by decide +kernel
theorem dX6_join_11 : decode cX6_join 11 = .ok (.iconst 0, 1) := by decide +kernel
theorem dX6_join_12 : decode cX6_join 12 = .ok (.goto 4, 3) := by decide +kernel
theorem dX6_join_15 : decode cX6_join 15 = .ok (.iconst 1, 1) := by decide +kernel
theorem dX6_join_16 : decode cX6_join 16 = .ok (.putfield 49, 3) := by decide +kernel
theorem dX6_join_19 : decode cX6_join 19 = .ok (.aload_n 0, 1) := by decide +kernel
theorem dX6_join_20 : decode cX6_join 20 = .ok (.getfield 49, 3) := by decide +kernel
theorem dX6_join_23 : decode cX6_join 23 = .ok (.ifCond .le 5, 3) := by decide +kernel
theorem dX6_join_26 : decode cX6_join 26 = .ok (.iconst 0, 1) := by decide +kernel
theorem dX6_join_27 : decode cX6_join 27 = .ok (.ireturn, 1) := by decide +kernel
theorem dX6_join_28 : decode cX6_join 28 = .ok (.aload_n 0, 1) := by decide +kernel
theorem dX6_join_29 : decode cX6_join 29 = .ok (.invokevirtual 67, 3) := by decide +kernel
theorem dX6_join_32 : decode cX6_join 32 = .ok (.istore_n 2, 1) := by decide +kernel
theorem dX6_join_33 : decode cX6_join 33 = .ok (.iload_n 2, 1) := by decide +kernel
theorem dX6_join_34 : decode cX6_join 34 = .ok (.bipush 10, 2) := by decide +kernel
theorem dX6_join_36 : decode cX6_join 36 = .ok (.if_icmp .ne 6, 3) := by decide +kernel
theorem dX6_join_39 : decode cX6_join 39 = .ok (.bipush (-15), 2) := by decide +kernel
theorem dX6_join_41 : decode cX6_join 41 = .ok (.ireturn, 1) := by decide +kernel
theorem dX6_join_42 : decode cX6_join 42 = .ok (.aload_n 0, 1) := by decide +kernel
theorem dX6_join_43 : decode cX6_join 43 = .ok (.aload_n 0, 1) := by decide +kernel
theorem dX6_join_44 : decode cX6_join 44 = .ok (.getfield 7, 3) := by decide +kernel
theorem dX6_join_47 : decode cX6_join 47 = .ok (.invokevirtual 63, 3) := by decide +kernel
theorem dX6_join_50 : decode cX6_join 50 = .ok (.iconst 0, 1) := by decide +kernel
theorem dX6_join_51 : decode cX6_join 51 = .ok (.istore_n 3, 1) := by decide +kernel
theorem dX6_join_52 : decode cX6_join 52 = .ok (.iload_n 3, 1) := by decide +kernel
theorem dX6_join_53 : decode cX6_join 53 = .ok (.bipush 12, 2) := by decide +kernel
theorem dX6_join_55 : decode cX6_join 55 = .ok (.if_icmp .ge 16, 3) := by decide +kernel
theorem dX6_join_58 : decode cX6_join 58 = .ok (.aload_n 0, 1) := by decide +kernel
theorem dX6_join_59 : decode cX6_join 59 = .ok (.iload_n 2, 1) := by decide +kernel
theorem dX6_join_60 : decode cX6_join 60 = .ok (.iload_n 3, 1) := by decide +kernel
theorem dX6_join_61 : decode cX6_join 61 = .ok (.iconst 0, 1) := by decide +kernel
theorem dX6_join_62 : decode cX6_join 62 = .ok (.invokevirtual 45, 3) := by decide +kernel
theorem dX6_join_65 : decode cX6_join 65 = .ok (.iinc 3 1, 3) := by decide +kernel
theorem dX6_join_68 : decode cX6_join 68 = .ok (.goto (-16), 3) := by decide +kernel
theorem dX6_join_71 : decode cX6_join 71 = .ok (.aload_n 0, 1) := by decide +kernel
theorem dX6_join_72 : decode cX6_join 72 = .ok (.iload_n 2, 1) := by decide +kernel
theorem dX6_join_73 : decode cX6_join 73 = .ok (.iconst 0, 1) := by decide +kernel
theorem dX6_join_74 : decode cX6_join 74 = .ok (.iload_n 1, 1) := by decide +kernel
theorem dX6_join_75 : decode cX6_join 75 = .ok (.invokevirtual 45, 3) := by decide +kernel
theorem dX6_join_78 : decode cX6_join 78 = .ok (.iconst 0, 1) := by decide +kernel
theorem dX6_join_79 : decode cX6_join 79 = .ok (.istore_n 3, 1) := by decide +kernel
theorem dX6_join_80 : decode cX6_join 80 = .ok (.iload_n 3, 1) := by decide +kernel
theorem dX6_join_81 : decode cX6_join 81 = .ok (.aload_n 0, 1) := by decide +kernel
theorem dX6_join_82 : decode cX6_join 82 = .ok (.invokevirtual 169, 3) := by decide +kernel
theorem dX6_join_85 : decode cX6_join 85 = .ok (.if_icmp .ge 16, 3) := by decide +kernel
theorem dX6_join_88 : decode cX6_join 88 = .ok (.aload_n 0, 1) := by decide +kernel
theorem dX6_join_89 : decode cX6_join 89 = .ok (.iload_n 3, 1) := by decide +kernel
theorem dX6_join_90 : decode cX6_join 90 = .ok (.iload_n 2, 1) := by decide +kernel
theorem dX6_join_91 : decode cX6_join 91 = .ok (.iconst 0, 1) := by decide +kernel
theorem dX6_join_92 : decode cX6_join 92 = .ok (.invokevirtual 172, 3) := by decide +kernel
theorem dX6_join_95 : decode cX6_join 95 = .ok (.iinc 3 1, 3) := by decide +kernel
theorem dX6_join_98 : decode cX6_join 98 = .ok (.goto (-18), 3) := by decide +kernel
theorem dX6_join_101 : decode cX6_join 101 = .ok (.aload_n 0, 1) := by decide +kernel
theorem dX6_join_102 : decode cX6_join 102 = .ok (.getfield 7, 3) := by decide +kernel
theorem dX6_join_105 : decode cX6_join 105 = .ok (.iconst 1, 1) := by decide +kernel
theorem dX6_join_106 : decode cX6_join 106 = .ok (.dup2, 1) := by decide +kernel
theorem dX6_join_107 : decode cX6_join 107 = .ok (.iaload, 1) := by decide +kernel
theorem dX6_join_108 : decode cX6_join 108 = .ok (.iconst 1, 1) := by decide +kernel
theorem dX6_join_109 : decode cX6_join 109 = .ok (.iadd, 1) := by decide +kernel
theorem dX6_join_110 : decode cX6_join 110 = .ok (.iastore, 1) := by decide +kernel
theorem dX6_join_111 : decode cX6_join 111 = .ok (.iload_n 2, 1) := by decide +kernel
theorem dX6_join_112 : decode cX6_join 112 = .ok (.ireturn, 1) := by decide +kernel
theorem dX6_meet_0 : decode cX6_meet 0 = .ok (.aload_n 0, 1) := by decide +kernel
theorem dX6_meet_1 : decode cX6_meet 1 = .ok (.aload_n 0, 1) := by decide +kernel
theorem dX6_meet_2 : decode cX6_meet 2 = .ok (.iload_n 1, 1) := by decide +kernel
theorem dX6_meet_3 : decode cX6_meet 3 = .ok (.invokevirtual 251, 3) := by decide +kernel
theorem dX6_meet_6 : decode cX6_meet 6 = .ok (.ifCond .eq 11, 3) := by decide +kernel
theorem dX6_meet_9 : decode cX6_meet 9 = .ok (.aload_n 0, 1) := by decide +kernel
theorem dX6_meet_10 : decode cX6_meet 10 = .ok (.iload_n 2, 1) := by decide +kernel
theorem dX6_meet_11 : decode cX6_meet 11 = .ok (.invokevirtual 251, 3) := by decide +kernel
theorem dX6_meet_14 : decode cX6_meet 14 = .ok (.ifCond .ne 7, 3) := by decide +kernel
theorem dX6_meet_17 : decode cX6_meet 17 = .ok (.iconst 1, 1) := by decide +kernel
theorem dX6_meet_18 : decode cX6_meet 18 = .ok (.goto 13, 3) := by decide +kernel
theorem dX6_meet_21 : decode cX6_meet 21 = .ok (.iload_n 1, 1) := by decide +kernel
theorem dX6_meet_22 : decode cX6_meet 22 = .ok (.iload_n 2, 1) := by decide +kernel
theorem dX6_meet_23 : decode cX6_meet 23 = .ok (.if_icmp .ne 7, 3) := by decide +kernel
theorem dX6_meet_26 : decode cX6_meet 26 = .ok (.iconst 2, 1) := by decide +kernel
theorem dX6_meet_27 : decode cX6_meet 27 = .ok (.goto 4, 3) := by decide +kernel
theorem dX6_meet_30 : decode cX6_meet 30 = .ok (.iconst 0, 1) := by decide +kernel
theorem dX6_meet_31 : decode cX6_meet 31 = .ok (.putfield 49, 3) := by decide +kernel
theorem dX6_meet_34 : decode cX6_meet 34 = .ok (.aload_n 0, 1) := by decide +kernel
theorem dX6_meet_35 : decode cX6_meet 35 = .ok (.getfield 49, 3) := by decide +kernel
theorem dX6_meet_38 : decode cX6_meet 38 = .ok (.ifCond .le 5, 3) := by decide +kernel
theorem dX6_meet_41 : decode cX6_meet 41 = .ok (.iconst 0, 1) := by decide +kernel
theorem dX6_meet_42 : decode cX6_meet 42 = .ok (.ireturn, 1) := by decide +kernel
theorem dX6_meet_43 : decode cX6_meet 43 = .ok (.aload_n 0, 1) := by decide +kernel
theorem dX6_meet_44 : decode cX6_meet 44 = .ok (.iload_n 1, 1) := by decide +kernel
theorem dX6_meet_45 : decode cX6_meet 45 = .ok (.iload_n 2, 1) := by decide +kernel
theorem dX6_meet_46 : decode cX6_meet 46 = .ok (.invokevirtual 161, 3) := by decide +kernel
theorem dX6_meet_49 : decode cX6_meet 49 = .ok (.ifCond .eq 6, 3) := by decide +kernel
theorem dX6_meet_52 : decode cX6_meet 52 = .ok (.bipush (-16), 2) := by decide +kernel
theorem dX6_meet_54 : decode cX6_meet 54 = .ok (.ireturn, 1) := by decide +kernel
theorem dX6_meet_55 : decode cX6_meet 55 = .ok (.aload_n 0, 1) := by decide +kernel
theorem dX6_meet_56 : decode cX6_meet 56 = .ok (.aload_n 0, 1) := by decide +kernel
theorem dX6_meet_57 : decode cX6_meet 57 = .ok (.getfield 7, 3) := by decide +kernel
theorem dX6_meet_60 : decode cX6_meet 60 = .ok (.invokevirtual 63, 3) := by decide +kernel
theorem dX6_meet_63 : decode cX6_meet 63 = .ok (.aload_n 0, 1) := by decide +kernel
theorem dX6_meet_64 : decode cX6_meet 64 = .ok (.iload_n 1, 1) := by decide +kernel
theorem dX6_meet_65 : decode cX6_meet 65 = .ok (.iload_n 2, 1) := by decide +kernel
theorem dX6_meet_66 : decode cX6_meet 66 = .ok (.invokevirtual 165, 3) := by decide +kernel
theorem dX6_meet_69 : decode cX6_meet 69 = .ok (.aload_n 0, 1) := by decide +kernel
theorem dX6_meet_70 : decode cX6_meet 70 = .ok (.invokevirtual 248, 3) := by decide +kernel
theorem dX6_meet_73 : decode cX6_meet 73 = .ok (.ireturn, 1) := by decide +kernel
theorem dX6_without_0 : decode cX6_without 0 = .ok (.iconst 1, 1) := by decide +kernel
theorem dX6_without_1 : decode cX6_without 1 = .ok (.iload_n 1, 1) := by decide +kernel
theorem dX6_without_2 : decode cX6_without 2 = .ok (.ishl, 1) := by decide +kernel
theorem dX6_without_3 : decode cX6_without 3 = .ok (.iconst 1, 1) := by decide +kernel
theorem dX6_without_4 : decode cX6_without 4 = .ok (.isub, 1) := by decide +kernel
theorem dX6_without_5 : decode cX6_without 5 = .ok (.istore_n 2, 1) := by decide +kernel
theorem dX6_without_6 : decode cX6_without 6 = .ok (.iload_n 0, 1) := by decide +kernel
theorem dX6_without_7 : decode cX6_without 7 = .ok (.iload_n 2, 1) := by decide +kernel
theorem dX6_without_8 : decode cX6_without 8 = .ok (.iand, 1) := by decide +kernel
theorem dX6_without_9 : decode cX6_without 9 = .ok (.iload_n 0, 1) := by decide +kernel
theorem dX6_without_10 : decode cX6_without 10 = .ok (.iconst 1, 1) := by decide +kernel
theorem dX6_without_11 : decode cX6_without 11 = .ok (.ishr, 1) := by decide +kernel
theorem dX6_without_12 : decode cX6_without 12 = .ok (.iload_n 2, 1) := by decide +kernel
theorem dX6_without_13 : decode cX6_without 13 = .ok (.iconst (-1), 1) := by decide +kernel
theorem dX6_without_14 : decode cX6_without 14 = .ok (.ixor, 1) := by decide +kernel
theorem dX6_without_15 : decode cX6_without 15 = .ok (.iand, 1) := by decide +kernel
theorem dX6_without_16 : decode cX6_without 16 = .ok (.ior, 1) := by decide +kernel
theorem dX6_without_17 : decode cX6_without 17 = .ok (.ireturn, 1) := by decide +kernel
theorem dX6_leave_0 : decode cX6_leave 0 = .ok (.aload_n 0, 1) := by decide +kernel
theorem dX6_leave_1 : decode cX6_leave 1 = .ok (.aload_n 0, 1) := by decide +kernel
theorem dX6_leave_2 : decode cX6_leave 2 = .ok (.iload_n 1, 1) := by decide +kernel
theorem dX6_leave_3 : decode cX6_leave 3 = .ok (.invokevirtual 251, 3) := by decide +kernel
theorem dX6_leave_6 : decode cX6_leave 6 = .ok (.ifCond .eq 7, 3) := by decide +kernel
theorem dX6_leave_9 : decode cX6_leave 9 = .ok (.iconst 0, 1) := by decide +kernel
theorem dX6_leave_10 : decode cX6_leave 10 = .ok (.goto 4, 3) := by decide +kernel
theorem dX6_leave_13 : decode cX6_leave 13 = .ok (.iconst 1, 1) := by decide +kernel
theorem dX6_leave_14 : decode cX6_leave 14 = .ok (.putfield 49, 3) := by decide +kernel
theorem dX6_leave_17 : decode cX6_leave 17 = .ok (.aload_n 0, 1) := by decide +kernel
theorem dX6_leave_18 : decode cX6_leave 18 = .ok (.getfield 49, 3) := by decide +kernel
theorem dX6_leave_21 : decode cX6_leave 21 = .ok (.ifCond .le 5, 3) := by decide +kernel
theorem dX6_leave_24 : decode cX6_leave 24 = .ok (.iconst 0, 1) := by decide +kernel
theorem dX6_leave_25 : decode cX6_leave 25 = .ok (.ireturn, 1) := by decide +kernel
theorem dX6_leave_26 : decode cX6_leave 26 = .ok (.aload_n 0, 1) := by decide +kernel
theorem dX6_leave_27 : decode cX6_leave 27 = .ok (.invokevirtual 67, 3) := by decide +kernel
theorem dX6_leave_30 : decode cX6_leave 30 = .ok (.iconst 2, 1) := by decide +kernel
theorem dX6_leave_31 : decode cX6_leave 31 = .ok (.if_icmp .ne 6, 3) := by decide +kernel
theorem dX6_leave_34 : decode cX6_leave 34 = .ok (.bipush (-17), 2) := by decide +kernel
theorem dX6_leave_36 : decode cX6_leave 36 = .ok (.ireturn, 1) := by decide +kernel
theorem dX6_leave_37 : decode cX6_leave 37 = .ok (.aload_n 0, 1) := by decide +kernel
theorem dX6_leave_38 : decode cX6_leave 38 = .ok (.aload_n 0, 1) := by decide +kernel
theorem dX6_leave_39 : decode cX6_leave 39 = .ok (.getfield 7, 3) := by decide +kernel
theorem dX6_leave_42 : decode cX6_leave 42 = .ok (.invokevirtual 63, 3) := by decide +kernel
theorem dX6_leave_45 : decode cX6_leave 45 = .ok (.aload_n 0, 1) := by decide +kernel
theorem dX6_leave_46 : decode cX6_leave 46 = .ok (.iload_n 1, 1) := by decide +kernel
theorem dX6_leave_47 : decode cX6_leave 47 = .ok (.iconst 0, 1) := by decide +kernel
theorem dX6_leave_48 : decode cX6_leave 48 = .ok (.invokevirtual 223, 3) := by decide +kernel
theorem dX6_leave_51 : decode cX6_leave 51 = .ok (.istore_n 2, 1) := by decide +kernel
theorem dX6_leave_52 : decode cX6_leave 52 = .ok (.iconst 5, 1) := by decide +kernel
theorem dX6_leave_53 : decode cX6_leave 53 = .ok (.bipush 12, 2) := by decide +kernel
theorem dX6_leave_55 : decode cX6_leave 55 = .ok (.iload_n 1, 1) := by decide +kernel
theorem dX6_leave_56 : decode cX6_leave 56 = .ok (.imul, 1) := by decide +kernel
theorem dX6_leave_57 : decode cX6_leave 57 = .ok (.iadd, 1) := by decide +kernel
theorem dX6_leave_58 : decode cX6_leave 58 = .ok (.istore_n 3, 1) := by decide +kernel
theorem dX6_leave_59 : decode cX6_leave 59 = .ok (.iload_n 3, 1) := by decide +kernel
theorem dX6_leave_60 : decode cX6_leave 60 = .ok (.bipush 113, 2) := by decide +kernel
theorem dX6_leave_62 : decode cX6_leave 62 = .ok (.if_icmp .ge 24, 3) := by decide +kernel
theorem dX6_leave_65 : decode cX6_leave 65 = .ok (.aload_n 0, 1) := by decide +kernel
theorem dX6_leave_66 : decode cX6_leave 66 = .ok (.getfield 7, 3) := by decide +kernel
theorem dX6_leave_69 : decode cX6_leave 69 = .ok (.iload_n 3, 1) := by decide +kernel
theorem dX6_leave_70 : decode cX6_leave 70 = .ok (.aload_n 0, 1) := by decide +kernel
theorem dX6_leave_71 : decode cX6_leave 71 = .ok (.getfield 7, 3) := by decide +kernel
theorem dX6_leave_74 : decode cX6_leave 74 = .ok (.iload_n 3, 1) := by decide +kernel
theorem dX6_leave_75 : decode cX6_leave 75 = .ok (.bipush 12, 2) := by decide +kernel
theorem dX6_leave_77 : decode cX6_leave 77 = .ok (.iadd, 1) := by decide +kernel
theorem dX6_leave_78 : decode cX6_leave 78 = .ok (.iaload, 1) := by decide +kernel
theorem dX6_leave_79 : decode cX6_leave 79 = .ok (.iastore, 1) := by decide +kernel
theorem dX6_leave_80 : decode cX6_leave 80 = .ok (.iinc 3 1, 3) := by decide +kernel
theorem dX6_leave_83 : decode cX6_leave 83 = .ok (.goto (-24), 3) := by decide +kernel
theorem dX6_leave_86 : decode cX6_leave 86 = .ok (.iconst 0, 1) := by decide +kernel
theorem dX6_leave_87 : decode cX6_leave 87 = .ok (.istore_n 3, 1) := by decide +kernel
theorem dX6_leave_88 : decode cX6_leave 88 = .ok (.iload_n 3, 1) := by decide +kernel
theorem dX6_leave_89 : decode cX6_leave 89 = .ok (.aload_n 0, 1) := by decide +kernel
theorem dX6_leave_90 : decode cX6_leave 90 = .ok (.invokevirtual 169, 3) := by decide +kernel
theorem dX6_leave_93 : decode cX6_leave 93 = .ok (.if_icmp .ge 53, 3) := by decide +kernel
theorem dX6_leave_96 : decode cX6_leave 96 = .ok (.iload_n 1, 1) := by decide +kernel
theorem dX6_leave_97 : decode cX6_leave 97 = .ok (.istore 4, 2) := by decide +kernel
theorem dX6_leave_99 : decode cX6_leave 99 = .ok (.iload 4, 2) := by decide +kernel
theorem dX6_leave_101 : decode cX6_leave 101 = .ok (.bipush 9, 2) := by decide +kernel
theorem dX6_leave_103 : decode cX6_leave 103 = .ok (.if_icmp .ge 29, 3) := by decide +kernel
theorem dX6_leave_106 : decode cX6_leave 106 = .ok (.aload_n 0, 1) := by decide +kernel
theorem dX6_leave_107 : decode cX6_leave 107 = .ok (.iload_n 3, 1) := by decide +kernel
theorem dX6_leave_108 : decode cX6_leave 108 = .ok (.iload 4, 2) := by decide +kernel
theorem dX6_leave_110 : decode cX6_leave 110 = .ok (.iconst 1, 1) := by decide +kernel
theorem dX6_leave_111 : decode cX6_leave 111 = .ok (.iadd, 1) := by decide +kernel
theorem dX6_leave_112 : decode cX6_leave 112 = .ok (.invokevirtual 182, 3) := by decide +kernel
theorem dX6_leave_115 : decode cX6_leave 115 = .ok (.istore 5, 2) := by decide +kernel
theorem dX6_leave_117 : decode cX6_leave 117 = .ok (.aload_n 0, 1) := by decide +kernel
theorem dX6_leave_118 : decode cX6_leave 118 = .ok (.iload_n 3, 1) := by decide +kernel
theorem dX6_leave_119 : decode cX6_leave 119 = .ok (.iload 4, 2) := by decide +kernel
theorem dX6_leave_121 : decode cX6_leave 121 = .ok (.iload 5, 2) := by decide +kernel
theorem dX6_leave_123 : decode cX6_leave 123 = .ok (.invokevirtual 172, 3) := by decide +kernel
theorem dX6_leave_126 : decode cX6_leave 126 = .ok (.iinc 4 1, 3) := by decide +kernel
theorem dX6_leave_129 : decode cX6_leave 129 = .ok (.goto (-30), 3) := by decide +kernel
theorem dX6_leave_132 : decode cX6_leave 132 = .ok (.aload_n 0, 1) := by decide +kernel
theorem dX6_leave_133 : decode cX6_leave 133 = .ok (.iload_n 3, 1) := by decide +kernel
theorem dX6_leave_134 : decode cX6_leave 134 = .ok (.bipush 9, 2) := by decide +kernel
theorem dX6_leave_136 : decode cX6_leave 136 = .ok (.iconst 0, 1) := by decide +kernel
theorem dX6_leave_137 : decode cX6_leave 137 = .ok (.invokevirtual 172, 3) := by decide +kernel
theorem dX6_leave_140 : decode cX6_leave 140 = .ok (.iinc 3 1, 3) := by decide +kernel
theorem dX6_leave_143 : decode cX6_leave 143 = .ok (.goto (-55), 3) := by decide +kernel
theorem dX6_leave_146 : decode cX6_leave 146 = .ok (.aload_n 0, 1) := by decide +kernel
theorem dX6_leave_147 : decode cX6_leave 147 = .ok (.getfield 7, 3) := by decide +kernel
theorem dX6_leave_150 : decode cX6_leave 150 = .ok (.iconst 1, 1) := by decide +kernel
theorem dX6_leave_151 : decode cX6_leave 151 = .ok (.dup2, 1) := by decide +kernel
theorem dX6_leave_152 : decode cX6_leave 152 = .ok (.iaload, 1) := by decide +kernel
theorem dX6_leave_153 : decode cX6_leave 153 = .ok (.iconst 1, 1) := by decide +kernel
theorem dX6_leave_154 : decode cX6_leave 154 = .ok (.isub, 1) := by decide +kernel
theorem dX6_leave_155 : decode cX6_leave 155 = .ok (.iastore, 1) := by decide +kernel
theorem dX6_leave_156 : decode cX6_leave 156 = .ok (.iconst 0, 1) := by decide +kernel
theorem dX6_leave_157 : decode cX6_leave 157 = .ok (.istore_n 3, 1) := by decide +kernel
theorem dX6_leave_158 : decode cX6_leave 158 = .ok (.iload_n 3, 1) := by decide +kernel
theorem dX6_leave_159 : decode cX6_leave 159 = .ok (.aload_n 0, 1) := by decide +kernel
theorem dX6_leave_160 : decode cX6_leave 160 = .ok (.invokevirtual 67, 3) := by decide +kernel
theorem dX6_leave_163 : decode cX6_leave 163 = .ok (.if_icmp .ge 25, 3) := by decide +kernel
theorem dX6_leave_166 : decode cX6_leave 166 = .ok (.aload_n 0, 1) := by decide +kernel
theorem dX6_leave_167 : decode cX6_leave 167 = .ok (.iload_n 3, 1) := by decide +kernel
theorem dX6_leave_168 : decode cX6_leave 168 = .ok (.iconst 3, 1) := by decide +kernel
theorem dX6_leave_169 : decode cX6_leave 169 = .ok (.aload_n 0, 1) := by decide +kernel
theorem dX6_leave_170 : decode cX6_leave 170 = .ok (.iload_n 3, 1) := by decide +kernel
theorem dX6_leave_171 : decode cX6_leave 171 = .ok (.iconst 3, 1) := by decide +kernel
theorem dX6_leave_172 : decode cX6_leave 172 = .ok (.invokevirtual 206, 3) := by decide +kernel
theorem dX6_leave_175 : decode cX6_leave 175 = .ok (.iload_n 1, 1) := by decide +kernel
theorem dX6_leave_176 : decode cX6_leave 176 = .ok (.invokestatic 321, 3) := by decide +kernel
theorem dX6_leave_179 : decode cX6_leave 179 = .ok (.invokevirtual 45, 3) := by decide +kernel
theorem dX6_leave_182 : decode cX6_leave 182 = .ok (.iinc 3 1, 3) := by decide +kernel
theorem dX6_leave_185 : decode cX6_leave 185 = .ok (.goto (-27), 3) := by decide +kernel
theorem dX6_leave_188 : decode cX6_leave 188 = .ok (.iload_n 2, 1) := by decide +kernel
theorem dX6_leave_189 : decode cX6_leave 189 = .ok (.ireturn, 1) := by decide +kernel
theorem dX6_setPledge_0 : decode cX6_setPledge 0 = .ok (.aload_n 0, 1) := by decide +kernel
theorem dX6_setPledge_1 : decode cX6_setPledge 1 = .ok (.aload_n 0, 1) := by decide +kernel
theorem dX6_setPledge_2 : decode cX6_setPledge 2 = .ok (.iload_n 1, 1) := by decide +kernel
theorem dX6_setPledge_3 : decode cX6_setPledge 3 = .ok (.invokevirtual 257, 3) := by decide +kernel
theorem dX6_setPledge_6 : decode cX6_setPledge 6 = .ok (.ifCond .ne 7, 3) := by decide +kernel
theorem dX6_setPledge_9 : decode cX6_setPledge 9 = .ok (.iconst 1, 1) := by decide +kernel
theorem dX6_setPledge_10 : decode cX6_setPledge 10 = .ok (.goto 18, 3) := by decide +kernel
theorem dX6_setPledge_13 : decode cX6_setPledge 13 = .ok (.iload_n 2, 1) := by decide +kernel
theorem dX6_setPledge_14 : decode cX6_setPledge 14 = .ok (.iconst 1, 1) := by decide +kernel
theorem dX6_setPledge_15 : decode cX6_setPledge 15 = .ok (.bipush 10, 2) := by decide +kernel
theorem dX6_setPledge_17 : decode cX6_setPledge 17 = .ok (.invokestatic 59, 3) := by decide +kernel
theorem dX6_setPledge_20 : decode cX6_setPledge 20 = .ok (.ifCond .eq 7, 3) := by decide +kernel
theorem dX6_setPledge_23 : decode cX6_setPledge 23 = .ok (.iconst 0, 1) := by decide +kernel
theorem dX6_setPledge_24 : decode cX6_setPledge 24 = .ok (.goto 4, 3) := by decide +kernel
theorem dX6_setPledge_27 : decode cX6_setPledge 27 = .ok (.iconst 2, 1) := by decide +kernel
theorem dX6_setPledge_28 : decode cX6_setPledge 28 = .ok (.putfield 49, 3) := by decide +kernel
theorem dX6_setPledge_31 : decode cX6_setPledge 31 = .ok (.aload_n 0, 1) := by decide +kernel
theorem dX6_setPledge_32 : decode cX6_setPledge 32 = .ok (.getfield 49, 3) := by decide +kernel
theorem dX6_setPledge_35 : decode cX6_setPledge 35 = .ok (.ifCond .le 5, 3) := by decide +kernel
theorem dX6_setPledge_38 : decode cX6_setPledge 38 = .ok (.iconst 0, 1) := by decide +kernel
theorem dX6_setPledge_39 : decode cX6_setPledge 39 = .ok (.ireturn, 1) := by decide +kernel
theorem dX6_setPledge_40 : decode cX6_setPledge 40 = .ok (.aload_n 0, 1) := by decide +kernel
theorem dX6_setPledge_41 : decode cX6_setPledge 41 = .ok (.aload_n 0, 1) := by decide +kernel
theorem dX6_setPledge_42 : decode cX6_setPledge 42 = .ok (.getfield 7, 3) := by decide +kernel
theorem dX6_setPledge_45 : decode cX6_setPledge 45 = .ok (.invokevirtual 63, 3) := by decide +kernel
theorem dX6_setPledge_48 : decode cX6_setPledge 48 = .ok (.aload_n 0, 1) := by decide +kernel
theorem dX6_setPledge_49 : decode cX6_setPledge 49 = .ok (.iload_n 1, 1) := by decide +kernel
theorem dX6_setPledge_50 : decode cX6_setPledge 50 = .ok (.invokevirtual 232, 3) := by decide +kernel
theorem dX6_setPledge_53 : decode cX6_setPledge 53 = .ok (.istore_n 3, 1) := by decide +kernel
theorem dX6_setPledge_54 : decode cX6_setPledge 54 = .ok (.aload_n 0, 1) := by decide +kernel
theorem dX6_setPledge_55 : decode cX6_setPledge 55 = .ok (.getfield 7, 3) := by decide +kernel
theorem dX6_setPledge_58 : decode cX6_setPledge 58 = .ok (.bipush 125, 2) := by decide +kernel
theorem dX6_setPledge_60 : decode cX6_setPledge 60 = .ok (.bipush 19, 2) := by decide +kernel
theorem dX6_setPledge_62 : decode cX6_setPledge 62 = .ok (.iload_n 1, 1) := by decide +kernel
theorem dX6_setPledge_63 : decode cX6_setPledge 63 = .ok (.imul, 1) := by decide +kernel
theorem dX6_setPledge_64 : decode cX6_setPledge 64 = .ok (.iadd, 1) := by decide +kernel
theorem dX6_setPledge_65 : decode cX6_setPledge 65 = .ok (.iload_n 2, 1) := by decide +kernel
theorem dX6_setPledge_66 : decode cX6_setPledge 66 = .ok (.iastore, 1) := by decide +kernel
theorem dX6_setPledge_67 : decode cX6_setPledge 67 = .ok (.iload_n 3, 1) := by decide +kernel
theorem dX6_setPledge_68 : decode cX6_setPledge 68 = .ok (.ireturn, 1) := by decide +kernel
theorem dX6_says_0 : decode cX6_says 0 = .ok (.aload_n 0, 1) := by decide +kernel
theorem dX6_says_1 : decode cX6_says 1 = .ok (.getfield 39, 3) := by decide +kernel
theorem dX6_says_4 : decode cX6_says 4 = .ok (.aload_n 0, 1) := by decide +kernel
theorem dX6_says_5 : decode cX6_says 5 = .ok (.getfield 324, 3) := by decide +kernel
theorem dX6_says_8 : decode cX6_says 8 = .ok (.iload_n 1, 1) := by decide +kernel
theorem dX6_says_9 : decode cX6_says 9 = .ok (.iastore, 1) := by decide +kernel
theorem dX6_says_10 : decode cX6_says 10 = .ok (.aload_n 0, 1) := by decide +kernel
theorem dX6_says_11 : decode cX6_says 11 = .ok (.dup, 1) := by decide +kernel
theorem dX6_says_12 : decode cX6_says 12 = .ok (.getfield 324, 3) := by decide +kernel
theorem dX6_says_15 : decode cX6_says 15 = .ok (.iconst 1, 1) := by decide +kernel
theorem dX6_says_16 : decode cX6_says 16 = .ok (.iadd, 1) := by decide +kernel
theorem dX6_says_17 : decode cX6_says 17 = .ok (.putfield 324, 3) := by decide +kernel
theorem dX6_says_20 : decode cX6_says 20 = .ok (.return_, 1) := by decide +kernel
theorem dX6_saysName_0 : decode cX6_saysName 0 = .ok (.aload_n 0, 1) := by decide +kernel
theorem dX6_saysName_1 : decode cX6_saysName 1 = .ok (.getfield 7, 3) := by decide +kernel
theorem dX6_saysName_4 : decode cX6_saysName 4 = .ok (.iload_n 1, 1) := by decide +kernel
theorem dX6_saysName_5 : decode cX6_saysName 5 = .ok (.iaload, 1) := by decide +kernel
theorem dX6_saysName_6 : decode cX6_saysName 6 = .ok (.ifCond .ne 9, 3) := by decide +kernel
theorem dX6_saysName_9 : decode cX6_saysName 9 = .ok (.aload_n 0, 1) := by decide +kernel
theorem dX6_saysName_10 : decode cX6_saysName 10 = .ok (.bipush 45, 2) := by decide +kernel
theorem dX6_saysName_12 : decode cX6_saysName 12 = .ok (.invokevirtual 327, 3) := by decide +kernel
theorem dX6_saysName_15 : decode cX6_saysName 15 = .ok (.iconst 0, 1) := by decide +kernel
theorem dX6_saysName_16 : decode cX6_saysName 16 = .ok (.istore_n 2, 1) := by decide +kernel
theorem dX6_saysName_17 : decode cX6_saysName 17 = .ok (.iload_n 2, 1) := by decide +kernel
theorem dX6_saysName_18 : decode cX6_saysName 18 = .ok (.bipush 8, 2) := by decide +kernel
theorem dX6_saysName_20 : decode cX6_saysName 20 = .ok (.if_icmp .ge 32, 3) := by decide +kernel
theorem dX6_saysName_23 : decode cX6_saysName 23 = .ok (.aload_n 0, 1) := by decide +kernel
theorem dX6_saysName_24 : decode cX6_saysName 24 = .ok (.getfield 7, 3) := by decide +kernel
theorem dX6_saysName_27 : decode cX6_saysName 27 = .ok (.iload_n 1, 1) := by decide +kernel
theorem dX6_saysName_28 : decode cX6_saysName 28 = .ok (.iload_n 2, 1) := by decide +kernel
theorem dX6_saysName_29 : decode cX6_saysName 29 = .ok (.iadd, 1) := by decide +kernel
theorem dX6_saysName_30 : decode cX6_saysName 30 = .ok (.iaload, 1) := by decide +kernel
theorem dX6_saysName_31 : decode cX6_saysName 31 = .ok (.ifCond .le 21, 3) := by decide +kernel
theorem dX6_saysName_34 : decode cX6_saysName 34 = .ok (.aload_n 0, 1) := by decide +kernel
theorem dX6_saysName_35 : decode cX6_saysName 35 = .ok (.aload_n 0, 1) := by decide +kernel
theorem dX6_saysName_36 : decode cX6_saysName 36 = .ok (.getfield 7, 3) := by decide +kernel
theorem dX6_saysName_39 : decode cX6_saysName 39 = .ok (.iload_n 1, 1) := by decide +kernel
theorem dX6_saysName_40 : decode cX6_saysName 40 = .ok (.iload_n 2, 1) := by decide +kernel
theorem dX6_saysName_41 : decode cX6_saysName 41 = .ok (.iadd, 1) := by decide +kernel
theorem dX6_saysName_42 : decode cX6_saysName 42 = .ok (.iaload, 1) := by decide +kernel
theorem dX6_saysName_43 : decode cX6_saysName 43 = .ok (.invokevirtual 327, 3) := by decide +kernel
theorem dX6_saysName_46 : decode cX6_saysName 46 = .ok (.iinc 2 1, 3) := by decide +kernel
theorem dX6_saysName_49 : decode cX6_saysName 49 = .ok (.goto (-32), 3) := by decide +kernel
theorem dX6_saysName_52 : decode cX6_saysName 52 = .ok (.return_, 1) := by decide +kernel
theorem dX6_writePictures_0 : decode cX6_writePictures 0 = .ok (.aload_n 0, 1) := by decide +kernel
theorem dX6_writePictures_1 : decode cX6_writePictures 1 = .ok (.iconst 0, 1) := by decide +kernel
theorem dX6_writePictures_2 : decode cX6_writePictures 2 = .ok (.putfield 49, 3) := by decide +kernel
theorem dX6_writePictures_5 : decode cX6_writePictures 5 = .ok (.aload_n 0, 1) := by decide +kernel
theorem dX6_writePictures_6 : decode cX6_writePictures 6 = .ok (.iconst 0, 1) := by decide +kernel
theorem dX6_writePictures_7 : decode cX6_writePictures 7 = .ok (.putfield 324, 3) := by decide +kernel
theorem dX6_writePictures_10 : decode cX6_writePictures 10 = .ok (.iconst 0, 1) := by decide +kernel
theorem dX6_writePictures_11 : decode cX6_writePictures 11 = .ok (.istore_n 1, 1) := by decide +kernel
theorem dX6_writePictures_12 : decode cX6_writePictures 12 = .ok (.iload_n 1, 1) := by decide +kernel
theorem dX6_writePictures_13 : decode cX6_writePictures 13 = .ok (.aload_n 0, 1) := by decide +kernel
theorem dX6_writePictures_14 : decode cX6_writePictures 14 = .ok (.invokevirtual 169, 3) := by decide +kernel
theorem dX6_writePictures_17 : decode cX6_writePictures 17 = .ok (.if_icmp .ge 125, 3) := by decide +kernel
theorem dX6_writePictures_20 : decode cX6_writePictures 20 = .ok (.iload_n 1, 1) := by decide +kernel
theorem dX6_writePictures_21 : decode cX6_writePictures 21 = .ok (.ifCond .le 9, 3) := by decide +kernel
theorem dX6_writePictures_24 : decode cX6_writePictures 24 = .ok (.aload_n 0, 1) := by decide +kernel
theorem dX6_writePictures_25 : decode cX6_writePictures 25 = .ok (.bipush 32, 2) := by decide +kernel
theorem dX6_writePictures_27 : decode cX6_writePictures 27 = .ok (.invokevirtual 327, 3) := by decide +kernel
theorem dX6_writePictures_30 : decode cX6_writePictures 30 = .ok (.aload_n 0, 1) := by decide +kernel
theorem dX6_writePictures_31 : decode cX6_writePictures 31 = .ok (.bipush 125, 2) := by decide +kernel
theorem dX6_writePictures_33 : decode cX6_writePictures 33 = .ok (.bipush 19, 2) := by decide +kernel
theorem dX6_writePictures_35 : decode cX6_writePictures 35 = .ok (.iload_n 1, 1) := by decide +kernel
theorem dX6_writePictures_36 : decode cX6_writePictures 36 = .ok (.imul, 1) := by decide +kernel
theorem dX6_writePictures_37 : decode cX6_writePictures 37 = .ok (.iadd, 1) := by decide +kernel
theorem dX6_writePictures_38 : decode cX6_writePictures 38 = .ok (.iconst 1, 1) := by decide +kernel
theorem dX6_writePictures_39 : decode cX6_writePictures 39 = .ok (.iadd, 1) := by decide +kernel
theorem dX6_writePictures_40 : decode cX6_writePictures 40 = .ok (.invokevirtual 330, 3) := by decide +kernel
theorem dX6_writePictures_43 : decode cX6_writePictures 43 = .ok (.aload_n 0, 1) := by decide +kernel
theorem dX6_writePictures_44 : decode cX6_writePictures 44 = .ok (.bipush 58, 2) := by decide +kernel
theorem dX6_writePictures_46 : decode cX6_writePictures 46 = .ok (.invokevirtual 327, 3) := by decide +kernel
theorem dX6_writePictures_49 : decode cX6_writePictures 49 = .ok (.iconst 0, 1) := by decide +kernel
theorem dX6_writePictures_50 : decode cX6_writePictures 50 = .ok (.istore_n 2, 1) := by decide +kernel
theorem dX6_writePictures_51 : decode cX6_writePictures 51 = .ok (.iconst 0, 1) := by decide +kernel
theorem dX6_writePictures_52 : decode cX6_writePictures 52 = .ok (.istore_n 3, 1) := by decide +kernel
theorem dX6_writePictures_53 : decode cX6_writePictures 53 = .ok (.iload_n 3, 1) := by decide +kernel
theorem dX6_writePictures_54 : decode cX6_writePictures 54 = .ok (.aload_n 0, 1) := by decide +kernel
theorem dX6_writePictures_55 : decode cX6_writePictures 55 = .ok (.invokevirtual 67, 3) := by decide +kernel
theorem dX6_writePictures_58 : decode cX6_writePictures 58 = .ok (.if_icmp .ge 64, 3) := by decide +kernel
theorem dX6_writePictures_61 : decode cX6_writePictures 61 = .ok (.aload_n 0, 1) := by decide +kernel
theorem dX6_writePictures_62 : decode cX6_writePictures 62 = .ok (.iload_n 1, 1) := by decide +kernel
theorem dX6_writePictures_63 : decode cX6_writePictures 63 = .ok (.iload_n 3, 1) := by decide +kernel
theorem dX6_writePictures_64 : decode cX6_writePictures 64 = .ok (.invokevirtual 182, 3) := by decide +kernel
theorem dX6_writePictures_67 : decode cX6_writePictures 67 = .ok (.ifCond .ne 6, 3) := by decide +kernel
theorem dX6_writePictures_70 : decode cX6_writePictures 70 = .ok (.goto 46, 3) := by decide +kernel
theorem dX6_writePictures_73 : decode cX6_writePictures 73 = .ok (.iload_n 2, 1) := by decide +kernel
theorem dX6_writePictures_74 : decode cX6_writePictures 74 = .ok (.ifCond .le 9, 3) := by decide +kernel
theorem dX6_writePictures_77 : decode cX6_writePictures 77 = .ok (.aload_n 0, 1) := by decide +kernel
theorem dX6_writePictures_78 : decode cX6_writePictures 78 = .ok (.bipush 44, 2) := by decide +kernel
theorem dX6_writePictures_80 : decode cX6_writePictures 80 = .ok (.invokevirtual 327, 3) := by decide +kernel
theorem dX6_writePictures_83 : decode cX6_writePictures 83 = .ok (.aload_n 0, 1) := by decide +kernel
theorem dX6_writePictures_84 : decode cX6_writePictures 84 = .ok (.iconst 5, 1) := by decide +kernel
theorem dX6_writePictures_85 : decode cX6_writePictures 85 = .ok (.bipush 12, 2) := by decide +kernel
theorem dX6_writePictures_87 : decode cX6_writePictures 87 = .ok (.iload_n 3, 1) := by decide +kernel
theorem dX6_writePictures_88 : decode cX6_writePictures 88 = .ok (.imul, 1) := by decide +kernel
theorem dX6_writePictures_89 : decode cX6_writePictures 89 = .ok (.iadd, 1) := by decide +kernel
theorem dX6_writePictures_90 : decode cX6_writePictures 90 = .ok (.iconst 4, 1) := by decide +kernel
theorem dX6_writePictures_91 : decode cX6_writePictures 91 = .ok (.iadd, 1) := by decide +kernel
theorem dX6_writePictures_92 : decode cX6_writePictures 92 = .ok (.invokevirtual 330, 3) := by decide +kernel
theorem dX6_writePictures_95 : decode cX6_writePictures 95 = .ok (.aload_n 0, 1) := by decide +kernel
theorem dX6_writePictures_96 : decode cX6_writePictures 96 = .ok (.iload_n 1, 1) := by decide +kernel
theorem dX6_writePictures_97 : decode cX6_writePictures 97 = .ok (.iload_n 3, 1) := by decide +kernel
theorem dX6_writePictures_98 : decode cX6_writePictures 98 = .ok (.invokevirtual 182, 3) := by decide +kernel
theorem dX6_writePictures_101 : decode cX6_writePictures 101 = .ok (.invokestatic 214, 3) := by decide +kernel
theorem dX6_writePictures_104 : decode cX6_writePictures 104 = .ok (.ifCond .eq 9, 3) := by decide +kernel
theorem dX6_writePictures_107 : decode cX6_writePictures 107 = .ok (.aload_n 0, 1) := by decide +kernel
theorem dX6_writePictures_108 : decode cX6_writePictures 108 = .ok (.bipush 33, 2) := by decide +kernel
theorem dX6_writePictures_110 : decode cX6_writePictures 110 = .ok (.invokevirtual 327, 3) := by decide +kernel
theorem dX6_writePictures_113 : decode cX6_writePictures 113 = .ok (.iinc 2 1, 3) := by decide +kernel
theorem dX6_writePictures_116 : decode cX6_writePictures 116 = .ok (.iinc 3 1, 3) := by decide +kernel
theorem dX6_writePictures_119 : decode cX6_writePictures 119 = .ok (.goto (-66), 3) := by decide +kernel
theorem dX6_writePictures_122 : decode cX6_writePictures 122 = .ok (.aload_n 0, 1) := by decide +kernel
theorem dX6_writePictures_123 : decode cX6_writePictures 123 = .ok (.iload_n 1, 1) := by decide +kernel
theorem dX6_writePictures_124 : decode cX6_writePictures 124 = .ok (.invokevirtual 238, 3) := by decide +kernel
theorem dX6_writePictures_127 : decode cX6_writePictures 127 = .ok (.ifCond .eq 9, 3) := by decide +kernel
theorem dX6_writePictures_130 : decode cX6_writePictures 130 = .ok (.aload_n 0, 1) := by decide +kernel
theorem dX6_writePictures_131 : decode cX6_writePictures 131 = .ok (.bipush 42, 2) := by decide +kernel
theorem dX6_writePictures_133 : decode cX6_writePictures 133 = .ok (.invokevirtual 327, 3) := by decide +kernel
theorem dX6_writePictures_136 : decode cX6_writePictures 136 = .ok (.iinc 1 1, 3) := by decide +kernel
theorem dX6_writePictures_139 : decode cX6_writePictures 139 = .ok (.goto (-127), 3) := by decide +kernel
theorem dX6_writePictures_142 : decode cX6_writePictures 142 = .ok (.aload_n 0, 1) := by decide +kernel
theorem dX6_writePictures_143 : decode cX6_writePictures 143 = .ok (.getfield 324, 3) := by decide +kernel
theorem dX6_writePictures_146 : decode cX6_writePictures 146 = .ok (.ireturn, 1) := by decide +kernel
theorem dX6_writtenByte_0 : decode cX6_writtenByte 0 = .ok (.aload_n 0, 1) := by decide +kernel
theorem dX6_writtenByte_1 : decode cX6_writtenByte 1 = .ok (.iload_n 1, 1) := by decide +kernel
theorem dX6_writtenByte_2 : decode cX6_writtenByte 2 = .ok (.iconst 0, 1) := by decide +kernel
theorem dX6_writtenByte_3 : decode cX6_writtenByte 3 = .ok (.aload_n 0, 1) := by decide +kernel
theorem dX6_writtenByte_4 : decode cX6_writtenByte 4 = .ok (.getfield 324, 3) := by decide +kernel
theorem dX6_writtenByte_7 : decode cX6_writtenByte 7 = .ok (.iconst 1, 1) := by decide +kernel
theorem dX6_writtenByte_8 : decode cX6_writtenByte 8 = .ok (.isub, 1) := by decide +kernel
theorem dX6_writtenByte_9 : decode cX6_writtenByte 9 = .ok (.invokestatic 59, 3) := by decide +kernel
theorem dX6_writtenByte_12 : decode cX6_writtenByte 12 = .ok (.ifCond .eq 7, 3) := by decide +kernel
theorem dX6_writtenByte_15 : decode cX6_writtenByte 15 = .ok (.iconst 0, 1) := by decide +kernel
theorem dX6_writtenByte_16 : decode cX6_writtenByte 16 = .ok (.goto 4, 3) := by decide +kernel
theorem dX6_writtenByte_19 : decode cX6_writtenByte 19 = .ok (.iconst 1, 1) := by decide +kernel
theorem dX6_writtenByte_20 : decode cX6_writtenByte 20 = .ok (.putfield 49, 3) := by decide +kernel
theorem dX6_writtenByte_23 : decode cX6_writtenByte 23 = .ok (.aload_n 0, 1) := by decide +kernel
theorem dX6_writtenByte_24 : decode cX6_writtenByte 24 = .ok (.getfield 49, 3) := by decide +kernel
theorem dX6_writtenByte_27 : decode cX6_writtenByte 27 = .ok (.ifCond .le 7, 3) := by decide +kernel
theorem dX6_writtenByte_30 : decode cX6_writtenByte 30 = .ok (.iconst 0, 1) := by decide +kernel
theorem dX6_writtenByte_31 : decode cX6_writtenByte 31 = .ok (.goto 9, 3) := by decide +kernel
theorem dX6_writtenByte_34 : decode cX6_writtenByte 34 = .ok (.aload_n 0, 1) := by decide +kernel
theorem dX6_writtenByte_35 : decode cX6_writtenByte 35 = .ok (.getfield 39, 3) := by decide +kernel
theorem dX6_writtenByte_38 : decode cX6_writtenByte 38 = .ok (.iload_n 1, 1) := by decide +kernel
theorem dX6_writtenByte_39 : decode cX6_writtenByte 39 = .ok (.iaload, 1) := by decide +kernel
theorem dX6_writtenByte_40 : decode cX6_writtenByte 40 = .ok (.ireturn, 1) := by decide +kernel
