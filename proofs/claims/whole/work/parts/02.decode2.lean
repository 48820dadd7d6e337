theorem dX4_init_0 : decode cX4_init 0 = .ok (.aload_n 0, 1) := by decide +kernel
theorem dX4_init_1 : decode cX4_init 1 = .ok (.invokespecial 3, 3) := by decide +kernel
theorem dX4_init_4 : decode cX4_init 4 = .ok (.aload_n 0, 1) := by decide +kernel
theorem dX4_init_5 : decode cX4_init 5 = .ok (.sipush 600, 3) := by decide +kernel
theorem dX4_init_8 : decode cX4_init 8 = .ok (.newarray .byte, 2) := by decide +kernel
theorem dX4_init_10 : decode cX4_init 10 = .ok (.putfield 9, 3) := by decide +kernel
theorem dX4_init_13 : decode cX4_init 13 = .ok (.aload_n 0, 1) := by decide +kernel
theorem dX4_init_14 : decode cX4_init 14 = .ok (.iconst 0, 1) := by decide +kernel
theorem dX4_init_15 : decode cX4_init 15 = .ok (.putfield 15, 3) := by decide +kernel
theorem dX4_init_18 : decode cX4_init 18 = .ok (.aload_n 0, 1) := by decide +kernel
theorem dX4_init_19 : decode cX4_init 19 = .ok (.iconst (-1), 1) := by decide +kernel
theorem dX4_init_20 : decode cX4_init 20 = .ok (.putfield 19, 3) := by decide +kernel
theorem dX4_init_23 : decode cX4_init 23 = .ok (.aload_n 0, 1) := by decide +kernel
theorem dX4_init_24 : decode cX4_init 24 = .ok (.iconst (-1), 1) := by decide +kernel
theorem dX4_init_25 : decode cX4_init 25 = .ok (.putfield 22, 3) := by decide +kernel
theorem dX4_init_28 : decode cX4_init 28 = .ok (.aload_n 0, 1) := by decide +kernel
theorem dX4_init_29 : decode cX4_init 29 = .ok (.iconst 0, 1) := by decide +kernel
theorem dX4_init_30 : decode cX4_init 30 = .ok (.putfield 25, 3) := by decide +kernel
theorem dX4_init_33 : decode cX4_init 33 = .ok (.aload_n 0, 1) := by decide +kernel
theorem dX4_init_34 : decode cX4_init 34 = .ok (.iconst 0, 1) := by decide +kernel
theorem dX4_init_35 : decode cX4_init 35 = .ok (.putfield 28, 3) := by decide +kernel
theorem dX4_init_38 : decode cX4_init 38 = .ok (.aload_n 0, 1) := by decide +kernel
theorem dX4_init_39 : decode cX4_init 39 = .ok (.iconst 0, 1) := by decide +kernel
theorem dX4_init_40 : decode cX4_init 40 = .ok (.putfield 31, 3) := by decide +kernel
theorem dX4_init_43 : decode cX4_init 43 = .ok (.aload_n 0, 1) := by decide +kernel
theorem dX4_init_44 : decode cX4_init 44 = .ok (.lconst 0, 1) := by decide +kernel
theorem dX4_init_45 : decode cX4_init 45 = .ok (.putfield 34, 3) := by decide +kernel
theorem dX4_init_48 : decode cX4_init 48 = .ok (.return_, 1) := by decide +kernel
theorem dX4_putBytes_0 : decode cX4_putBytes 0 = .ok (.iconst 3, 1) := by decide +kernel
theorem dX4_putBytes_1 : decode cX4_putBytes 1 = .ok (.istore_n 2, 1) := by decide +kernel
theorem dX4_putBytes_2 : decode cX4_putBytes 2 = .ok (.iload_n 2, 1) := by decide +kernel
theorem dX4_putBytes_3 : decode cX4_putBytes 3 = .ok (.ifCond .lt 51, 3) := by decide +kernel
theorem dX4_putBytes_6 : decode cX4_putBytes 6 = .ok (.iload_n 1, 1) := by decide +kernel
theorem dX4_putBytes_7 : decode cX4_putBytes 7 = .ok (.bipush 8, 2) := by decide +kernel
theorem dX4_putBytes_9 : decode cX4_putBytes 9 = .ok (.iload_n 2, 1) := by decide +kernel
theorem dX4_putBytes_10 : decode cX4_putBytes 10 = .ok (.imul, 1) := by decide +kernel
theorem dX4_putBytes_11 : decode cX4_putBytes 11 = .ok (.iushr, 1) := by decide +kernel
theorem dX4_putBytes_12 : decode cX4_putBytes 12 = .ok (.i2b, 1) := by decide +kernel
theorem dX4_putBytes_13 : decode cX4_putBytes 13 = .ok (.istore_n 3, 1) := by decide +kernel
theorem dX4_putBytes_14 : decode cX4_putBytes 14 = .ok (.iload_n 3, 1) := by decide +kernel
theorem dX4_putBytes_15 : decode cX4_putBytes 15 = .ok (.ifCond .eq 33, 3) := by decide +kernel
theorem dX4_putBytes_18 : decode cX4_putBytes 18 = .ok (.aload_n 0, 1) := by decide +kernel
theorem dX4_putBytes_19 : decode cX4_putBytes 19 = .ok (.getfield 15, 3) := by decide +kernel
theorem dX4_putBytes_22 : decode cX4_putBytes 22 = .ok (.sipush 600, 3) := by decide +kernel
theorem dX4_putBytes_25 : decode cX4_putBytes 25 = .ok (.if_icmp .ge 23, 3) := by decide +kernel
theorem dX4_putBytes_28 : decode cX4_putBytes 28 = .ok (.aload_n 0, 1) := by decide +kernel
theorem dX4_putBytes_29 : decode cX4_putBytes 29 = .ok (.getfield 9, 3) := by decide +kernel
theorem dX4_putBytes_32 : decode cX4_putBytes 32 = .ok (.aload_n 0, 1) := by decide +kernel
theorem dX4_putBytes_33 : decode cX4_putBytes 33 = .ok (.getfield 15, 3) := by decide +kernel
theorem dX4_putBytes_36 : decode cX4_putBytes 36 = .ok (.iload_n 3, 1) := by decide +kernel
theorem dX4_putBytes_37 : decode cX4_putBytes 37 = .ok (.bastore, 1) := by decide +kernel
theorem dX4_putBytes_38 : decode cX4_putBytes 38 = .ok (.aload_n 0, 1) := by decide +kernel
theorem dX4_putBytes_39 : decode cX4_putBytes 39 = .ok (.dup, 1) := by decide +kernel
theorem dX4_putBytes_40 : decode cX4_putBytes 40 = .ok (.getfield 15, 3) := by decide +kernel
theorem dX4_putBytes_43 : decode cX4_putBytes 43 = .ok (.iconst 1, 1) := by decide +kernel
theorem dX4_putBytes_44 : decode cX4_putBytes 44 = .ok (.iadd, 1) := by decide +kernel
theorem dX4_putBytes_45 : decode cX4_putBytes 45 = .ok (.putfield 15, 3) := by decide +kernel
theorem dX4_putBytes_48 : decode cX4_putBytes 48 = .ok (.iinc 2 (-1), 3) := by decide +kernel
theorem dX4_putBytes_51 : decode cX4_putBytes 51 = .ok (.goto (-49), 3) := by decide +kernel
theorem dX4_putBytes_54 : decode cX4_putBytes 54 = .ok (.return_, 1) := by decide +kernel
theorem dX4_readText_0 : decode cX4_readText 0 = .ok (.aload_n 0, 1) := by decide +kernel
theorem dX4_readText_1 : decode cX4_readText 1 = .ok (.iconst 0, 1) := by decide +kernel
theorem dX4_readText_2 : decode cX4_readText 2 = .ok (.putfield 25, 3) := by decide +kernel
theorem dX4_readText_5 : decode cX4_readText 5 = .ok (.aload_n 0, 1) := by decide +kernel
theorem dX4_readText_6 : decode cX4_readText 6 = .ok (.iconst (-1), 1) := by decide +kernel
theorem dX4_readText_7 : decode cX4_readText 7 = .ok (.putfield 19, 3) := by decide +kernel
theorem dX4_readText_10 : decode cX4_readText 10 = .ok (.aload_n 0, 1) := by decide +kernel
theorem dX4_readText_11 : decode cX4_readText 11 = .ok (.iconst (-1), 1) := by decide +kernel
theorem dX4_readText_12 : decode cX4_readText 12 = .ok (.putfield 22, 3) := by decide +kernel
theorem dX4_readText_15 : decode cX4_readText 15 = .ok (.aload_n 0, 1) := by decide +kernel
theorem dX4_readText_16 : decode cX4_readText 16 = .ok (.aload_n 1, 1) := by decide +kernel
theorem dX4_readText_17 : decode cX4_readText 17 = .ok (.invokevirtual 38, 3) := by decide +kernel
theorem dX4_readText_20 : decode cX4_readText 20 = .ok (.ifCond .eq 15, 3) := by decide +kernel
theorem dX4_readText_23 : decode cX4_readText 23 = .ok (.aload_n 0, 1) := by decide +kernel
theorem dX4_readText_24 : decode cX4_readText 24 = .ok (.aload_n 1, 1) := by decide +kernel
theorem dX4_readText_25 : decode cX4_readText 25 = .ok (.invokevirtual 42, 3) := by decide +kernel
theorem dX4_readText_28 : decode cX4_readText 28 = .ok (.ifCond .eq 7, 3) := by decide +kernel
theorem dX4_readText_31 : decode cX4_readText 31 = .ok (.iconst 1, 1) := by decide +kernel
theorem dX4_readText_32 : decode cX4_readText 32 = .ok (.goto 4, 3) := by decide +kernel
theorem dX4_readText_35 : decode cX4_readText 35 = .ok (.iconst 0, 1) := by decide +kernel
theorem dX4_readText_36 : decode cX4_readText 36 = .ok (.istore_n 2, 1) := by decide +kernel
theorem dX4_readText_37 : decode cX4_readText 37 = .ok (.iconst 0, 1) := by decide +kernel
theorem dX4_readText_38 : decode cX4_readText 38 = .ok (.istore_n 3, 1) := by decide +kernel
theorem dX4_readText_39 : decode cX4_readText 39 = .ok (.iload_n 3, 1) := by decide +kernel
theorem dX4_readText_40 : decode cX4_readText 40 = .ok (.sipush 600, 3) := by decide +kernel
theorem dX4_readText_43 : decode cX4_readText 43 = .ok (.if_icmp .ge 28, 3) := by decide +kernel
theorem dX4_readText_46 : decode cX4_readText 46 = .ok (.iload_n 2, 1) := by decide +kernel
theorem dX4_readText_47 : decode cX4_readText 47 = .ok (.ifCond .eq 24, 3) := by decide +kernel
theorem dX4_readText_50 : decode cX4_readText 50 = .ok (.aload_n 0, 1) := by decide +kernel
theorem dX4_readText_51 : decode cX4_readText 51 = .ok (.ldc 45, 2) := by decide +kernel
theorem dX4_readText_53 : decode cX4_readText 53 = .ok (.invokevirtual 47, 3) := by decide +kernel
theorem dX4_readText_56 : decode cX4_readText 56 = .ok (.ifCond .eq 15, 3) := by decide +kernel
theorem dX4_readText_59 : decode cX4_readText 59 = .ok (.aload_n 0, 1) := by decide +kernel
theorem dX4_readText_60 : decode cX4_readText 60 = .ok (.aload_n 1, 1) := by decide +kernel
theorem dX4_readText_61 : decode cX4_readText 61 = .ok (.invokevirtual 51, 3) := by decide +kernel
theorem dX4_readText_64 : decode cX4_readText 64 = .ok (.istore_n 2, 1) := by decide +kernel
theorem dX4_readText_65 : decode cX4_readText 65 = .ok (.iinc 3 1, 3) := by decide +kernel
theorem dX4_readText_68 : decode cX4_readText 68 = .ok (.goto (-29), 3) := by decide +kernel
theorem dX4_readText_71 : decode cX4_readText 71 = .ok (.iload_n 2, 1) := by decide +kernel
theorem dX4_readText_72 : decode cX4_readText 72 = .ok (.ifCond .eq 14, 3) := by decide +kernel
theorem dX4_readText_75 : decode cX4_readText 75 = .ok (.aload_n 0, 1) := by decide +kernel
theorem dX4_readText_76 : decode cX4_readText 76 = .ok (.invokevirtual 54, 3) := by decide +kernel
theorem dX4_readText_79 : decode cX4_readText 79 = .ok (.ifCond .eq 7, 3) := by decide +kernel
theorem dX4_readText_82 : decode cX4_readText 82 = .ok (.iconst 1, 1) := by decide +kernel
theorem dX4_readText_83 : decode cX4_readText 83 = .ok (.goto 4, 3) := by decide +kernel
theorem dX4_readText_86 : decode cX4_readText 86 = .ok (.iconst 0, 1) := by decide +kernel
theorem dX4_readText_87 : decode cX4_readText 87 = .ok (.istore_n 2, 1) := by decide +kernel
theorem dX4_readText_88 : decode cX4_readText 88 = .ok (.aload_n 0, 1) := by decide +kernel
theorem dX4_readText_89 : decode cX4_readText 89 = .ok (.iconst 0, 1) := by decide +kernel
theorem dX4_readText_90 : decode cX4_readText 90 = .ok (.putfield 15, 3) := by decide +kernel
theorem dX4_readText_93 : decode cX4_readText 93 = .ok (.iload_n 2, 1) := by decide +kernel
theorem dX4_readText_94 : decode cX4_readText 94 = .ok (.ireturn, 1) := by decide +kernel
theorem dX4_readHead_0 : decode cX4_readHead 0 = .ok (.aload_n 0, 1) := by decide +kernel
theorem dX4_readHead_1 : decode cX4_readHead 1 = .ok (.ldc 58, 2) := by decide +kernel
theorem dX4_readHead_3 : decode cX4_readHead 3 = .ok (.invokevirtual 60, 3) := by decide +kernel
theorem dX4_readHead_6 : decode cX4_readHead 6 = .ok (.ifCond .eq 20, 3) := by decide +kernel
theorem dX4_readHead_9 : decode cX4_readHead 9 = .ok (.aload_n 0, 1) := by decide +kernel
theorem dX4_readHead_10 : decode cX4_readHead 10 = .ok (.iconst 4, 1) := by decide +kernel
theorem dX4_readHead_11 : decode cX4_readHead 11 = .ok (.bipush 16, 2) := by decide +kernel
theorem dX4_readHead_13 : decode cX4_readHead 13 = .ok (.invokevirtual 63, 3) := by decide +kernel
theorem dX4_readHead_16 : decode cX4_readHead 16 = .ok (.ifCond .eq 10, 3) := by decide +kernel
theorem dX4_readHead_19 : decode cX4_readHead 19 = .ok (.aload_n 0, 1) := by decide +kernel
theorem dX4_readHead_20 : decode cX4_readHead 20 = .ok (.invokevirtual 67, 3) := by decide +kernel
theorem dX4_readHead_23 : decode cX4_readHead 23 = .ok (.ifCond .ne 5, 3) := by decide +kernel
theorem dX4_readHead_26 : decode cX4_readHead 26 = .ok (.iconst 0, 1) := by decide +kernel
theorem dX4_readHead_27 : decode cX4_readHead 27 = .ok (.ireturn, 1) := by decide +kernel
theorem dX4_readHead_28 : decode cX4_readHead 28 = .ok (.aload_n 1, 1) := by decide +kernel
theorem dX4_readHead_29 : decode cX4_readHead 29 = .ok (.aload_n 0, 1) := by decide +kernel
theorem dX4_readHead_30 : decode cX4_readHead 30 = .ok (.getfield 31, 3) := by decide +kernel
theorem dX4_readHead_33 : decode cX4_readHead 33 = .ok (.invokevirtual 70, 3) := by decide +kernel
theorem dX4_readHead_36 : decode cX4_readHead 36 = .ok (.iconst 0, 1) := by decide +kernel
theorem dX4_readHead_37 : decode cX4_readHead 37 = .ok (.istore_n 2, 1) := by decide +kernel
theorem dX4_readHead_38 : decode cX4_readHead 38 = .ok (.iload_n 2, 1) := by decide +kernel
theorem dX4_readHead_39 : decode cX4_readHead 39 = .ok (.bipush 10, 2) := by decide +kernel
theorem dX4_readHead_41 : decode cX4_readHead 41 = .ok (.if_icmp .gt 52, 3) := by decide +kernel
theorem dX4_readHead_44 : decode cX4_readHead 44 = .ok (.aload_n 0, 1) := by decide +kernel
theorem dX4_readHead_45 : decode cX4_readHead 45 = .ok (.ldc 76, 2) := by decide +kernel
theorem dX4_readHead_47 : decode cX4_readHead 47 = .ok (.invokevirtual 47, 3) := by decide +kernel
theorem dX4_readHead_50 : decode cX4_readHead 50 = .ok (.istore_n 3, 1) := by decide +kernel
theorem dX4_readHead_51 : decode cX4_readHead 51 = .ok (.iload_n 3, 1) := by decide +kernel
theorem dX4_readHead_52 : decode cX4_readHead 52 = .ok (.ifCond .ne 19, 3) := by decide +kernel
theorem dX4_readHead_55 : decode cX4_readHead 55 = .ok (.iload_n 2, 1) := by decide +kernel
theorem dX4_readHead_56 : decode cX4_readHead 56 = .ok (.iconst 2, 1) := by decide +kernel
theorem dX4_readHead_57 : decode cX4_readHead 57 = .ok (.if_icmp .ge 14, 3) := by decide +kernel
theorem dX4_readHead_60 : decode cX4_readHead 60 = .ok (.aload_n 0, 1) := by decide +kernel
theorem dX4_readHead_61 : decode cX4_readHead 61 = .ok (.bipush (-2), 2) := by decide +kernel
theorem dX4_readHead_63 : decode cX4_readHead 63 = .ok (.aload_n 0, 1) := by decide +kernel
theorem dX4_readHead_64 : decode cX4_readHead 64 = .ok (.getfield 25, 3) := by decide +kernel
theorem dX4_readHead_67 : decode cX4_readHead 67 = .ok (.invokevirtual 78, 3) := by decide +kernel
theorem dX4_readHead_70 : decode cX4_readHead 70 = .ok (.ireturn, 1) := by decide +kernel
theorem dX4_readHead_71 : decode cX4_readHead 71 = .ok (.iload_n 3, 1) := by decide +kernel
theorem dX4_readHead_72 : decode cX4_readHead 72 = .ok (.ifCond .ne 5, 3) := by decide +kernel
theorem dX4_readHead_75 : decode cX4_readHead 75 = .ok (.iconst 1, 1) := by decide +kernel
theorem dX4_readHead_76 : decode cX4_readHead 76 = .ok (.ireturn, 1) := by decide +kernel
theorem dX4_readHead_77 : decode cX4_readHead 77 = .ok (.aload_n 0, 1) := by decide +kernel
theorem dX4_readHead_78 : decode cX4_readHead 78 = .ok (.aload_n 1, 1) := by decide +kernel
theorem dX4_readHead_79 : decode cX4_readHead 79 = .ok (.invokevirtual 81, 3) := by decide +kernel
theorem dX4_readHead_82 : decode cX4_readHead 82 = .ok (.ifCond .ne 5, 3) := by decide +kernel
theorem dX4_readHead_85 : decode cX4_readHead 85 = .ok (.iconst 0, 1) := by decide +kernel
theorem dX4_readHead_86 : decode cX4_readHead 86 = .ok (.ireturn, 1) := by decide +kernel
theorem dX4_readHead_87 : decode cX4_readHead 87 = .ok (.iinc 2 1, 3) := by decide +kernel
theorem dX4_readHead_90 : decode cX4_readHead 90 = .ok (.goto (-52), 3) := by decide +kernel
theorem dX4_readHead_93 : decode cX4_readHead 93 = .ok (.iconst 1, 1) := by decide +kernel
theorem dX4_readHead_94 : decode cX4_readHead 94 = .ok (.ireturn, 1) := by decide +kernel
theorem dX4_readFamily_0 : decode cX4_readFamily 0 = .ok (.aload_n 1, 1) := by decide +kernel
theorem dX4_readFamily_1 : decode cX4_readFamily 1 = .ok (.getfield 84, 3) := by decide +kernel
theorem dX4_readFamily_4 : decode cX4_readFamily 4 = .ok (.bipush 10, 2) := by decide +kernel
theorem dX4_readFamily_6 : decode cX4_readFamily 6 = .ok (.if_icmp .lt 14, 3) := by decide +kernel
theorem dX4_readFamily_9 : decode cX4_readFamily 9 = .ok (.aload_n 0, 1) := by decide +kernel
theorem dX4_readFamily_10 : decode cX4_readFamily 10 = .ok (.bipush (-7), 2) := by decide +kernel
theorem dX4_readFamily_12 : decode cX4_readFamily 12 = .ok (.aload_n 0, 1) := by decide +kernel
theorem dX4_readFamily_13 : decode cX4_readFamily 13 = .ok (.getfield 28, 3) := by decide +kernel
theorem dX4_readFamily_16 : decode cX4_readFamily 16 = .ok (.invokevirtual 78, 3) := by decide +kernel
theorem dX4_readFamily_19 : decode cX4_readFamily 19 = .ok (.ireturn, 1) := by decide +kernel
theorem dX4_readFamily_20 : decode cX4_readFamily 20 = .ok (.aload_n 0, 1) := by decide +kernel
theorem dX4_readFamily_21 : decode cX4_readFamily 21 = .ok (.invokevirtual 87, 3) := by decide +kernel
theorem dX4_readFamily_24 : decode cX4_readFamily 24 = .ok (.ifCond .ne 5, 3) := by decide +kernel
theorem dX4_readFamily_27 : decode cX4_readFamily 27 = .ok (.iconst 0, 1) := by decide +kernel
theorem dX4_readFamily_28 : decode cX4_readFamily 28 = .ok (.ireturn, 1) := by decide +kernel
theorem dX4_readFamily_29 : decode cX4_readFamily 29 = .ok (.aload_n 0, 1) := by decide +kernel
theorem dX4_readFamily_30 : decode cX4_readFamily 30 = .ok (.aload_n 1, 1) := by decide +kernel
theorem dX4_readFamily_31 : decode cX4_readFamily 31 = .ok (.getfield 90, 3) := by decide +kernel
theorem dX4_readFamily_34 : decode cX4_readFamily 34 = .ok (.aload_n 1, 1) := by decide +kernel
theorem dX4_readFamily_35 : decode cX4_readFamily 35 = .ok (.getfield 84, 3) := by decide +kernel
theorem dX4_readFamily_38 : decode cX4_readFamily 38 = .ok (.invokevirtual 94, 3) := by decide +kernel
theorem dX4_readFamily_41 : decode cX4_readFamily 41 = .ok (.iconst (-1), 1) := by decide +kernel
theorem dX4_readFamily_42 : decode cX4_readFamily 42 = .ok (.if_icmp .eq 14, 3) := by decide +kernel
theorem dX4_readFamily_45 : decode cX4_readFamily 45 = .ok (.aload_n 0, 1) := by decide +kernel
theorem dX4_readFamily_46 : decode cX4_readFamily 46 = .ok (.bipush (-5), 2) := by decide +kernel
theorem dX4_readFamily_48 : decode cX4_readFamily 48 = .ok (.aload_n 0, 1) := by decide +kernel
theorem dX4_readFamily_49 : decode cX4_readFamily 49 = .ok (.getfield 28, 3) := by decide +kernel
theorem dX4_readFamily_52 : decode cX4_readFamily 52 = .ok (.invokevirtual 78, 3) := by decide +kernel
theorem dX4_readFamily_55 : decode cX4_readFamily 55 = .ok (.ireturn, 1) := by decide +kernel
theorem dX4_readFamily_56 : decode cX4_readFamily 56 = .ok (.aload_n 0, 1) := by decide +kernel
theorem dX4_readFamily_57 : decode cX4_readFamily 57 = .ok (.getfield 34, 3) := by decide +kernel
theorem dX4_readFamily_60 : decode cX4_readFamily 60 = .ok (.lstore_n 2, 1) := by decide +kernel
theorem dX4_readFamily_61 : decode cX4_readFamily 61 = .ok (.aload_n 0, 1) := by decide +kernel
theorem dX4_readFamily_62 : decode cX4_readFamily 62 = .ok (.iconst 1, 1) := by decide +kernel
theorem dX4_readFamily_63 : decode cX4_readFamily 63 = .ok (.bipush 20, 2) := by decide +kernel
theorem dX4_readFamily_65 : decode cX4_readFamily 65 = .ok (.invokevirtual 63, 3) := by decide +kernel
theorem dX4_readFamily_68 : decode cX4_readFamily 68 = .ok (.ifCond .ne 5, 3) := by decide +kernel
theorem dX4_readFamily_71 : decode cX4_readFamily 71 = .ok (.iconst 0, 1) := by decide +kernel
theorem dX4_readFamily_72 : decode cX4_readFamily 72 = .ok (.ireturn, 1) := by decide +kernel
theorem dX4_readFamily_73 : decode cX4_readFamily 73 = .ok (.aload_n 1, 1) := by decide +kernel
theorem dX4_readFamily_74 : decode cX4_readFamily 74 = .ok (.lload_n 2, 1) := by decide +kernel
theorem dX4_readFamily_75 : decode cX4_readFamily 75 = .ok (.aload_n 0, 1) := by decide +kernel
theorem dX4_readFamily_76 : decode cX4_readFamily 76 = .ok (.getfield 31, 3) := by decide +kernel
theorem dX4_readFamily_79 : decode cX4_readFamily 79 = .ok (.invokevirtual 98, 3) := by decide +kernel
theorem dX4_readFamily_82 : decode cX4_readFamily 82 = .ok (.aload_n 0, 1) := by decide +kernel
theorem dX4_readFamily_83 : decode cX4_readFamily 83 = .ok (.invokevirtual 67, 3) := by decide +kernel
theorem dX4_readFamily_86 : decode cX4_readFamily 86 = .ok (.ireturn, 1) := by decide +kernel
theorem dX4_readNeighbours_0 : decode cX4_readNeighbours 0 = .ok (.iconst 0, 1) := by decide +kernel
theorem dX4_readNeighbours_1 : decode cX4_readNeighbours 1 = .ok (.istore_n 2, 1) := by decide +kernel
theorem dX4_readNeighbours_2 : decode cX4_readNeighbours 2 = .ok (.iload_n 2, 1) := by decide +kernel
theorem dX4_readNeighbours_3 : decode cX4_readNeighbours 3 = .ok (.sipush 600, 3) := by decide +kernel
theorem dX4_readNeighbours_6 : decode cX4_readNeighbours 6 = .ok (.if_icmp .ge 91, 3) := by decide +kernel
theorem dX4_readNeighbours_9 : decode cX4_readNeighbours 9 = .ok (.aload_n 0, 1) := by decide +kernel
theorem dX4_readNeighbours_10 : decode cX4_readNeighbours 10 = .ok (.ldc 102, 2) := by decide +kernel
theorem dX4_readNeighbours_12 : decode cX4_readNeighbours 12 = .ok (.invokevirtual 47, 3) := by decide +kernel
theorem dX4_readNeighbours_15 : decode cX4_readNeighbours 15 = .ok (.ifCond .eq 82, 3) := by decide +kernel
theorem dX4_readNeighbours_18 : decode cX4_readNeighbours 18 = .ok (.aload_n 0, 1) := by decide +kernel
theorem dX4_readNeighbours_19 : decode cX4_readNeighbours 19 = .ok (.aload_n 1, 1) := by decide +kernel
theorem dX4_readNeighbours_20 : decode cX4_readNeighbours 20 = .ok (.invokevirtual 104, 3) := by decide +kernel
theorem dX4_readNeighbours_23 : decode cX4_readNeighbours 23 = .ok (.istore_n 3, 1) := by decide +kernel
theorem dX4_readNeighbours_24 : decode cX4_readNeighbours 24 = .ok (.iload_n 3, 1) := by decide +kernel
theorem dX4_readNeighbours_25 : decode cX4_readNeighbours 25 = .ok (.iconst (-1), 1) := by decide +kernel
theorem dX4_readNeighbours_26 : decode cX4_readNeighbours 26 = .ok (.if_icmp .ne 7, 3) := by decide +kernel
theorem dX4_readNeighbours_29 : decode cX4_readNeighbours 29 = .ok (.iconst (-1), 1) := by decide +kernel
theorem dX4_readNeighbours_30 : decode cX4_readNeighbours 30 = .ok (.goto 8, 3) := by decide +kernel
theorem dX4_readNeighbours_33 : decode cX4_readNeighbours 33 = .ok (.aload_n 0, 1) := by decide +kernel
theorem dX4_readNeighbours_34 : decode cX4_readNeighbours 34 = .ok (.aload_n 1, 1) := by decide +kernel
theorem dX4_readNeighbours_35 : decode cX4_readNeighbours 35 = .ok (.invokevirtual 104, 3) := by decide +kernel
theorem dX4_readNeighbours_38 : decode cX4_readNeighbours 38 = .ok (.istore 4, 2) := by decide +kernel
theorem dX4_readNeighbours_40 : decode cX4_readNeighbours 40 = .ok (.iload 4, 2) := by decide +kernel
theorem dX4_readNeighbours_42 : decode cX4_readNeighbours 42 = .ok (.iconst (-1), 1) := by decide +kernel
theorem dX4_readNeighbours_43 : decode cX4_readNeighbours 43 = .ok (.if_icmp .ne 5, 3) := by decide +kernel
theorem dX4_readNeighbours_46 : decode cX4_readNeighbours 46 = .ok (.iconst 0, 1) := by decide +kernel
theorem dX4_readNeighbours_47 : decode cX4_readNeighbours 47 = .ok (.ireturn, 1) := by decide +kernel
theorem dX4_readNeighbours_48 : decode cX4_readNeighbours 48 = .ok (.iload_n 3, 1) := by decide +kernel
theorem dX4_readNeighbours_49 : decode cX4_readNeighbours 49 = .ok (.iload 4, 2) := by decide +kernel
theorem dX4_readNeighbours_51 : decode cX4_readNeighbours 51 = .ok (.if_icmp .eq 13, 3) := by decide +kernel
theorem dX4_readNeighbours_54 : decode cX4_readNeighbours 54 = .ok (.aload_n 1, 1) := by decide +kernel
theorem dX4_readNeighbours_55 : decode cX4_readNeighbours 55 = .ok (.iload_n 3, 1) := by decide +kernel
theorem dX4_readNeighbours_56 : decode cX4_readNeighbours 56 = .ok (.iload 4, 2) := by decide +kernel
theorem dX4_readNeighbours_58 : decode cX4_readNeighbours 58 = .ok (.invokevirtual 108, 3) := by decide +kernel
theorem dX4_readNeighbours_61 : decode cX4_readNeighbours 61 = .ok (.ifCond .eq 14, 3) := by decide +kernel
theorem dX4_readNeighbours_64 : decode cX4_readNeighbours 64 = .ok (.aload_n 0, 1) := by decide +kernel
theorem dX4_readNeighbours_65 : decode cX4_readNeighbours 65 = .ok (.bipush (-5), 2) := by decide +kernel
theorem dX4_readNeighbours_67 : decode cX4_readNeighbours 67 = .ok (.aload_n 0, 1) := by decide +kernel
theorem dX4_readNeighbours_68 : decode cX4_readNeighbours 68 = .ok (.getfield 28, 3) := by decide +kernel
theorem dX4_readNeighbours_71 : decode cX4_readNeighbours 71 = .ok (.invokevirtual 78, 3) := by decide +kernel
theorem dX4_readNeighbours_74 : decode cX4_readNeighbours 74 = .ok (.ireturn, 1) := by decide +kernel
theorem dX4_readNeighbours_75 : decode cX4_readNeighbours 75 = .ok (.aload_n 1, 1) := by decide +kernel
theorem dX4_readNeighbours_76 : decode cX4_readNeighbours 76 = .ok (.iload_n 3, 1) := by decide +kernel
theorem dX4_readNeighbours_77 : decode cX4_readNeighbours 77 = .ok (.iload 4, 2) := by decide +kernel
theorem dX4_readNeighbours_79 : decode cX4_readNeighbours 79 = .ok (.invokevirtual 111, 3) := by decide +kernel
theorem dX4_readNeighbours_82 : decode cX4_readNeighbours 82 = .ok (.aload_n 0, 1) := by decide +kernel
theorem dX4_readNeighbours_83 : decode cX4_readNeighbours 83 = .ok (.invokevirtual 67, 3) := by decide +kernel
theorem dX4_readNeighbours_86 : decode cX4_readNeighbours 86 = .ok (.ifCond .ne 5, 3) := by decide +kernel
theorem dX4_readNeighbours_89 : decode cX4_readNeighbours 89 = .ok (.iconst 0, 1) := by decide +kernel
theorem dX4_readNeighbours_90 : decode cX4_readNeighbours 90 = .ok (.ireturn, 1) := by decide +kernel
theorem dX4_readNeighbours_91 : decode cX4_readNeighbours 91 = .ok (.iinc 2 1, 3) := by decide +kernel
theorem dX4_readNeighbours_94 : decode cX4_readNeighbours 94 = .ok (.goto (-92), 3) := by decide +kernel
theorem dX4_readNeighbours_97 : decode cX4_readNeighbours 97 = .ok (.iconst 1, 1) := by decide +kernel
theorem dX4_readNeighbours_98 : decode cX4_readNeighbours 98 = .ok (.ireturn, 1) := by decide +kernel
theorem dX4_readPicture_0 : decode cX4_readPicture 0 = .ok (.aload_n 1, 1) := by decide +kernel
theorem dX4_readPicture_1 : decode cX4_readPicture 1 = .ok (.getfield 115, 3) := by decide +kernel
theorem dX4_readPicture_4 : decode cX4_readPicture 4 = .ok (.istore_n 2, 1) := by decide +kernel
theorem dX4_readPicture_5 : decode cX4_readPicture 5 = .ok (.iload_n 2, 1) := by decide +kernel
theorem dX4_readPicture_6 : decode cX4_readPicture 6 = .ok (.bipush 12, 2) := by decide +kernel
theorem dX4_readPicture_8 : decode cX4_readPicture 8 = .ok (.if_icmp .lt 14, 3) := by decide +kernel
theorem dX4_readPicture_11 : decode cX4_readPicture 11 = .ok (.aload_n 0, 1) := by decide +kernel
theorem dX4_readPicture_12 : decode cX4_readPicture 12 = .ok (.bipush (-7), 2) := by decide +kernel
theorem dX4_readPicture_14 : decode cX4_readPicture 14 = .ok (.aload_n 0, 1) := by decide +kernel
theorem dX4_readPicture_15 : decode cX4_readPicture 15 = .ok (.getfield 28, 3) := by decide +kernel
theorem dX4_readPicture_18 : decode cX4_readPicture 18 = .ok (.invokevirtual 78, 3) := by decide +kernel
theorem dX4_readPicture_21 : decode cX4_readPicture 21 = .ok (.ireturn, 1) := by decide +kernel
theorem dX4_readPicture_22 : decode cX4_readPicture 22 = .ok (.aload_n 0, 1) := by decide +kernel
theorem dX4_readPicture_23 : decode cX4_readPicture 23 = .ok (.invokevirtual 87, 3) := by decide +kernel
theorem dX4_readPicture_26 : decode cX4_readPicture 26 = .ok (.ifCond .ne 5, 3) := by decide +kernel
theorem dX4_readPicture_29 : decode cX4_readPicture 29 = .ok (.iconst 0, 1) := by decide +kernel
theorem dX4_readPicture_30 : decode cX4_readPicture 30 = .ok (.ireturn, 1) := by decide +kernel
theorem dX4_readPicture_31 : decode cX4_readPicture 31 = .ok (.aload_n 0, 1) := by decide +kernel
theorem dX4_readPicture_32 : decode cX4_readPicture 32 = .ok (.aload_n 1, 1) := by decide +kernel
theorem dX4_readPicture_33 : decode cX4_readPicture 33 = .ok (.getfield 118, 3) := by decide +kernel
theorem dX4_readPicture_36 : decode cX4_readPicture 36 = .ok (.iload_n 2, 1) := by decide +kernel
theorem dX4_readPicture_37 : decode cX4_readPicture 37 = .ok (.invokevirtual 94, 3) := by decide +kernel
theorem dX4_readPicture_40 : decode cX4_readPicture 40 = .ok (.iconst (-1), 1) := by decide +kernel
theorem dX4_readPicture_41 : decode cX4_readPicture 41 = .ok (.if_icmp .eq 14, 3) := by decide +kernel
theorem dX4_readPicture_44 : decode cX4_readPicture 44 = .ok (.aload_n 0, 1) := by decide +kernel
theorem dX4_readPicture_45 : decode cX4_readPicture 45 = .ok (.bipush (-5), 2) := by decide +kernel
theorem dX4_readPicture_47 : decode cX4_readPicture 47 = .ok (.aload_n 0, 1) := by decide +kernel
theorem dX4_readPicture_48 : decode cX4_readPicture 48 = .ok (.getfield 28, 3) := by decide +kernel
theorem dX4_readPicture_51 : decode cX4_readPicture 51 = .ok (.invokevirtual 78, 3) := by decide +kernel
theorem dX4_readPicture_54 : decode cX4_readPicture 54 = .ok (.ireturn, 1) := by decide +kernel
theorem dX4_readPicture_55 : decode cX4_readPicture 55 = .ok (.aload_n 0, 1) := by decide +kernel
theorem dX4_readPicture_56 : decode cX4_readPicture 56 = .ok (.getfield 34, 3) := by decide +kernel
theorem dX4_readPicture_59 : decode cX4_readPicture 59 = .ok (.lstore_n 3, 1) := by decide +kernel
theorem dX4_readPicture_60 : decode cX4_readPicture 60 = .ok (.aload_n 0, 1) := by decide +kernel
theorem dX4_readPicture_61 : decode cX4_readPicture 61 = .ok (.ldc 121, 2) := by decide +kernel
theorem dX4_readPicture_63 : decode cX4_readPicture 63 = .ok (.invokevirtual 60, 3) := by decide +kernel
theorem dX4_readPicture_66 : decode cX4_readPicture 66 = .ok (.ifCond .eq 13, 3) := by decide +kernel
theorem dX4_readPicture_69 : decode cX4_readPicture 69 = .ok (.aload_n 0, 1) := by decide +kernel
theorem dX4_readPicture_70 : decode cX4_readPicture 70 = .ok (.iconst 1, 1) := by decide +kernel
theorem dX4_readPicture_71 : decode cX4_readPicture 71 = .ok (.bipush 10, 2) := by decide +kernel
theorem dX4_readPicture_73 : decode cX4_readPicture 73 = .ok (.invokevirtual 63, 3) := by decide +kernel
theorem dX4_readPicture_76 : decode cX4_readPicture 76 = .ok (.ifCond .ne 5, 3) := by decide +kernel
theorem dX4_readPicture_79 : decode cX4_readPicture 79 = .ok (.iconst 0, 1) := by decide +kernel
theorem dX4_readPicture_80 : decode cX4_readPicture 80 = .ok (.ireturn, 1) := by decide +kernel
theorem dX4_readPicture_81 : decode cX4_readPicture 81 = .ok (.aload_n 1, 1) := by decide +kernel
theorem dX4_readPicture_82 : decode cX4_readPicture 82 = .ok (.lload_n 3, 1) := by decide +kernel
theorem dX4_readPicture_83 : decode cX4_readPicture 83 = .ok (.aload_n 0, 1) := by decide +kernel
theorem dX4_readPicture_84 : decode cX4_readPicture 84 = .ok (.getfield 31, 3) := by decide +kernel
theorem dX4_readPicture_87 : decode cX4_readPicture 87 = .ok (.invokevirtual 123, 3) := by decide +kernel
theorem dX4_readPicture_90 : decode cX4_readPicture 90 = .ok (.iconst 0, 1) := by decide +kernel
theorem dX4_readPicture_91 : decode cX4_readPicture 91 = .ok (.istore 5, 2) := by decide +kernel
theorem dX4_readPicture_93 : decode cX4_readPicture 93 = .ok (.iload 5, 2) := by decide +kernel
theorem dX4_readPicture_95 : decode cX4_readPicture 95 = .ok (.sipush 600, 3) := by decide +kernel
theorem dX4_readPicture_98 : decode cX4_readPicture 98 = .ok (.if_icmp .ge 29, 3) := by decide +kernel
theorem dX4_readPicture_101 : decode cX4_readPicture 101 = .ok (.aload_n 0, 1) := by decide +kernel
theorem dX4_readPicture_102 : decode cX4_readPicture 102 = .ok (.ldc 126, 2) := by decide +kernel
theorem dX4_readPicture_104 : decode cX4_readPicture 104 = .ok (.invokevirtual 47, 3) := by decide +kernel
theorem dX4_readPicture_107 : decode cX4_readPicture 107 = .ok (.ifCond .eq 20, 3) := by decide +kernel
theorem dX4_readPicture_110 : decode cX4_readPicture 110 = .ok (.aload_n 0, 1) := by decide +kernel
theorem dX4_readPicture_111 : decode cX4_readPicture 111 = .ok (.aload_n 1, 1) := by decide +kernel
theorem dX4_readPicture_112 : decode cX4_readPicture 112 = .ok (.iload_n 2, 1) := by decide +kernel
theorem dX4_readPicture_113 : decode cX4_readPicture 113 = .ok (.invokevirtual 128, 3) := by decide +kernel
theorem dX4_readPicture_116 : decode cX4_readPicture 116 = .ok (.ifCond .ne 5, 3) := by decide +kernel
theorem dX4_readPicture_119 : decode cX4_readPicture 119 = .ok (.iconst 0, 1) := by decide +kernel
theorem dX4_readPicture_120 : decode cX4_readPicture 120 = .ok (.ireturn, 1) := by decide +kernel
theorem dX4_readPicture_121 : decode cX4_readPicture 121 = .ok (.iinc 5 1, 3) := by decide +kernel
theorem dX4_readPicture_124 : decode cX4_readPicture 124 = .ok (.goto (-31), 3) := by decide +kernel
theorem dX4_readPicture_127 : decode cX4_readPicture 127 = .ok (.aload_n 0, 1) := by decide +kernel
theorem dX4_readPicture_128 : decode cX4_readPicture 128 = .ok (.invokevirtual 67, 3) := by decide +kernel
theorem dX4_readPicture_131 : decode cX4_readPicture 131 = .ok (.ireturn, 1) := by decide +kernel
theorem dX4_readCopy_0 : decode cX4_readCopy 0 = .ok (.aload_n 0, 1) := by decide +kernel
theorem dX4_readCopy_1 : decode cX4_readCopy 1 = .ok (.aload_n 1, 1) := by decide +kernel
theorem dX4_readCopy_2 : decode cX4_readCopy 2 = .ok (.invokevirtual 104, 3) := by decide +kernel
theorem dX4_readCopy_5 : decode cX4_readCopy 5 = .ok (.istore_n 3, 1) := by decide +kernel
theorem dX4_readCopy_6 : decode cX4_readCopy 6 = .ok (.iload_n 3, 1) := by decide +kernel
theorem dX4_readCopy_7 : decode cX4_readCopy 7 = .ok (.iconst (-1), 1) := by decide +kernel
theorem dX4_readCopy_8 : decode cX4_readCopy 8 = .ok (.if_icmp .ne 5, 3) := by decide +kernel
theorem dX4_readCopy_11 : decode cX4_readCopy 11 = .ok (.iconst 0, 1) := by decide +kernel
theorem dX4_readCopy_12 : decode cX4_readCopy 12 = .ok (.ireturn, 1) := by decide +kernel
theorem dX4_readCopy_13 : decode cX4_readCopy 13 = .ok (.aload_n 1, 1) := by decide +kernel
theorem dX4_readCopy_14 : decode cX4_readCopy 14 = .ok (.iload_n 2, 1) := by decide +kernel
theorem dX4_readCopy_15 : decode cX4_readCopy 15 = .ok (.iload_n 3, 1) := by decide +kernel
theorem dX4_readCopy_16 : decode cX4_readCopy 16 = .ok (.invokevirtual 132, 3) := by decide +kernel
theorem dX4_readCopy_19 : decode cX4_readCopy 19 = .ok (.ifCond .eq 14, 3) := by decide +kernel
theorem dX4_readCopy_22 : decode cX4_readCopy 22 = .ok (.aload_n 0, 1) := by decide +kernel
theorem dX4_readCopy_23 : decode cX4_readCopy 23 = .ok (.bipush (-5), 2) := by decide +kernel
theorem dX4_readCopy_25 : decode cX4_readCopy 25 = .ok (.aload_n 0, 1) := by decide +kernel
theorem dX4_readCopy_26 : decode cX4_readCopy 26 = .ok (.getfield 28, 3) := by decide +kernel
theorem dX4_readCopy_29 : decode cX4_readCopy 29 = .ok (.invokevirtual 78, 3) := by decide +kernel
theorem dX4_readCopy_32 : decode cX4_readCopy 32 = .ok (.ireturn, 1) := by decide +kernel
theorem dX4_readCopy_33 : decode cX4_readCopy 33 = .ok (.aload_n 1, 1) := by decide +kernel
theorem dX4_readCopy_34 : decode cX4_readCopy 34 = .ok (.iload_n 3, 1) := by decide +kernel
theorem dX4_readCopy_35 : decode cX4_readCopy 35 = .ok (.invokevirtual 135, 3) := by decide +kernel
theorem dX4_readCopy_38 : decode cX4_readCopy 38 = .ok (.ifCond .gt 14, 3) := by decide +kernel
theorem dX4_readCopy_41 : decode cX4_readCopy 41 = .ok (.aload_n 0, 1) := by decide +kernel
theorem dX4_readCopy_42 : decode cX4_readCopy 42 = .ok (.bipush (-6), 2) := by decide +kernel
theorem dX4_readCopy_44 : decode cX4_readCopy 44 = .ok (.aload_n 0, 1) := by decide +kernel
theorem dX4_readCopy_45 : decode cX4_readCopy 45 = .ok (.getfield 28, 3) := by decide +kernel
theorem dX4_readCopy_48 : decode cX4_readCopy 48 = .ok (.invokevirtual 78, 3) := by decide +kernel
theorem dX4_readCopy_51 : decode cX4_readCopy 51 = .ok (.ireturn, 1) := by decide +kernel
theorem dX4_readCopy_52 : decode cX4_readCopy 52 = .ok (.aload_n 0, 1) := by decide +kernel
theorem dX4_readCopy_53 : decode cX4_readCopy 53 = .ok (.ldc 139, 2) := by decide +kernel
theorem dX4_readCopy_55 : decode cX4_readCopy 55 = .ok (.invokevirtual 47, 3) := by decide +kernel
theorem dX4_readCopy_58 : decode cX4_readCopy 58 = .ok (.ifCond .eq 14, 3) := by decide +kernel
theorem dX4_readCopy_61 : decode cX4_readCopy 61 = .ok (.aload_n 0, 1) := by decide +kernel
theorem dX4_readCopy_62 : decode cX4_readCopy 62 = .ok (.aload_n 1, 1) := by decide +kernel
theorem dX4_readCopy_63 : decode cX4_readCopy 63 = .ok (.getfield 141, 3) := by decide +kernel
theorem dX4_readCopy_66 : decode cX4_readCopy 66 = .ok (.invokevirtual 143, 3) := by decide +kernel
theorem dX4_readCopy_69 : decode cX4_readCopy 69 = .ok (.goto 4, 3) := by decide +kernel
theorem dX4_readCopy_72 : decode cX4_readCopy 72 = .ok (.iconst 0, 1) := by decide +kernel
theorem dX4_readCopy_73 : decode cX4_readCopy 73 = .ok (.istore 4, 2) := by decide +kernel
theorem dX4_readCopy_75 : decode cX4_readCopy 75 = .ok (.iload 4, 2) := by decide +kernel
theorem dX4_readCopy_77 : decode cX4_readCopy 77 = .ok (.iconst (-1), 1) := by decide +kernel
theorem dX4_readCopy_78 : decode cX4_readCopy 78 = .ok (.if_icmp .ne 5, 3) := by decide +kernel
theorem dX4_readCopy_81 : decode cX4_readCopy 81 = .ok (.iconst 0, 1) := by decide +kernel
theorem dX4_readCopy_82 : decode cX4_readCopy 82 = .ok (.ireturn, 1) := by decide +kernel
theorem dX4_readCopy_83 : decode cX4_readCopy 83 = .ok (.aload_n 1, 1) := by decide +kernel
theorem dX4_readCopy_84 : decode cX4_readCopy 84 = .ok (.iload_n 2, 1) := by decide +kernel
theorem dX4_readCopy_85 : decode cX4_readCopy 85 = .ok (.iload_n 3, 1) := by decide +kernel
theorem dX4_readCopy_86 : decode cX4_readCopy 86 = .ok (.iload 4, 2) := by decide +kernel
theorem dX4_readCopy_88 : decode cX4_readCopy 88 = .ok (.invokevirtual 146, 3) := by decide +kernel
theorem dX4_readCopy_91 : decode cX4_readCopy 91 = .ok (.iconst 1, 1) := by decide +kernel
theorem dX4_readCopy_92 : decode cX4_readCopy 92 = .ok (.ireturn, 1) := by decide +kernel
theorem dX4_needTiles_0 : decode cX4_needTiles 0 = .ok (.iconst 0, 1) := by decide +kernel
theorem dX4_needTiles_1 : decode cX4_needTiles 1 = .ok (.istore_n 2, 1) := by decide +kernel
theorem dX4_needTiles_2 : decode cX4_needTiles 2 = .ok (.iconst 0, 1) := by decide +kernel
theorem dX4_needTiles_3 : decode cX4_needTiles 3 = .ok (.istore_n 3, 1) := by decide +kernel
theorem dX4_needTiles_4 : decode cX4_needTiles 4 = .ok (.iload_n 3, 1) := by decide +kernel
theorem dX4_needTiles_5 : decode cX4_needTiles 5 = .ok (.iload_n 1, 1) := by decide +kernel
theorem dX4_needTiles_6 : decode cX4_needTiles 6 = .ok (.if_icmp .gt 66, 3) := by decide +kernel
theorem dX4_needTiles_9 : decode cX4_needTiles 9 = .ok (.iload_n 3, 1) := by decide +kernel
theorem dX4_needTiles_10 : decode cX4_needTiles 10 = .ok (.ifCond .eq 10, 3) := by decide +kernel
theorem dX4_needTiles_13 : decode cX4_needTiles 13 = .ok (.aload_n 0, 1) := by decide +kernel
theorem dX4_needTiles_14 : decode cX4_needTiles 14 = .ok (.invokevirtual 150, 3) := by decide +kernel
theorem dX4_needTiles_17 : decode cX4_needTiles 17 = .ok (.ifCond .eq 55, 3) := by decide +kernel
theorem dX4_needTiles_20 : decode cX4_needTiles 20 = .ok (.aload_n 0, 1) := by decide +kernel
theorem dX4_needTiles_21 : decode cX4_needTiles 21 = .ok (.iconst 0, 1) := by decide +kernel
theorem dX4_needTiles_22 : decode cX4_needTiles 22 = .ok (.iload_n 1, 1) := by decide +kernel
theorem dX4_needTiles_23 : decode cX4_needTiles 23 = .ok (.iconst 1, 1) := by decide +kernel
theorem dX4_needTiles_24 : decode cX4_needTiles 24 = .ok (.isub, 1) := by decide +kernel
theorem dX4_needTiles_25 : decode cX4_needTiles 25 = .ok (.invokevirtual 63, 3) := by decide +kernel
theorem dX4_needTiles_28 : decode cX4_needTiles 28 = .ok (.ifCond .ne 5, 3) := by decide +kernel
theorem dX4_needTiles_31 : decode cX4_needTiles 31 = .ok (.iconst (-1), 1) := by decide +kernel
theorem dX4_needTiles_32 : decode cX4_needTiles 32 = .ok (.ireturn, 1) := by decide +kernel
theorem dX4_needTiles_33 : decode cX4_needTiles 33 = .ok (.iload_n 2, 1) := by decide +kernel
theorem dX4_needTiles_34 : decode cX4_needTiles 34 = .ok (.aload_n 0, 1) := by decide +kernel
theorem dX4_needTiles_35 : decode cX4_needTiles 35 = .ok (.getfield 31, 3) := by decide +kernel
theorem dX4_needTiles_38 : decode cX4_needTiles 38 = .ok (.iushr, 1) := by decide +kernel
theorem dX4_needTiles_39 : decode cX4_needTiles 39 = .ok (.iconst 1, 1) := by decide +kernel
theorem dX4_needTiles_40 : decode cX4_needTiles 40 = .ok (.iand, 1) := by decide +kernel
theorem dX4_needTiles_41 : decode cX4_needTiles 41 = .ok (.ifCond .eq 16, 3) := by decide +kernel
theorem dX4_needTiles_44 : decode cX4_needTiles 44 = .ok (.aload_n 0, 1) := by decide +kernel
theorem dX4_needTiles_45 : decode cX4_needTiles 45 = .ok (.bipush (-5), 2) := by decide +kernel
theorem dX4_needTiles_47 : decode cX4_needTiles 47 = .ok (.aload_n 0, 1) := by decide +kernel
theorem dX4_needTiles_48 : decode cX4_needTiles 48 = .ok (.getfield 28, 3) := by decide +kernel
theorem dX4_needTiles_51 : decode cX4_needTiles 51 = .ok (.invokevirtual 78, 3) := by decide +kernel
theorem dX4_needTiles_54 : decode cX4_needTiles 54 = .ok (.pop, 1) := by decide +kernel
theorem dX4_needTiles_55 : decode cX4_needTiles 55 = .ok (.iconst (-1), 1) := by decide +kernel
theorem dX4_needTiles_56 : decode cX4_needTiles 56 = .ok (.ireturn, 1) := by decide +kernel
theorem dX4_needTiles_57 : decode cX4_needTiles 57 = .ok (.iload_n 2, 1) := by decide +kernel
theorem dX4_needTiles_58 : decode cX4_needTiles 58 = .ok (.iconst 1, 1) := by decide +kernel
theorem dX4_needTiles_59 : decode cX4_needTiles 59 = .ok (.aload_n 0, 1) := by decide +kernel
theorem dX4_needTiles_60 : decode cX4_needTiles 60 = .ok (.getfield 31, 3) := by decide +kernel
theorem dX4_needTiles_63 : decode cX4_needTiles 63 = .ok (.ishl, 1) := by decide +kernel
theorem dX4_needTiles_64 : decode cX4_needTiles 64 = .ok (.ior, 1) := by decide +kernel
theorem dX4_needTiles_65 : decode cX4_needTiles 65 = .ok (.istore_n 2, 1) := by decide +kernel
theorem dX4_needTiles_66 : decode cX4_needTiles 66 = .ok (.iinc 3 1, 3) := by decide +kernel
theorem dX4_needTiles_69 : decode cX4_needTiles 69 = .ok (.goto (-65), 3) := by decide +kernel
theorem dX4_needTiles_72 : decode cX4_needTiles 72 = .ok (.iload_n 2, 1) := by decide +kernel
theorem dX4_needTiles_73 : decode cX4_needTiles 73 = .ok (.ireturn, 1) := by decide +kernel
theorem dX4_needFamilyName_0 : decode cX4_needFamilyName 0 = .ok (.aload_n 0, 1) := by decide +kernel
theorem dX4_needFamilyName_1 : decode cX4_needFamilyName 1 = .ok (.invokevirtual 87, 3) := by decide +kernel
theorem dX4_needFamilyName_4 : decode cX4_needFamilyName 4 = .ok (.ifCond .ne 5, 3) := by decide +kernel
theorem dX4_needFamilyName_7 : decode cX4_needFamilyName 7 = .ok (.iconst (-1), 1) := by decide +kernel
theorem dX4_needFamilyName_8 : decode cX4_needFamilyName 8 = .ok (.ireturn, 1) := by decide +kernel
theorem dX4_needFamilyName_9 : decode cX4_needFamilyName 9 = .ok (.aload_n 0, 1) := by decide +kernel
theorem dX4_needFamilyName_10 : decode cX4_needFamilyName 10 = .ok (.aload_n 1, 1) := by decide +kernel
theorem dX4_needFamilyName_11 : decode cX4_needFamilyName 11 = .ok (.getfield 90, 3) := by decide +kernel
theorem dX4_needFamilyName_14 : decode cX4_needFamilyName 14 = .ok (.aload_n 1, 1) := by decide +kernel
theorem dX4_needFamilyName_15 : decode cX4_needFamilyName 15 = .ok (.getfield 84, 3) := by decide +kernel
theorem dX4_needFamilyName_18 : decode cX4_needFamilyName 18 = .ok (.invokevirtual 94, 3) := by decide +kernel
theorem dX4_needFamilyName_21 : decode cX4_needFamilyName 21 = .ok (.istore_n 2, 1) := by decide +kernel
theorem dX4_needFamilyName_22 : decode cX4_needFamilyName 22 = .ok (.iload_n 2, 1) := by decide +kernel
theorem dX4_needFamilyName_23 : decode cX4_needFamilyName 23 = .ok (.iconst (-1), 1) := by decide +kernel
theorem dX4_needFamilyName_24 : decode cX4_needFamilyName 24 = .ok (.if_icmp .ne 14, 3) := by decide +kernel
theorem dX4_needFamilyName_27 : decode cX4_needFamilyName 27 = .ok (.aload_n 0, 1) := by decide +kernel
theorem dX4_needFamilyName_28 : decode cX4_needFamilyName 28 = .ok (.bipush (-4), 2) := by decide +kernel
theorem dX4_needFamilyName_30 : decode cX4_needFamilyName 30 = .ok (.aload_n 0, 1) := by decide +kernel
theorem dX4_needFamilyName_31 : decode cX4_needFamilyName 31 = .ok (.getfield 28, 3) := by decide +kernel
theorem dX4_needFamilyName_34 : decode cX4_needFamilyName 34 = .ok (.invokevirtual 78, 3) := by decide +kernel
theorem dX4_needFamilyName_37 : decode cX4_needFamilyName 37 = .ok (.pop, 1) := by decide +kernel
theorem dX4_needFamilyName_38 : decode cX4_needFamilyName 38 = .ok (.iload_n 2, 1) := by decide +kernel
theorem dX4_needFamilyName_39 : decode cX4_needFamilyName 39 = .ok (.ireturn, 1) := by decide +kernel
theorem dX4_placeOf_0 : decode cX4_placeOf 0 = .ok (.iconst 0, 1) := by decide +kernel
theorem dX4_placeOf_1 : decode cX4_placeOf 1 = .ok (.istore_n 3, 1) := by decide +kernel
theorem dX4_placeOf_2 : decode cX4_placeOf 2 = .ok (.iload_n 3, 1) := by decide +kernel
theorem dX4_placeOf_3 : decode cX4_placeOf 3 = .ok (.iload_n 2, 1) := by decide +kernel
theorem dX4_placeOf_4 : decode cX4_placeOf 4 = .ok (.if_icmp .ge 28, 3) := by decide +kernel
theorem dX4_placeOf_7 : decode cX4_placeOf 7 = .ok (.iload_n 3, 1) := by decide +kernel
theorem dX4_placeOf_8 : decode cX4_placeOf 8 = .ok (.aload_n 1, 1) := by decide +kernel
theorem dX4_placeOf_9 : decode cX4_placeOf 9 = .ok (.arraylength, 1) := by decide +kernel
theorem dX4_placeOf_10 : decode cX4_placeOf 10 = .ok (.if_icmp .ge 22, 3) := by decide +kernel
theorem dX4_placeOf_13 : decode cX4_placeOf 13 = .ok (.aload_n 1, 1) := by decide +kernel
theorem dX4_placeOf_14 : decode cX4_placeOf 14 = .ok (.iload_n 3, 1) := by decide +kernel
theorem dX4_placeOf_15 : decode cX4_placeOf 15 = .ok (.laload, 1) := by decide +kernel
theorem dX4_placeOf_16 : decode cX4_placeOf 16 = .ok (.aload_n 0, 1) := by decide +kernel
theorem dX4_placeOf_17 : decode cX4_placeOf 17 = .ok (.getfield 34, 3) := by decide +kernel
theorem dX4_placeOf_20 : decode cX4_placeOf 20 = .ok (.lcmp, 1) := by decide +kernel
theorem dX4_placeOf_21 : decode cX4_placeOf 21 = .ok (.ifCond .ne 5, 3) := by decide +kernel
theorem dX4_placeOf_24 : decode cX4_placeOf 24 = .ok (.iload_n 3, 1) := by decide +kernel
theorem dX4_placeOf_25 : decode cX4_placeOf 25 = .ok (.ireturn, 1) := by decide +kernel
theorem dX4_placeOf_26 : decode cX4_placeOf 26 = .ok (.iinc 3 1, 3) := by decide +kernel
theorem dX4_placeOf_29 : decode cX4_placeOf 29 = .ok (.goto (-27), 3) := by decide +kernel
theorem dX4_placeOf_32 : decode cX4_placeOf 32 = .ok (.iconst (-1), 1) := by decide +kernel
theorem dX4_placeOf_33 : decode cX4_placeOf 33 = .ok (.ireturn, 1) := by decide +kernel
theorem dX4_fail_0 : decode cX4_fail 0 = .ok (.aload_n 0, 1) := by decide +kernel
theorem dX4_fail_1 : decode cX4_fail 1 = .ok (.iload_n 1, 1) := by decide +kernel
theorem dX4_fail_2 : decode cX4_fail 2 = .ok (.putfield 19, 3) := by decide +kernel
theorem dX4_fail_5 : decode cX4_fail 5 = .ok (.aload_n 0, 1) := by decide +kernel
theorem dX4_fail_6 : decode cX4_fail 6 = .ok (.iload_n 2, 1) := by decide +kernel
theorem dX4_fail_7 : decode cX4_fail 7 = .ok (.putfield 22, 3) := by decide +kernel
theorem dX4_fail_10 : decode cX4_fail 10 = .ok (.iconst 0, 1) := by decide +kernel
theorem dX4_fail_11 : decode cX4_fail 11 = .ok (.ireturn, 1) := by decide +kernel
theorem dX4_skipSpaces_0 : decode cX4_skipSpaces 0 = .ok (.aload_n 0, 1) := by decide +kernel
theorem dX4_skipSpaces_1 : decode cX4_skipSpaces 1 = .ok (.getfield 25, 3) := by decide +kernel
theorem dX4_skipSpaces_4 : decode cX4_skipSpaces 4 = .ok (.istore_n 1, 1) := by decide +kernel
theorem dX4_skipSpaces_5 : decode cX4_skipSpaces 5 = .ok (.iload_n 1, 1) := by decide +kernel
theorem dX4_skipSpaces_6 : decode cX4_skipSpaces 6 = .ok (.aload_n 0, 1) := by decide +kernel
theorem dX4_skipSpaces_7 : decode cX4_skipSpaces 7 = .ok (.getfield 15, 3) := by decide +kernel
theorem dX4_skipSpaces_10 : decode cX4_skipSpaces 10 = .ok (.if_icmp .ge 27, 3) := by decide +kernel
theorem dX4_skipSpaces_13 : decode cX4_skipSpaces 13 = .ok (.aload_n 0, 1) := by decide +kernel
theorem dX4_skipSpaces_14 : decode cX4_skipSpaces 14 = .ok (.getfield 9, 3) := by decide +kernel
theorem dX4_skipSpaces_17 : decode cX4_skipSpaces 17 = .ok (.iload_n 1, 1) := by decide +kernel
theorem dX4_skipSpaces_18 : decode cX4_skipSpaces 18 = .ok (.baload, 1) := by decide +kernel
theorem dX4_skipSpaces_19 : decode cX4_skipSpaces 19 = .ok (.bipush 32, 2) := by decide +kernel
theorem dX4_skipSpaces_21 : decode cX4_skipSpaces 21 = .ok (.if_icmp .ne 16, 3) := by decide +kernel
theorem dX4_skipSpaces_24 : decode cX4_skipSpaces 24 = .ok (.aload_n 0, 1) := by decide +kernel
theorem dX4_skipSpaces_25 : decode cX4_skipSpaces 25 = .ok (.iload_n 1, 1) := by decide +kernel
theorem dX4_skipSpaces_26 : decode cX4_skipSpaces 26 = .ok (.iconst 1, 1) := by decide +kernel
theorem dX4_skipSpaces_27 : decode cX4_skipSpaces 27 = .ok (.iadd, 1) := by decide +kernel
theorem dX4_skipSpaces_28 : decode cX4_skipSpaces 28 = .ok (.putfield 25, 3) := by decide +kernel
theorem dX4_skipSpaces_31 : decode cX4_skipSpaces 31 = .ok (.iinc 1 1, 3) := by decide +kernel
theorem dX4_skipSpaces_34 : decode cX4_skipSpaces 34 = .ok (.goto (-29), 3) := by decide +kernel
theorem dX4_skipSpaces_37 : decode cX4_skipSpaces 37 = .ok (.return_, 1) := by decide +kernel
theorem dX4_wordEnd_0 : decode cX4_wordEnd 0 = .ok (.aload_n 0, 1) := by decide +kernel
theorem dX4_wordEnd_1 : decode cX4_wordEnd 1 = .ok (.getfield 25, 3) := by decide +kernel
theorem dX4_wordEnd_4 : decode cX4_wordEnd 4 = .ok (.istore_n 1, 1) := by decide +kernel
theorem dX4_wordEnd_5 : decode cX4_wordEnd 5 = .ok (.iload_n 1, 1) := by decide +kernel
theorem dX4_wordEnd_6 : decode cX4_wordEnd 6 = .ok (.aload_n 0, 1) := by decide +kernel
theorem dX4_wordEnd_7 : decode cX4_wordEnd 7 = .ok (.getfield 15, 3) := by decide +kernel
theorem dX4_wordEnd_10 : decode cX4_wordEnd 10 = .ok (.if_icmp .ge 33, 3) := by decide +kernel
theorem dX4_wordEnd_13 : decode cX4_wordEnd 13 = .ok (.aload_n 0, 1) := by decide +kernel
theorem dX4_wordEnd_14 : decode cX4_wordEnd 14 = .ok (.getfield 9, 3) := by decide +kernel
theorem dX4_wordEnd_17 : decode cX4_wordEnd 17 = .ok (.iload_n 1, 1) := by decide +kernel
theorem dX4_wordEnd_18 : decode cX4_wordEnd 18 = .ok (.baload, 1) := by decide +kernel
theorem dX4_wordEnd_19 : decode cX4_wordEnd 19 = .ok (.bipush 97, 2) := by decide +kernel
theorem dX4_wordEnd_21 : decode cX4_wordEnd 21 = .ok (.if_icmp .lt 14, 3) := by decide +kernel
theorem dX4_wordEnd_24 : decode cX4_wordEnd 24 = .ok (.aload_n 0, 1) := by decide +kernel
theorem dX4_wordEnd_25 : decode cX4_wordEnd 25 = .ok (.getfield 9, 3) := by decide +kernel
theorem dX4_wordEnd_28 : decode cX4_wordEnd 28 = .ok (.iload_n 1, 1) := by decide +kernel
theorem dX4_wordEnd_29 : decode cX4_wordEnd 29 = .ok (.baload, 1) := by decide +kernel
theorem dX4_wordEnd_30 : decode cX4_wordEnd 30 = .ok (.bipush 122, 2) := by decide +kernel
theorem dX4_wordEnd_32 : decode cX4_wordEnd 32 = .ok (.if_icmp .le 5, 3) := by decide +kernel
theorem dX4_wordEnd_35 : decode cX4_wordEnd 35 = .ok (.iload_n 1, 1) := by decide +kernel
theorem dX4_wordEnd_36 : decode cX4_wordEnd 36 = .ok (.ireturn, 1) := by decide +kernel
theorem dX4_wordEnd_37 : decode cX4_wordEnd 37 = .ok (.iinc 1 1, 3) := by decide +kernel
theorem dX4_wordEnd_40 : decode cX4_wordEnd 40 = .ok (.goto (-35), 3) := by decide +kernel
theorem dX4_wordEnd_43 : decode cX4_wordEnd 43 = .ok (.aload_n 0, 1) := by decide +kernel
theorem dX4_wordEnd_44 : decode cX4_wordEnd 44 = .ok (.getfield 15, 3) := by decide +kernel
theorem dX4_wordEnd_47 : decode cX4_wordEnd 47 = .ok (.ireturn, 1) := by decide +kernel
theorem dX4_takeWord_0 : decode cX4_takeWord 0 = .ok (.aload_n 0, 1) := by decide +kernel
theorem dX4_takeWord_1 : decode cX4_takeWord 1 = .ok (.invokevirtual 153, 3) := by decide +kernel
theorem dX4_takeWord_4 : decode cX4_takeWord 4 = .ok (.aload_n 0, 1) := by decide +kernel
theorem dX4_takeWord_5 : decode cX4_takeWord 5 = .ok (.invokevirtual 156, 3) := by decide +kernel
theorem dX4_takeWord_8 : decode cX4_takeWord 8 = .ok (.istore_n 2, 1) := by decide +kernel
theorem dX4_takeWord_9 : decode cX4_takeWord 9 = .ok (.iload_n 2, 1) := by decide +kernel
theorem dX4_takeWord_10 : decode cX4_takeWord 10 = .ok (.aload_n 0, 1) := by decide +kernel
theorem dX4_takeWord_11 : decode cX4_takeWord 11 = .ok (.getfield 25, 3) := by decide +kernel
theorem dX4_takeWord_14 : decode cX4_takeWord 14 = .ok (.isub, 1) := by decide +kernel
theorem dX4_takeWord_15 : decode cX4_takeWord 15 = .ok (.aload_n 1, 1) := by decide +kernel
theorem dX4_takeWord_16 : decode cX4_takeWord 16 = .ok (.invokevirtual 160, 3) := by decide +kernel
theorem dX4_takeWord_19 : decode cX4_takeWord 19 = .ok (.if_icmp .eq 5, 3) := by decide +kernel
theorem dX4_takeWord_22 : decode cX4_takeWord 22 = .ok (.iconst 0, 1) := by decide +kernel
theorem dX4_takeWord_23 : decode cX4_takeWord 23 = .ok (.ireturn, 1) := by decide +kernel
theorem dX4_takeWord_24 : decode cX4_takeWord 24 = .ok (.iconst 0, 1) := by decide +kernel
theorem dX4_takeWord_25 : decode cX4_takeWord 25 = .ok (.istore_n 3, 1) := by decide +kernel
theorem dX4_takeWord_26 : decode cX4_takeWord 26 = .ok (.iload_n 3, 1) := by decide +kernel
theorem dX4_takeWord_27 : decode cX4_takeWord 27 = .ok (.aload_n 1, 1) := by decide +kernel
theorem dX4_takeWord_28 : decode cX4_takeWord 28 = .ok (.invokevirtual 160, 3) := by decide +kernel
theorem dX4_takeWord_31 : decode cX4_takeWord 31 = .ok (.if_icmp .ge 30, 3) := by decide +kernel
theorem dX4_takeWord_34 : decode cX4_takeWord 34 = .ok (.aload_n 0, 1) := by decide +kernel
theorem dX4_takeWord_35 : decode cX4_takeWord 35 = .ok (.getfield 9, 3) := by decide +kernel
theorem dX4_takeWord_38 : decode cX4_takeWord 38 = .ok (.aload_n 0, 1) := by decide +kernel
theorem dX4_takeWord_39 : decode cX4_takeWord 39 = .ok (.getfield 25, 3) := by decide +kernel
theorem dX4_takeWord_42 : decode cX4_takeWord 42 = .ok (.iload_n 3, 1) := by decide +kernel
theorem dX4_takeWord_43 : decode cX4_takeWord 43 = .ok (.iadd, 1) := by decide +kernel
theorem dX4_takeWord_44 : decode cX4_takeWord 44 = .ok (.baload, 1) := by decide +kernel
theorem dX4_takeWord_45 : decode cX4_takeWord 45 = .ok (.aload_n 1, 1) := by decide +kernel
theorem dX4_takeWord_46 : decode cX4_takeWord 46 = .ok (.iload_n 3, 1) := by decide +kernel
theorem dX4_takeWord_47 : decode cX4_takeWord 47 = .ok (.invokevirtual 164, 3) := by decide +kernel
theorem dX4_takeWord_50 : decode cX4_takeWord 50 = .ok (.if_icmp .eq 5, 3) := by decide +kernel
theorem dX4_takeWord_53 : decode cX4_takeWord 53 = .ok (.iconst 0, 1) := by decide +kernel
theorem dX4_takeWord_54 : decode cX4_takeWord 54 = .ok (.ireturn, 1) := by decide +kernel
theorem dX4_takeWord_55 : decode cX4_takeWord 55 = .ok (.iinc 3 1, 3) := by decide +kernel
theorem dX4_takeWord_58 : decode cX4_takeWord 58 = .ok (.goto (-32), 3) := by decide +kernel
theorem dX4_takeWord_61 : decode cX4_takeWord 61 = .ok (.aload_n 0, 1) := by decide +kernel
theorem dX4_takeWord_62 : decode cX4_takeWord 62 = .ok (.aload_n 0, 1) := by decide +kernel
theorem dX4_takeWord_63 : decode cX4_takeWord 63 = .ok (.getfield 25, 3) := by decide +kernel
theorem dX4_takeWord_66 : decode cX4_takeWord 66 = .ok (.putfield 28, 3) := by decide +kernel
theorem dX4_takeWord_69 : decode cX4_takeWord 69 = .ok (.aload_n 0, 1) := by decide +kernel
theorem dX4_takeWord_70 : decode cX4_takeWord 70 = .ok (.iload_n 2, 1) := by decide +kernel
theorem dX4_takeWord_71 : decode cX4_takeWord 71 = .ok (.putfield 25, 3) := by decide +kernel
theorem dX4_takeWord_74 : decode cX4_takeWord 74 = .ok (.iconst 1, 1) := by decide +kernel
theorem dX4_takeWord_75 : decode cX4_takeWord 75 = .ok (.ireturn, 1) := by decide +kernel
theorem dX4_needWord_0 : decode cX4_needWord 0 = .ok (.aload_n 0, 1) := by decide +kernel
theorem dX4_needWord_1 : decode cX4_needWord 1 = .ok (.aload_n 1, 1) := by decide +kernel
theorem dX4_needWord_2 : decode cX4_needWord 2 = .ok (.invokevirtual 47, 3) := by decide +kernel
theorem dX4_needWord_5 : decode cX4_needWord 5 = .ok (.ifCond .ne 16, 3) := by decide +kernel
theorem dX4_needWord_8 : decode cX4_needWord 8 = .ok (.aload_n 0, 1) := by decide +kernel
theorem dX4_needWord_9 : decode cX4_needWord 9 = .ok (.bipush (-2), 2) := by decide +kernel
theorem dX4_needWord_11 : decode cX4_needWord 11 = .ok (.aload_n 0, 1) := by decide +kernel
theorem dX4_needWord_12 : decode cX4_needWord 12 = .ok (.getfield 25, 3) := by decide +kernel
theorem dX4_needWord_15 : decode cX4_needWord 15 = .ok (.invokevirtual 78, 3) := by decide +kernel
theorem dX4_needWord_18 : decode cX4_needWord 18 = .ok (.ifCond .eq 7, 3) := by decide +kernel
theorem dX4_needWord_21 : decode cX4_needWord 21 = .ok (.iconst 1, 1) := by decide +kernel
theorem dX4_needWord_22 : decode cX4_needWord 22 = .ok (.goto 4, 3) := by decide +kernel
theorem dX4_needWord_25 : decode cX4_needWord 25 = .ok (.iconst 0, 1) := by decide +kernel
theorem dX4_needWord_26 : decode cX4_needWord 26 = .ok (.ireturn, 1) := by decide +kernel
theorem dX4_needName_0 : decode cX4_needName 0 = .ok (.aload_n 0, 1) := by decide +kernel
theorem dX4_needName_1 : decode cX4_needName 1 = .ok (.invokevirtual 153, 3) := by decide +kernel
theorem dX4_needName_4 : decode cX4_needName 4 = .ok (.aload_n 0, 1) := by decide +kernel
theorem dX4_needName_5 : decode cX4_needName 5 = .ok (.invokevirtual 156, 3) := by decide +kernel
theorem dX4_needName_8 : decode cX4_needName 8 = .ok (.istore_n 1, 1) := by decide +kernel
theorem dX4_needName_9 : decode cX4_needName 9 = .ok (.iload_n 1, 1) := by decide +kernel
theorem dX4_needName_10 : decode cX4_needName 10 = .ok (.aload_n 0, 1) := by decide +kernel
theorem dX4_needName_11 : decode cX4_needName 11 = .ok (.getfield 25, 3) := by decide +kernel
theorem dX4_needName_14 : decode cX4_needName 14 = .ok (.if_icmp .eq 14, 3) := by decide +kernel
theorem dX4_needName_17 : decode cX4_needName 17 = .ok (.iload_n 1, 1) := by decide +kernel
theorem dX4_needName_18 : decode cX4_needName 18 = .ok (.aload_n 0, 1) := by decide +kernel
theorem dX4_needName_19 : decode cX4_needName 19 = .ok (.getfield 25, 3) := by decide +kernel
theorem dX4_needName_22 : decode cX4_needName 22 = .ok (.isub, 1) := by decide +kernel
theorem dX4_needName_23 : decode cX4_needName 23 = .ok (.bipush 8, 2) := by decide +kernel
theorem dX4_needName_25 : decode cX4_needName 25 = .ok (.if_icmp .le 14, 3) := by decide +kernel
theorem dX4_needName_28 : decode cX4_needName 28 = .ok (.aload_n 0, 1) := by decide +kernel
theorem dX4_needName_29 : decode cX4_needName 29 = .ok (.bipush (-2), 2) := by decide +kernel
theorem dX4_needName_31 : decode cX4_needName 31 = .ok (.aload_n 0, 1) := by decide +kernel
theorem dX4_needName_32 : decode cX4_needName 32 = .ok (.getfield 25, 3) := by decide +kernel
theorem dX4_needName_35 : decode cX4_needName 35 = .ok (.invokevirtual 78, 3) := by decide +kernel
theorem dX4_needName_38 : decode cX4_needName 38 = .ok (.ireturn, 1) := by decide +kernel
theorem dX4_needName_39 : decode cX4_needName 39 = .ok (.aload_n 0, 1) := by decide +kernel
theorem dX4_needName_40 : decode cX4_needName 40 = .ok (.lconst 0, 1) := by decide +kernel
theorem dX4_needName_41 : decode cX4_needName 41 = .ok (.putfield 34, 3) := by decide +kernel
theorem dX4_needName_44 : decode cX4_needName 44 = .ok (.aload_n 0, 1) := by decide +kernel
theorem dX4_needName_45 : decode cX4_needName 45 = .ok (.getfield 25, 3) := by decide +kernel
theorem dX4_needName_48 : decode cX4_needName 48 = .ok (.istore_n 2, 1) := by decide +kernel
theorem dX4_needName_49 : decode cX4_needName 49 = .ok (.iload_n 2, 1) := by decide +kernel
theorem dX4_needName_50 : decode cX4_needName 50 = .ok (.iload_n 1, 1) := by decide +kernel
theorem dX4_needName_51 : decode cX4_needName 51 = .ok (.if_icmp .ge 26, 3) := by decide +kernel
theorem dX4_needName_54 : decode cX4_needName 54 = .ok (.aload_n 0, 1) := by decide +kernel
theorem dX4_needName_55 : decode cX4_needName 55 = .ok (.aload_n 0, 1) := by decide +kernel
theorem dX4_needName_56 : decode cX4_needName 56 = .ok (.getfield 34, 3) := by decide +kernel
theorem dX4_needName_59 : decode cX4_needName 59 = .ok (.aload_n 0, 1) := by decide +kernel
theorem dX4_needName_60 : decode cX4_needName 60 = .ok (.getfield 9, 3) := by decide +kernel
theorem dX4_needName_63 : decode cX4_needName 63 = .ok (.iload_n 2, 1) := by decide +kernel
theorem dX4_needName_64 : decode cX4_needName 64 = .ok (.baload, 1) := by decide +kernel
theorem dX4_needName_65 : decode cX4_needName 65 = .ok (.invokestatic 170, 3) := by decide +kernel
theorem dX4_needName_68 : decode cX4_needName 68 = .ok (.putfield 34, 3) := by decide +kernel
theorem dX4_needName_71 : decode cX4_needName 71 = .ok (.iinc 2 1, 3) := by decide +kernel
theorem dX4_needName_74 : decode cX4_needName 74 = .ok (.goto (-25), 3) := by decide +kernel
theorem dX4_needName_77 : decode cX4_needName 77 = .ok (.aload_n 0, 1) := by decide +kernel
theorem dX4_needName_78 : decode cX4_needName 78 = .ok (.aload_n 0, 1) := by decide +kernel
theorem dX4_needName_79 : decode cX4_needName 79 = .ok (.getfield 25, 3) := by decide +kernel
theorem dX4_needName_82 : decode cX4_needName 82 = .ok (.putfield 28, 3) := by decide +kernel
theorem dX4_needName_85 : decode cX4_needName 85 = .ok (.aload_n 0, 1) := by decide +kernel
theorem dX4_needName_86 : decode cX4_needName 86 = .ok (.iload_n 1, 1) := by decide +kernel
theorem dX4_needName_87 : decode cX4_needName 87 = .ok (.putfield 25, 3) := by decide +kernel
theorem dX4_needName_90 : decode cX4_needName 90 = .ok (.iconst 1, 1) := by decide +kernel
theorem dX4_needName_91 : decode cX4_needName 91 = .ok (.ireturn, 1) := by decide +kernel
theorem dX4_isDigitNext_0 : decode cX4_isDigitNext 0 = .ok (.aload_n 0, 1) := by decide +kernel
theorem dX4_isDigitNext_1 : decode cX4_isDigitNext 1 = .ok (.invokevirtual 153, 3) := by decide +kernel
theorem dX4_isDigitNext_4 : decode cX4_isDigitNext 4 = .ok (.aload_n 0, 1) := by decide +kernel
theorem dX4_isDigitNext_5 : decode cX4_isDigitNext 5 = .ok (.aload_n 0, 1) := by decide +kernel
theorem dX4_isDigitNext_6 : decode cX4_isDigitNext 6 = .ok (.getfield 25, 3) := by decide +kernel
theorem dX4_isDigitNext_9 : decode cX4_isDigitNext 9 = .ok (.invokevirtual 174, 3) := by decide +kernel
theorem dX4_isDigitNext_12 : decode cX4_isDigitNext 12 = .ok (.ireturn, 1) := by decide +kernel
theorem dX4_isDigitAt_0 : decode cX4_isDigitAt 0 = .ok (.iload_n 1, 1) := by decide +kernel
theorem dX4_isDigitAt_1 : decode cX4_isDigitAt 1 = .ok (.aload_n 0, 1) := by decide +kernel
theorem dX4_isDigitAt_2 : decode cX4_isDigitAt 2 = .ok (.getfield 15, 3) := by decide +kernel
theorem dX4_isDigitAt_5 : decode cX4_isDigitAt 5 = .ok (.if_icmp .ge 29, 3) := by decide +kernel
theorem dX4_isDigitAt_8 : decode cX4_isDigitAt 8 = .ok (.aload_n 0, 1) := by decide +kernel
theorem dX4_isDigitAt_9 : decode cX4_isDigitAt 9 = .ok (.getfield 9, 3) := by decide +kernel
theorem dX4_isDigitAt_12 : decode cX4_isDigitAt 12 = .ok (.iload_n 1, 1) := by decide +kernel
theorem dX4_isDigitAt_13 : decode cX4_isDigitAt 13 = .ok (.baload, 1) := by decide +kernel
theorem dX4_isDigitAt_14 : decode cX4_isDigitAt 14 = .ok (.bipush 48, 2) := by decide +kernel
theorem dX4_isDigitAt_16 : decode cX4_isDigitAt 16 = .ok (.if_icmp .lt 18, 3) := by decide +kernel
theorem dX4_isDigitAt_19 : decode cX4_isDigitAt 19 = .ok (.aload_n 0, 1) := by decide +kernel
theorem dX4_isDigitAt_20 : decode cX4_isDigitAt 20 = .ok (.getfield 9, 3) := by decide +kernel
theorem dX4_isDigitAt_23 : decode cX4_isDigitAt 23 = .ok (.iload_n 1, 1) := by decide +kernel
theorem dX4_isDigitAt_24 : decode cX4_isDigitAt 24 = .ok (.baload, 1) := by decide +kernel
theorem dX4_isDigitAt_25 : decode cX4_isDigitAt 25 = .ok (.bipush 57, 2) := by decide +kernel
theorem dX4_isDigitAt_27 : decode cX4_isDigitAt 27 = .ok (.if_icmp .gt 7, 3) := by decide +kernel
theorem dX4_isDigitAt_30 : decode cX4_isDigitAt 30 = .ok (.iconst 1, 1) := by decide +kernel
theorem dX4_isDigitAt_31 : decode cX4_isDigitAt 31 = .ok (.goto 4, 3) := by decide +kernel
theorem dX4_isDigitAt_34 : decode cX4_isDigitAt 34 = .ok (.iconst 0, 1) := by decide +kernel
theorem dX4_isDigitAt_35 : decode cX4_isDigitAt 35 = .ok (.ireturn, 1) := by decide +kernel
theorem dX4_needNumber_0 : decode cX4_needNumber 0 = .ok (.aload_n 0, 1) := by decide +kernel
theorem dX4_needNumber_1 : decode cX4_needNumber 1 = .ok (.invokevirtual 153, 3) := by decide +kernel
theorem dX4_needNumber_4 : decode cX4_needNumber 4 = .ok (.aload_n 0, 1) := by decide +kernel
theorem dX4_needNumber_5 : decode cX4_needNumber 5 = .ok (.aload_n 0, 1) := by decide +kernel
theorem dX4_needNumber_6 : decode cX4_needNumber 6 = .ok (.getfield 25, 3) := by decide +kernel
theorem dX4_needNumber_9 : decode cX4_needNumber 9 = .ok (.invokevirtual 174, 3) := by decide +kernel
theorem dX4_needNumber_12 : decode cX4_needNumber 12 = .ok (.ifCond .ne 14, 3) := by decide +kernel
theorem dX4_needNumber_15 : decode cX4_needNumber 15 = .ok (.aload_n 0, 1) := by decide +kernel
theorem dX4_needNumber_16 : decode cX4_needNumber 16 = .ok (.bipush (-2), 2) := by decide +kernel
theorem dX4_needNumber_18 : decode cX4_needNumber 18 = .ok (.aload_n 0, 1) := by decide +kernel
theorem dX4_needNumber_19 : decode cX4_needNumber 19 = .ok (.getfield 25, 3) := by decide +kernel
theorem dX4_needNumber_22 : decode cX4_needNumber 22 = .ok (.invokevirtual 78, 3) := by decide +kernel
theorem dX4_needNumber_25 : decode cX4_needNumber 25 = .ok (.ireturn, 1) := by decide +kernel
theorem dX4_needNumber_26 : decode cX4_needNumber 26 = .ok (.aload_n 0, 1) := by decide +kernel
theorem dX4_needNumber_27 : decode cX4_needNumber 27 = .ok (.aload_n 0, 1) := by decide +kernel
theorem dX4_needNumber_28 : decode cX4_needNumber 28 = .ok (.getfield 25, 3) := by decide +kernel
theorem dX4_needNumber_31 : decode cX4_needNumber 31 = .ok (.putfield 28, 3) := by decide +kernel
theorem dX4_needNumber_34 : decode cX4_needNumber 34 = .ok (.aload_n 0, 1) := by decide +kernel
theorem dX4_needNumber_35 : decode cX4_needNumber 35 = .ok (.iconst 0, 1) := by decide +kernel
theorem dX4_needNumber_36 : decode cX4_needNumber 36 = .ok (.putfield 31, 3) := by decide +kernel
theorem dX4_needNumber_39 : decode cX4_needNumber 39 = .ok (.aload_n 0, 1) := by decide +kernel
theorem dX4_needNumber_40 : decode cX4_needNumber 40 = .ok (.getfield 25, 3) := by decide +kernel
theorem dX4_needNumber_43 : decode cX4_needNumber 43 = .ok (.istore_n 3, 1) := by decide +kernel
theorem dX4_needNumber_44 : decode cX4_needNumber 44 = .ok (.iload_n 3, 1) := by decide +kernel
theorem dX4_needNumber_45 : decode cX4_needNumber 45 = .ok (.aload_n 0, 1) := by decide +kernel
theorem dX4_needNumber_46 : decode cX4_needNumber 46 = .ok (.getfield 15, 3) := by decide +kernel
theorem dX4_needNumber_49 : decode cX4_needNumber 49 = .ok (.if_icmp .ge 51, 3) := by decide +kernel
theorem dX4_needNumber_52 : decode cX4_needNumber 52 = .ok (.aload_n 0, 1) := by decide +kernel
theorem dX4_needNumber_53 : decode cX4_needNumber 53 = .ok (.iload_n 3, 1) := by decide +kernel
theorem dX4_needNumber_54 : decode cX4_needNumber 54 = .ok (.invokevirtual 174, 3) := by decide +kernel
theorem dX4_needNumber_57 : decode cX4_needNumber 57 = .ok (.ifCond .eq 43, 3) := by decide +kernel
theorem dX4_needNumber_60 : decode cX4_needNumber 60 = .ok (.aload_n 0, 1) := by decide +kernel
theorem dX4_needNumber_61 : decode cX4_needNumber 61 = .ok (.bipush 10, 2) := by decide +kernel
theorem dX4_needNumber_63 : decode cX4_needNumber 63 = .ok (.aload_n 0, 1) := by decide +kernel
theorem dX4_needNumber_64 : decode cX4_needNumber 64 = .ok (.getfield 31, 3) := by decide +kernel
theorem dX4_needNumber_67 : decode cX4_needNumber 67 = .ok (.imul, 1) := by decide +kernel
theorem dX4_needNumber_68 : decode cX4_needNumber 68 = .ok (.aload_n 0, 1) := by decide +kernel
theorem dX4_needNumber_69 : decode cX4_needNumber 69 = .ok (.getfield 9, 3) := by decide +kernel
theorem dX4_needNumber_72 : decode cX4_needNumber 72 = .ok (.iload_n 3, 1) := by decide +kernel
theorem dX4_needNumber_73 : decode cX4_needNumber 73 = .ok (.baload, 1) := by decide +kernel
theorem dX4_needNumber_74 : decode cX4_needNumber 74 = .ok (.iadd, 1) := by decide +kernel
theorem dX4_needNumber_75 : decode cX4_needNumber 75 = .ok (.bipush 48, 2) := by decide +kernel
theorem dX4_needNumber_77 : decode cX4_needNumber 77 = .ok (.isub, 1) := by decide +kernel
theorem dX4_needNumber_78 : decode cX4_needNumber 78 = .ok (.sipush 1000, 3) := by decide +kernel
theorem dX4_needNumber_81 : decode cX4_needNumber 81 = .ok (.invokestatic 178, 3) := by decide +kernel
theorem dX4_needNumber_84 : decode cX4_needNumber 84 = .ok (.putfield 31, 3) := by decide +kernel
theorem dX4_needNumber_87 : decode cX4_needNumber 87 = .ok (.aload_n 0, 1) := by decide +kernel
theorem dX4_needNumber_88 : decode cX4_needNumber 88 = .ok (.iload_n 3, 1) := by decide +kernel
theorem dX4_needNumber_89 : decode cX4_needNumber 89 = .ok (.iconst 1, 1) := by decide +kernel
theorem dX4_needNumber_90 : decode cX4_needNumber 90 = .ok (.iadd, 1) := by decide +kernel
theorem dX4_needNumber_91 : decode cX4_needNumber 91 = .ok (.putfield 25, 3) := by decide +kernel
theorem dX4_needNumber_94 : decode cX4_needNumber 94 = .ok (.iinc 3 1, 3) := by decide +kernel
theorem dX4_needNumber_97 : decode cX4_needNumber 97 = .ok (.goto (-53), 3) := by decide +kernel
theorem dX4_needNumber_100 : decode cX4_needNumber 100 = .ok (.aload_n 0, 1) := by decide +kernel
theorem dX4_needNumber_101 : decode cX4_needNumber 101 = .ok (.getfield 31, 3) := by decide +kernel
theorem dX4_needNumber_104 : decode cX4_needNumber 104 = .ok (.iload_n 1, 1) := by decide +kernel
theorem dX4_needNumber_105 : decode cX4_needNumber 105 = .ok (.if_icmp .lt 11, 3) := by decide +kernel
theorem dX4_needNumber_108 : decode cX4_needNumber 108 = .ok (.aload_n 0, 1) := by decide +kernel
theorem dX4_needNumber_109 : decode cX4_needNumber 109 = .ok (.getfield 31, 3) := by decide +kernel
theorem dX4_needNumber_112 : decode cX4_needNumber 112 = .ok (.iload_n 2, 1) := by decide +kernel
theorem dX4_needNumber_113 : decode cX4_needNumber 113 = .ok (.if_icmp .le 16, 3) := by decide +kernel
theorem dX4_needNumber_116 : decode cX4_needNumber 116 = .ok (.aload_n 0, 1) := by decide +kernel
theorem dX4_needNumber_117 : decode cX4_needNumber 117 = .ok (.bipush (-3), 2) := by decide +kernel
theorem dX4_needNumber_119 : decode cX4_needNumber 119 = .ok (.aload_n 0, 1) := by decide +kernel
theorem dX4_needNumber_120 : decode cX4_needNumber 120 = .ok (.getfield 28, 3) := by decide +kernel
theorem dX4_needNumber_123 : decode cX4_needNumber 123 = .ok (.invokevirtual 78, 3) := by decide +kernel
theorem dX4_needNumber_126 : decode cX4_needNumber 126 = .ok (.ifCond .eq 7, 3) := by decide +kernel
theorem dX4_needNumber_129 : decode cX4_needNumber 129 = .ok (.iconst 1, 1) := by decide +kernel
theorem dX4_needNumber_130 : decode cX4_needNumber 130 = .ok (.goto 4, 3) := by decide +kernel
theorem dX4_needNumber_133 : decode cX4_needNumber 133 = .ok (.iconst 0, 1) := by decide +kernel
theorem dX4_needNumber_134 : decode cX4_needNumber 134 = .ok (.ireturn, 1) := by decide +kernel
theorem dX4_needSemicolon_0 : decode cX4_needSemicolon 0 = .ok (.aload_n 0, 1) := by decide +kernel
theorem dX4_needSemicolon_1 : decode cX4_needSemicolon 1 = .ok (.invokevirtual 153, 3) := by decide +kernel
theorem dX4_needSemicolon_4 : decode cX4_needSemicolon 4 = .ok (.aload_n 0, 1) := by decide +kernel
theorem dX4_needSemicolon_5 : decode cX4_needSemicolon 5 = .ok (.getfield 25, 3) := by decide +kernel
theorem dX4_needSemicolon_8 : decode cX4_needSemicolon 8 = .ok (.aload_n 0, 1) := by decide +kernel
theorem dX4_needSemicolon_9 : decode cX4_needSemicolon 9 = .ok (.getfield 15, 3) := by decide +kernel
theorem dX4_needSemicolon_12 : decode cX4_needSemicolon 12 = .ok (.if_icmp .ge 17, 3) := by decide +kernel
theorem dX4_needSemicolon_15 : decode cX4_needSemicolon 15 = .ok (.aload_n 0, 1) := by decide +kernel
theorem dX4_needSemicolon_16 : decode cX4_needSemicolon 16 = .ok (.getfield 9, 3) := by decide +kernel
theorem dX4_needSemicolon_19 : decode cX4_needSemicolon 19 = .ok (.aload_n 0, 1) := by decide +kernel
theorem dX4_needSemicolon_20 : decode cX4_needSemicolon 20 = .ok (.getfield 25, 3) := by decide +kernel
theorem dX4_needSemicolon_23 : decode cX4_needSemicolon 23 = .ok (.baload, 1) := by decide +kernel
theorem dX4_needSemicolon_24 : decode cX4_needSemicolon 24 = .ok (.bipush 59, 2) := by decide +kernel
theorem dX4_needSemicolon_26 : decode cX4_needSemicolon 26 = .ok (.if_icmp .eq 14, 3) := by decide +kernel
theorem dX4_needSemicolon_29 : decode cX4_needSemicolon 29 = .ok (.aload_n 0, 1) := by decide +kernel
theorem dX4_needSemicolon_30 : decode cX4_needSemicolon 30 = .ok (.bipush (-2), 2) := by decide +kernel
theorem dX4_needSemicolon_32 : decode cX4_needSemicolon 32 = .ok (.aload_n 0, 1) := by decide +kernel
theorem dX4_needSemicolon_33 : decode cX4_needSemicolon 33 = .ok (.getfield 25, 3) := by decide +kernel
theorem dX4_needSemicolon_36 : decode cX4_needSemicolon 36 = .ok (.invokevirtual 78, 3) := by decide +kernel
theorem dX4_needSemicolon_39 : decode cX4_needSemicolon 39 = .ok (.ireturn, 1) := by decide +kernel
theorem dX4_needSemicolon_40 : decode cX4_needSemicolon 40 = .ok (.aload_n 0, 1) := by decide +kernel
theorem dX4_needSemicolon_41 : decode cX4_needSemicolon 41 = .ok (.dup, 1) := by decide +kernel
theorem dX4_needSemicolon_42 : decode cX4_needSemicolon 42 = .ok (.getfield 25, 3) := by decide +kernel
theorem dX4_needSemicolon_45 : decode cX4_needSemicolon 45 = .ok (.iconst 1, 1) := by decide +kernel
theorem dX4_needSemicolon_46 : decode cX4_needSemicolon 46 = .ok (.iadd, 1) := by decide +kernel
theorem dX4_needSemicolon_47 : decode cX4_needSemicolon 47 = .ok (.putfield 25, 3) := by decide +kernel
theorem dX4_needSemicolon_50 : decode cX4_needSemicolon 50 = .ok (.iconst 1, 1) := by decide +kernel
theorem dX4_needSemicolon_51 : decode cX4_needSemicolon 51 = .ok (.ireturn, 1) := by decide +kernel
theorem dX4_needEnd_0 : decode cX4_needEnd 0 = .ok (.aload_n 0, 1) := by decide +kernel
theorem dX4_needEnd_1 : decode cX4_needEnd 1 = .ok (.invokevirtual 153, 3) := by decide +kernel
theorem dX4_needEnd_4 : decode cX4_needEnd 4 = .ok (.aload_n 0, 1) := by decide +kernel
theorem dX4_needEnd_5 : decode cX4_needEnd 5 = .ok (.getfield 25, 3) := by decide +kernel
theorem dX4_needEnd_8 : decode cX4_needEnd 8 = .ok (.aload_n 0, 1) := by decide +kernel
theorem dX4_needEnd_9 : decode cX4_needEnd 9 = .ok (.getfield 15, 3) := by decide +kernel
theorem dX4_needEnd_12 : decode cX4_needEnd 12 = .ok (.if_icmp .ge 16, 3) := by decide +kernel
theorem dX4_needEnd_15 : decode cX4_needEnd 15 = .ok (.aload_n 0, 1) := by decide +kernel
theorem dX4_needEnd_16 : decode cX4_needEnd 16 = .ok (.bipush (-2), 2) := by decide +kernel
theorem dX4_needEnd_18 : decode cX4_needEnd 18 = .ok (.aload_n 0, 1) := by decide +kernel
theorem dX4_needEnd_19 : decode cX4_needEnd 19 = .ok (.getfield 25, 3) := by decide +kernel
theorem dX4_needEnd_22 : decode cX4_needEnd 22 = .ok (.invokevirtual 78, 3) := by decide +kernel
theorem dX4_needEnd_25 : decode cX4_needEnd 25 = .ok (.ifCond .eq 7, 3) := by decide +kernel
theorem dX4_needEnd_28 : decode cX4_needEnd 28 = .ok (.iconst 1, 1) := by decide +kernel
theorem dX4_needEnd_29 : decode cX4_needEnd 29 = .ok (.goto 4, 3) := by decide +kernel
theorem dX4_needEnd_32 : decode cX4_needEnd 32 = .ok (.iconst 0, 1) := by decide +kernel
theorem dX4_needEnd_33 : decode cX4_needEnd 33 = .ok (.ireturn, 1) := by decide +kernel
