theorem dX1_init_0 : decode cX1_init 0 = .ok (.aload_n 0, 1) := by decide +kernel
theorem dX1_init_1 : decode cX1_init 1 = .ok (.invokespecial 3, 3) := by decide +kernel
theorem dX1_init_4 : decode cX1_init 4 = .ok (.aload_n 0, 1) := by decide +kernel
theorem dX1_init_5 : decode cX1_init 5 = .ok (.bipush 8, 2) := by decide +kernel
theorem dX1_init_7 : decode cX1_init 7 = .ok (.anewarray 9, 3) := by decide +kernel
theorem dX1_init_10 : decode cX1_init 10 = .ok (.putfield 11, 3) := by decide +kernel
theorem dX1_init_13 : decode cX1_init 13 = .ok (.aload_n 0, 1) := by decide +kernel
theorem dX1_init_14 : decode cX1_init 14 = .ok (.iconst 0, 1) := by decide +kernel
theorem dX1_init_15 : decode cX1_init 15 = .ok (.putfield 17, 3) := by decide +kernel
theorem dX1_init_18 : decode cX1_init 18 = .ok (.aload_n 0, 1) := by decide +kernel
theorem dX1_init_19 : decode cX1_init 19 = .ok (.iconst 0, 1) := by decide +kernel
theorem dX1_init_20 : decode cX1_init 20 = .ok (.putfield 21, 3) := by decide +kernel
theorem dX1_init_23 : decode cX1_init 23 = .ok (.return_, 1) := by decide +kernel
theorem dX1_keep_0 : decode cX1_keep 0 = .ok (.aload_n 0, 1) := by decide +kernel
theorem dX1_keep_1 : decode cX1_keep 1 = .ok (.getfield 11, 3) := by decide +kernel
theorem dX1_keep_4 : decode cX1_keep 4 = .ok (.aload_n 0, 1) := by decide +kernel
theorem dX1_keep_5 : decode cX1_keep 5 = .ok (.getfield 17, 3) := by decide +kernel
theorem dX1_keep_8 : decode cX1_keep 8 = .ok (.aaload, 1) := by decide +kernel
theorem dX1_keep_9 : decode cX1_keep 9 = .ok (.astore_n 2, 1) := by decide +kernel
theorem dX1_keep_10 : decode cX1_keep 10 = .ok (.aload_n 2, 1) := by decide +kernel
theorem dX1_keep_11 : decode cX1_keep 11 = .ok (.ifnonnull 21, 3) := by decide +kernel
theorem dX1_keep_14 : decode cX1_keep 14 = .ok (.new 9, 3) := by decide +kernel
theorem dX1_keep_17 : decode cX1_keep 17 = .ok (.dup, 1) := by decide +kernel
theorem dX1_keep_18 : decode cX1_keep 18 = .ok (.invokespecial 24, 3) := by decide +kernel
theorem dX1_keep_21 : decode cX1_keep 21 = .ok (.astore_n 2, 1) := by decide +kernel
theorem dX1_keep_22 : decode cX1_keep 22 = .ok (.aload_n 0, 1) := by decide +kernel
theorem dX1_keep_23 : decode cX1_keep 23 = .ok (.getfield 11, 3) := by decide +kernel
theorem dX1_keep_26 : decode cX1_keep 26 = .ok (.aload_n 0, 1) := by decide +kernel
theorem dX1_keep_27 : decode cX1_keep 27 = .ok (.getfield 17, 3) := by decide +kernel
theorem dX1_keep_30 : decode cX1_keep 30 = .ok (.aload_n 2, 1) := by decide +kernel
theorem dX1_keep_31 : decode cX1_keep 31 = .ok (.aastore, 1) := by decide +kernel
theorem dX1_keep_32 : decode cX1_keep 32 = .ok (.aload_n 2, 1) := by decide +kernel
theorem dX1_keep_33 : decode cX1_keep 33 = .ok (.aload_n 1, 1) := by decide +kernel
theorem dX1_keep_34 : decode cX1_keep 34 = .ok (.invokevirtual 25, 3) := by decide +kernel
theorem dX1_keep_37 : decode cX1_keep 37 = .ok (.aload_n 0, 1) := by decide +kernel
theorem dX1_keep_38 : decode cX1_keep 38 = .ok (.aload_n 0, 1) := by decide +kernel
theorem dX1_keep_39 : decode cX1_keep 39 = .ok (.getfield 17, 3) := by decide +kernel
theorem dX1_keep_42 : decode cX1_keep 42 = .ok (.iconst 1, 1) := by decide +kernel
theorem dX1_keep_43 : decode cX1_keep 43 = .ok (.iadd, 1) := by decide +kernel
theorem dX1_keep_44 : decode cX1_keep 44 = .ok (.bipush 8, 2) := by decide +kernel
theorem dX1_keep_46 : decode cX1_keep 46 = .ok (.irem, 1) := by decide +kernel
theorem dX1_keep_47 : decode cX1_keep 47 = .ok (.putfield 17, 3) := by decide +kernel
theorem dX1_keep_50 : decode cX1_keep 50 = .ok (.aload_n 0, 1) := by decide +kernel
theorem dX1_keep_51 : decode cX1_keep 51 = .ok (.aload_n 0, 1) := by decide +kernel
theorem dX1_keep_52 : decode cX1_keep 52 = .ok (.getfield 21, 3) := by decide +kernel
theorem dX1_keep_55 : decode cX1_keep 55 = .ok (.iconst 1, 1) := by decide +kernel
theorem dX1_keep_56 : decode cX1_keep 56 = .ok (.iadd, 1) := by decide +kernel
theorem dX1_keep_57 : decode cX1_keep 57 = .ok (.bipush 8, 2) := by decide +kernel
theorem dX1_keep_59 : decode cX1_keep 59 = .ok (.invokestatic 29, 3) := by decide +kernel
theorem dX1_keep_62 : decode cX1_keep 62 = .ok (.putfield 21, 3) := by decide +kernel
theorem dX1_keep_65 : decode cX1_keep 65 = .ok (.return_, 1) := by decide +kernel
theorem dX1_giveBack_0 : decode cX1_giveBack 0 = .ok (.aload_n 0, 1) := by decide +kernel
theorem dX1_giveBack_1 : decode cX1_giveBack 1 = .ok (.getfield 17, 3) := by decide +kernel
theorem dX1_giveBack_4 : decode cX1_giveBack 4 = .ok (.bipush 8, 2) := by decide +kernel
theorem dX1_giveBack_6 : decode cX1_giveBack 6 = .ok (.iadd, 1) := by decide +kernel
theorem dX1_giveBack_7 : decode cX1_giveBack 7 = .ok (.iconst 1, 1) := by decide +kernel
theorem dX1_giveBack_8 : decode cX1_giveBack 8 = .ok (.isub, 1) := by decide +kernel
theorem dX1_giveBack_9 : decode cX1_giveBack 9 = .ok (.bipush 8, 2) := by decide +kernel
theorem dX1_giveBack_11 : decode cX1_giveBack 11 = .ok (.irem, 1) := by decide +kernel
theorem dX1_giveBack_12 : decode cX1_giveBack 12 = .ok (.istore_n 2, 1) := by decide +kernel
theorem dX1_giveBack_13 : decode cX1_giveBack 13 = .ok (.aload_n 0, 1) := by decide +kernel
theorem dX1_giveBack_14 : decode cX1_giveBack 14 = .ok (.getfield 11, 3) := by decide +kernel
theorem dX1_giveBack_17 : decode cX1_giveBack 17 = .ok (.iload_n 2, 1) := by decide +kernel
theorem dX1_giveBack_18 : decode cX1_giveBack 18 = .ok (.aaload, 1) := by decide +kernel
theorem dX1_giveBack_19 : decode cX1_giveBack 19 = .ok (.astore_n 3, 1) := by decide +kernel
theorem dX1_giveBack_20 : decode cX1_giveBack 20 = .ok (.aload_n 0, 1) := by decide +kernel
theorem dX1_giveBack_21 : decode cX1_giveBack 21 = .ok (.getfield 21, 3) := by decide +kernel
theorem dX1_giveBack_24 : decode cX1_giveBack 24 = .ok (.ifCond .eq 7, 3) := by decide +kernel
theorem dX1_giveBack_27 : decode cX1_giveBack 27 = .ok (.aload_n 3, 1) := by decide +kernel
theorem dX1_giveBack_28 : decode cX1_giveBack 28 = .ok (.ifnonnull 5, 3) := by decide +kernel
theorem dX1_giveBack_31 : decode cX1_giveBack 31 = .ok (.iconst 0, 1) := by decide +kernel
theorem dX1_giveBack_32 : decode cX1_giveBack 32 = .ok (.ireturn, 1) := by decide +kernel
theorem dX1_giveBack_33 : decode cX1_giveBack 33 = .ok (.aload_n 1, 1) := by decide +kernel
theorem dX1_giveBack_34 : decode cX1_giveBack 34 = .ok (.aload_n 3, 1) := by decide +kernel
theorem dX1_giveBack_35 : decode cX1_giveBack 35 = .ok (.invokevirtual 25, 3) := by decide +kernel
theorem dX1_giveBack_38 : decode cX1_giveBack 38 = .ok (.aload_n 0, 1) := by decide +kernel
theorem dX1_giveBack_39 : decode cX1_giveBack 39 = .ok (.iload_n 2, 1) := by decide +kernel
theorem dX1_giveBack_40 : decode cX1_giveBack 40 = .ok (.putfield 17, 3) := by decide +kernel
theorem dX1_giveBack_43 : decode cX1_giveBack 43 = .ok (.aload_n 0, 1) := by decide +kernel
theorem dX1_giveBack_44 : decode cX1_giveBack 44 = .ok (.dup, 1) := by decide +kernel
theorem dX1_giveBack_45 : decode cX1_giveBack 45 = .ok (.getfield 21, 3) := by decide +kernel
theorem dX1_giveBack_48 : decode cX1_giveBack 48 = .ok (.iconst 1, 1) := by decide +kernel
theorem dX1_giveBack_49 : decode cX1_giveBack 49 = .ok (.isub, 1) := by decide +kernel
theorem dX1_giveBack_50 : decode cX1_giveBack 50 = .ok (.putfield 21, 3) := by decide +kernel
theorem dX1_giveBack_53 : decode cX1_giveBack 53 = .ok (.iconst 1, 1) := by decide +kernel
theorem dX1_giveBack_54 : decode cX1_giveBack 54 = .ok (.ireturn, 1) := by decide +kernel
theorem dX2_withSign_0 : decode cX2_withSign 0 = .ok (.iload_n 2, 1) := by decide +kernel
theorem dX2_withSign_1 : decode cX2_withSign 1 = .ok (.bipush 45, 2) := by decide +kernel
theorem dX2_withSign_3 : decode cX2_withSign 3 = .ok (.if_icmp .ne 8, 3) := by decide +kernel
theorem dX2_withSign_6 : decode cX2_withSign 6 = .ok (.bipush 27, 2) := by decide +kernel
theorem dX2_withSign_8 : decode cX2_withSign 8 = .ok (.goto 9, 3) := by decide +kernel
theorem dX2_withSign_11 : decode cX2_withSign 11 = .ok (.iload_n 2, 1) := by decide +kernel
theorem dX2_withSign_12 : decode cX2_withSign 12 = .ok (.bipush 97, 2) := by decide +kernel
theorem dX2_withSign_14 : decode cX2_withSign 14 = .ok (.isub, 1) := by decide +kernel
theorem dX2_withSign_15 : decode cX2_withSign 15 = .ok (.iconst 1, 1) := by decide +kernel
theorem dX2_withSign_16 : decode cX2_withSign 16 = .ok (.iadd, 1) := by decide +kernel
theorem dX2_withSign_17 : decode cX2_withSign 17 = .ok (.istore_n 3, 1) := by decide +kernel
theorem dX2_withSign_18 : decode cX2_withSign 18 = .ok (.lload_n 0, 1) := by decide +kernel
theorem dX2_withSign_19 : decode cX2_withSign 19 = .ok (.iconst 5, 1) := by decide +kernel
theorem dX2_withSign_20 : decode cX2_withSign 20 = .ok (.lshl, 1) := by decide +kernel
theorem dX2_withSign_21 : decode cX2_withSign 21 = .ok (.iload_n 3, 1) := by decide +kernel
theorem dX2_withSign_22 : decode cX2_withSign 22 = .ok (.i2l, 1) := by decide +kernel
theorem dX2_withSign_23 : decode cX2_withSign 23 = .ok (.lor, 1) := by decide +kernel
theorem dX2_withSign_24 : decode cX2_withSign 24 = .ok (.lreturn, 1) := by decide +kernel
theorem dX2_signFromEnd_0 : decode cX2_signFromEnd 0 = .ok (.lload_n 0, 1) := by decide +kernel
theorem dX2_signFromEnd_1 : decode cX2_signFromEnd 1 = .ok (.iconst 5, 1) := by decide +kernel
theorem dX2_signFromEnd_2 : decode cX2_signFromEnd 2 = .ok (.iload_n 2, 1) := by decide +kernel
theorem dX2_signFromEnd_3 : decode cX2_signFromEnd 3 = .ok (.imul, 1) := by decide +kernel
theorem dX2_signFromEnd_4 : decode cX2_signFromEnd 4 = .ok (.lushr, 1) := by decide +kernel
theorem dX2_signFromEnd_5 : decode cX2_signFromEnd 5 = .ok (.l2i, 1) := by decide +kernel
theorem dX2_signFromEnd_6 : decode cX2_signFromEnd 6 = .ok (.bipush 31, 2) := by decide +kernel
theorem dX2_signFromEnd_8 : decode cX2_signFromEnd 8 = .ok (.iand, 1) := by decide +kernel
theorem dX2_signFromEnd_9 : decode cX2_signFromEnd 9 = .ok (.istore_n 3, 1) := by decide +kernel
theorem dX2_signFromEnd_10 : decode cX2_signFromEnd 10 = .ok (.iload_n 3, 1) := by decide +kernel
theorem dX2_signFromEnd_11 : decode cX2_signFromEnd 11 = .ok (.ifCond .ne 5, 3) := by decide +kernel
theorem dX2_signFromEnd_14 : decode cX2_signFromEnd 14 = .ok (.iconst 0, 1) := by decide +kernel
theorem dX2_signFromEnd_15 : decode cX2_signFromEnd 15 = .ok (.ireturn, 1) := by decide +kernel
theorem dX2_signFromEnd_16 : decode cX2_signFromEnd 16 = .ok (.iload_n 3, 1) := by decide +kernel
theorem dX2_signFromEnd_17 : decode cX2_signFromEnd 17 = .ok (.bipush 27, 2) := by decide +kernel
theorem dX2_signFromEnd_19 : decode cX2_signFromEnd 19 = .ok (.if_icmp .ne 8, 3) := by decide +kernel
theorem dX2_signFromEnd_22 : decode cX2_signFromEnd 22 = .ok (.bipush 45, 2) := by decide +kernel
theorem dX2_signFromEnd_24 : decode cX2_signFromEnd 24 = .ok (.goto 9, 3) := by decide +kernel
theorem dX2_signFromEnd_27 : decode cX2_signFromEnd 27 = .ok (.iload_n 3, 1) := by decide +kernel
theorem dX2_signFromEnd_28 : decode cX2_signFromEnd 28 = .ok (.bipush 97, 2) := by decide +kernel
theorem dX2_signFromEnd_30 : decode cX2_signFromEnd 30 = .ok (.iadd, 1) := by decide +kernel
theorem dX2_signFromEnd_31 : decode cX2_signFromEnd 31 = .ok (.iconst 1, 1) := by decide +kernel
theorem dX2_signFromEnd_32 : decode cX2_signFromEnd 32 = .ok (.isub, 1) := by decide +kernel
theorem dX2_signFromEnd_33 : decode cX2_signFromEnd 33 = .ok (.ireturn, 1) := by decide +kernel
theorem dX3_init_0 : decode cX3_init 0 = .ok (.aload_n 0, 1) := by decide +kernel
theorem dX3_init_1 : decode cX3_init 1 = .ok (.invokespecial 5, 3) := by decide +kernel
theorem dX3_init_4 : decode cX3_init 4 = .ok (.aload_n 0, 1) := by decide +kernel
theorem dX3_init_5 : decode cX3_init 5 = .ok (.sipush 1332, 3) := by decide +kernel
theorem dX3_init_8 : decode cX3_init 8 = .ok (.newarray .byte, 2) := by decide +kernel
theorem dX3_init_10 : decode cX3_init 10 = .ok (.putfield 13, 3) := by decide +kernel
theorem dX3_init_13 : decode cX3_init 13 = .ok (.aload_n 0, 1) := by decide +kernel
theorem dX3_init_14 : decode cX3_init 14 = .ok (.iconst 0, 1) := by decide +kernel
theorem dX3_init_15 : decode cX3_init 15 = .ok (.putfield 17, 3) := by decide +kernel
theorem dX3_init_18 : decode cX3_init 18 = .ok (.return_, 1) := by decide +kernel
theorem dX3_writeAll_0 : decode cX3_writeAll 0 = .ok (.aload_n 0, 1) := by decide +kernel
theorem dX3_writeAll_1 : decode cX3_writeAll 1 = .ok (.iconst 0, 1) := by decide +kernel
theorem dX3_writeAll_2 : decode cX3_writeAll 2 = .ok (.putfield 17, 3) := by decide +kernel
theorem dX3_writeAll_5 : decode cX3_writeAll 5 = .ok (.iconst 0, 1) := by decide +kernel
theorem dX3_writeAll_6 : decode cX3_writeAll 6 = .ok (.istore_n 2, 1) := by decide +kernel
theorem dX3_writeAll_7 : decode cX3_writeAll 7 = .ok (.iload_n 2, 1) := by decide +kernel
theorem dX3_writeAll_8 : decode cX3_writeAll 8 = .ok (.aload_n 1, 1) := by decide +kernel
theorem dX3_writeAll_9 : decode cX3_writeAll 9 = .ok (.getfield 21, 3) := by decide +kernel
theorem dX3_writeAll_12 : decode cX3_writeAll 12 = .ok (.if_icmp .ge 55, 3) := by decide +kernel
theorem dX3_writeAll_15 : decode cX3_writeAll 15 = .ok (.iload_n 2, 1) := by decide +kernel
theorem dX3_writeAll_16 : decode cX3_writeAll 16 = .ok (.ifCond .le 9, 3) := by decide +kernel
theorem dX3_writeAll_19 : decode cX3_writeAll 19 = .ok (.aload_n 0, 1) := by decide +kernel
theorem dX3_writeAll_20 : decode cX3_writeAll 20 = .ok (.bipush 32, 2) := by decide +kernel
theorem dX3_writeAll_22 : decode cX3_writeAll 22 = .ok (.invokevirtual 26, 3) := by decide +kernel
theorem dX3_writeAll_25 : decode cX3_writeAll 25 = .ok (.aload_n 0, 1) := by decide +kernel
theorem dX3_writeAll_26 : decode cX3_writeAll 26 = .ok (.aload_n 1, 1) := by decide +kernel
theorem dX3_writeAll_27 : decode cX3_writeAll 27 = .ok (.getfield 30, 3) := by decide +kernel
theorem dX3_writeAll_30 : decode cX3_writeAll 30 = .ok (.iload_n 2, 1) := by decide +kernel
theorem dX3_writeAll_31 : decode cX3_writeAll 31 = .ok (.laload, 1) := by decide +kernel
theorem dX3_writeAll_32 : decode cX3_writeAll 32 = .ok (.invokevirtual 34, 3) := by decide +kernel
theorem dX3_writeAll_35 : decode cX3_writeAll 35 = .ok (.aload_n 0, 1) := by decide +kernel
theorem dX3_writeAll_36 : decode cX3_writeAll 36 = .ok (.bipush 58, 2) := by decide +kernel
theorem dX3_writeAll_38 : decode cX3_writeAll 38 = .ok (.invokevirtual 26, 3) := by decide +kernel
theorem dX3_writeAll_41 : decode cX3_writeAll 41 = .ok (.aload_n 0, 1) := by decide +kernel
theorem dX3_writeAll_42 : decode cX3_writeAll 42 = .ok (.aload_n 1, 1) := by decide +kernel
theorem dX3_writeAll_43 : decode cX3_writeAll 43 = .ok (.iload_n 2, 1) := by decide +kernel
theorem dX3_writeAll_44 : decode cX3_writeAll 44 = .ok (.invokevirtual 38, 3) := by decide +kernel
theorem dX3_writeAll_47 : decode cX3_writeAll 47 = .ok (.aload_n 1, 1) := by decide +kernel
theorem dX3_writeAll_48 : decode cX3_writeAll 48 = .ok (.iload_n 2, 1) := by decide +kernel
theorem dX3_writeAll_49 : decode cX3_writeAll 49 = .ok (.invokevirtual 42, 3) := by decide +kernel
theorem dX3_writeAll_52 : decode cX3_writeAll 52 = .ok (.ifCond .eq 9, 3) := by decide +kernel
theorem dX3_writeAll_55 : decode cX3_writeAll 55 = .ok (.aload_n 0, 1) := by decide +kernel
theorem dX3_writeAll_56 : decode cX3_writeAll 56 = .ok (.bipush 42, 2) := by decide +kernel
theorem dX3_writeAll_58 : decode cX3_writeAll 58 = .ok (.invokevirtual 26, 3) := by decide +kernel
theorem dX3_writeAll_61 : decode cX3_writeAll 61 = .ok (.iinc 2 1, 3) := by decide +kernel
theorem dX3_writeAll_64 : decode cX3_writeAll 64 = .ok (.goto (-57), 3) := by decide +kernel
theorem dX3_writeAll_67 : decode cX3_writeAll 67 = .ok (.aload_n 0, 1) := by decide +kernel
theorem dX3_writeAll_68 : decode cX3_writeAll 68 = .ok (.getfield 17, 3) := by decide +kernel
theorem dX3_writeAll_71 : decode cX3_writeAll 71 = .ok (.ireturn, 1) := by decide +kernel
theorem dX3_putHolders_0 : decode cX3_putHolders 0 = .ok (.iconst 1, 1) := by decide +kernel
theorem dX3_putHolders_1 : decode cX3_putHolders 1 = .ok (.istore_n 3, 1) := by decide +kernel
theorem dX3_putHolders_2 : decode cX3_putHolders 2 = .ok (.iconst 0, 1) := by decide +kernel
theorem dX3_putHolders_3 : decode cX3_putHolders 3 = .ok (.istore 4, 2) := by decide +kernel
theorem dX3_putHolders_5 : decode cX3_putHolders 5 = .ok (.iload 4, 2) := by decide +kernel
theorem dX3_putHolders_7 : decode cX3_putHolders 7 = .ok (.aload_n 1, 1) := by decide +kernel
theorem dX3_putHolders_8 : decode cX3_putHolders 8 = .ok (.getfield 46, 3) := by decide +kernel
theorem dX3_putHolders_11 : decode cX3_putHolders 11 = .ok (.if_icmp .ge 61, 3) := by decide +kernel
theorem dX3_putHolders_14 : decode cX3_putHolders 14 = .ok (.aload_n 1, 1) := by decide +kernel
theorem dX3_putHolders_15 : decode cX3_putHolders 15 = .ok (.iload_n 2, 1) := by decide +kernel
theorem dX3_putHolders_16 : decode cX3_putHolders 16 = .ok (.iload 4, 2) := by decide +kernel
theorem dX3_putHolders_18 : decode cX3_putHolders 18 = .ok (.invokevirtual 49, 3) := by decide +kernel
theorem dX3_putHolders_21 : decode cX3_putHolders 21 = .ok (.ifCond .ne 6, 3) := by decide +kernel
theorem dX3_putHolders_24 : decode cX3_putHolders 24 = .ok (.goto 42, 3) := by decide +kernel
theorem dX3_putHolders_27 : decode cX3_putHolders 27 = .ok (.iload_n 3, 1) := by decide +kernel
theorem dX3_putHolders_28 : decode cX3_putHolders 28 = .ok (.ifCond .ne 9, 3) := by decide +kernel
theorem dX3_putHolders_31 : decode cX3_putHolders 31 = .ok (.aload_n 0, 1) := by decide +kernel
theorem dX3_putHolders_32 : decode cX3_putHolders 32 = .ok (.bipush 44, 2) := by decide +kernel
theorem dX3_putHolders_34 : decode cX3_putHolders 34 = .ok (.invokevirtual 26, 3) := by decide +kernel
theorem dX3_putHolders_37 : decode cX3_putHolders 37 = .ok (.iconst 0, 1) := by decide +kernel
theorem dX3_putHolders_38 : decode cX3_putHolders 38 = .ok (.istore_n 3, 1) := by decide +kernel
theorem dX3_putHolders_39 : decode cX3_putHolders 39 = .ok (.aload_n 0, 1) := by decide +kernel
theorem dX3_putHolders_40 : decode cX3_putHolders 40 = .ok (.aload_n 1, 1) := by decide +kernel
theorem dX3_putHolders_41 : decode cX3_putHolders 41 = .ok (.getfield 53, 3) := by decide +kernel
theorem dX3_putHolders_44 : decode cX3_putHolders 44 = .ok (.iload 4, 2) := by decide +kernel
theorem dX3_putHolders_46 : decode cX3_putHolders 46 = .ok (.laload, 1) := by decide +kernel
theorem dX3_putHolders_47 : decode cX3_putHolders 47 = .ok (.invokevirtual 34, 3) := by decide +kernel
theorem dX3_putHolders_50 : decode cX3_putHolders 50 = .ok (.aload_n 1, 1) := by decide +kernel
theorem dX3_putHolders_51 : decode cX3_putHolders 51 = .ok (.iload_n 2, 1) := by decide +kernel
theorem dX3_putHolders_52 : decode cX3_putHolders 52 = .ok (.iload 4, 2) := by decide +kernel
theorem dX3_putHolders_54 : decode cX3_putHolders 54 = .ok (.invokevirtual 56, 3) := by decide +kernel
theorem dX3_putHolders_57 : decode cX3_putHolders 57 = .ok (.ifCond .ne 9, 3) := by decide +kernel
theorem dX3_putHolders_60 : decode cX3_putHolders 60 = .ok (.aload_n 0, 1) := by decide +kernel
theorem dX3_putHolders_61 : decode cX3_putHolders 61 = .ok (.bipush 33, 2) := by decide +kernel
theorem dX3_putHolders_63 : decode cX3_putHolders 63 = .ok (.invokevirtual 26, 3) := by decide +kernel
theorem dX3_putHolders_66 : decode cX3_putHolders 66 = .ok (.iinc 4 1, 3) := by decide +kernel
theorem dX3_putHolders_69 : decode cX3_putHolders 69 = .ok (.goto (-64), 3) := by decide +kernel
theorem dX3_putHolders_72 : decode cX3_putHolders 72 = .ok (.return_, 1) := by decide +kernel
theorem dX3_putName_0 : decode cX3_putName 0 = .ok (.bipush 7, 2) := by decide +kernel
theorem dX3_putName_2 : decode cX3_putName 2 = .ok (.istore_n 3, 1) := by decide +kernel
theorem dX3_putName_3 : decode cX3_putName 3 = .ok (.iload_n 3, 1) := by decide +kernel
theorem dX3_putName_4 : decode cX3_putName 4 = .ok (.ifCond .lt 27, 3) := by decide +kernel
theorem dX3_putName_7 : decode cX3_putName 7 = .ok (.lload_n 1, 1) := by decide +kernel
theorem dX3_putName_8 : decode cX3_putName 8 = .ok (.iload_n 3, 1) := by decide +kernel
theorem dX3_putName_9 : decode cX3_putName 9 = .ok (.invokestatic 59, 3) := by decide +kernel
theorem dX3_putName_12 : decode cX3_putName 12 = .ok (.istore 4, 2) := by decide +kernel
theorem dX3_putName_14 : decode cX3_putName 14 = .ok (.iload 4, 2) := by decide +kernel
theorem dX3_putName_16 : decode cX3_putName 16 = .ok (.ifCond .eq 9, 3) := by decide +kernel
theorem dX3_putName_19 : decode cX3_putName 19 = .ok (.aload_n 0, 1) := by decide +kernel
theorem dX3_putName_20 : decode cX3_putName 20 = .ok (.iload 4, 2) := by decide +kernel
theorem dX3_putName_22 : decode cX3_putName 22 = .ok (.invokevirtual 26, 3) := by decide +kernel
theorem dX3_putName_25 : decode cX3_putName 25 = .ok (.iinc 3 (-1), 3) := by decide +kernel
theorem dX3_putName_28 : decode cX3_putName 28 = .ok (.goto (-25), 3) := by decide +kernel
theorem dX3_putName_31 : decode cX3_putName 31 = .ok (.return_, 1) := by decide +kernel
theorem dX3_putSign_0 : decode cX3_putSign 0 = .ok (.aload_n 0, 1) := by decide +kernel
theorem dX3_putSign_1 : decode cX3_putSign 1 = .ok (.getfield 17, 3) := by decide +kernel
theorem dX3_putSign_4 : decode cX3_putSign 4 = .ok (.sipush 1332, 3) := by decide +kernel
theorem dX3_putSign_7 : decode cX3_putSign 7 = .ok (.if_icmp .ge 24, 3) := by decide +kernel
theorem dX3_putSign_10 : decode cX3_putSign 10 = .ok (.aload_n 0, 1) := by decide +kernel
theorem dX3_putSign_11 : decode cX3_putSign 11 = .ok (.getfield 13, 3) := by decide +kernel
theorem dX3_putSign_14 : decode cX3_putSign 14 = .ok (.aload_n 0, 1) := by decide +kernel
theorem dX3_putSign_15 : decode cX3_putSign 15 = .ok (.getfield 17, 3) := by decide +kernel
theorem dX3_putSign_18 : decode cX3_putSign 18 = .ok (.iload_n 1, 1) := by decide +kernel
theorem dX3_putSign_19 : decode cX3_putSign 19 = .ok (.i2b, 1) := by decide +kernel
theorem dX3_putSign_20 : decode cX3_putSign 20 = .ok (.bastore, 1) := by decide +kernel
theorem dX3_putSign_21 : decode cX3_putSign 21 = .ok (.aload_n 0, 1) := by decide +kernel
theorem dX3_putSign_22 : decode cX3_putSign 22 = .ok (.dup, 1) := by decide +kernel
theorem dX3_putSign_23 : decode cX3_putSign 23 = .ok (.getfield 17, 3) := by decide +kernel
theorem dX3_putSign_26 : decode cX3_putSign 26 = .ok (.iconst 1, 1) := by decide +kernel
theorem dX3_putSign_27 : decode cX3_putSign 27 = .ok (.iadd, 1) := by decide +kernel
theorem dX3_putSign_28 : decode cX3_putSign 28 = .ok (.putfield 17, 3) := by decide +kernel
theorem dX3_putSign_31 : decode cX3_putSign 31 = .ok (.return_, 1) := by decide +kernel
theorem dJ6_bitCount_0f7a4_0 : decode cJ6_bitCount_0f7a4 0 = .ok (.iload_n 0, 1) := by decide +kernel
theorem dJ6_bitCount_0f7a4_1 : decode cJ6_bitCount_0f7a4 1 = .ok (.iload_n 0, 1) := by decide +kernel
theorem dJ6_bitCount_0f7a4_2 : decode cJ6_bitCount_0f7a4 2 = .ok (.iconst 1, 1) := by decide +kernel
theorem dJ6_bitCount_0f7a4_3 : decode cJ6_bitCount_0f7a4 3 = .ok (.iushr, 1) := by decide +kernel
theorem dJ6_bitCount_0f7a4_4 : decode cJ6_bitCount_0f7a4 4 = .ok (.ldc_w 265, 3) := by decide +kernel
theorem dJ6_bitCount_0f7a4_7 : decode cJ6_bitCount_0f7a4 7 = .ok (.iand, 1) := by decide +kernel
theorem dJ6_bitCount_0f7a4_8 : decode cJ6_bitCount_0f7a4 8 = .ok (.isub, 1) := by decide +kernel
theorem dJ6_bitCount_0f7a4_9 : decode cJ6_bitCount_0f7a4 9 = .ok (.istore_n 0, 1) := by decide +kernel
theorem dJ6_bitCount_0f7a4_10 : decode cJ6_bitCount_0f7a4 10 = .ok (.iload_n 0, 1) := by decide +kernel
theorem dJ6_bitCount_0f7a4_11 : decode cJ6_bitCount_0f7a4 11 = .ok (.ldc_w 266, 3) := by decide +kernel
theorem dJ6_bitCount_0f7a4_14 : decode cJ6_bitCount_0f7a4 14 = .ok (.iand, 1) := by decide +kernel
theorem dJ6_bitCount_0f7a4_15 : decode cJ6_bitCount_0f7a4 15 = .ok (.iload_n 0, 1) := by decide +kernel
theorem dJ6_bitCount_0f7a4_16 : decode cJ6_bitCount_0f7a4 16 = .ok (.iconst 2, 1) := by decide +kernel
theorem dJ6_bitCount_0f7a4_17 : decode cJ6_bitCount_0f7a4 17 = .ok (.iushr, 1) := by decide +kernel
theorem dJ6_bitCount_0f7a4_18 : decode cJ6_bitCount_0f7a4 18 = .ok (.ldc_w 266, 3) := by decide +kernel
theorem dJ6_bitCount_0f7a4_21 : decode cJ6_bitCount_0f7a4 21 = .ok (.iand, 1) := by decide +kernel
theorem dJ6_bitCount_0f7a4_22 : decode cJ6_bitCount_0f7a4 22 = .ok (.iadd, 1) := by decide +kernel
theorem dJ6_bitCount_0f7a4_23 : decode cJ6_bitCount_0f7a4 23 = .ok (.istore_n 0, 1) := by decide +kernel
theorem dJ6_bitCount_0f7a4_24 : decode cJ6_bitCount_0f7a4 24 = .ok (.iload_n 0, 1) := by decide +kernel
theorem dJ6_bitCount_0f7a4_25 : decode cJ6_bitCount_0f7a4 25 = .ok (.iload_n 0, 1) := by decide +kernel
theorem dJ6_bitCount_0f7a4_26 : decode cJ6_bitCount_0f7a4 26 = .ok (.iconst 4, 1) := by decide +kernel
theorem dJ6_bitCount_0f7a4_27 : decode cJ6_bitCount_0f7a4 27 = .ok (.iushr, 1) := by decide +kernel
theorem dJ6_bitCount_0f7a4_28 : decode cJ6_bitCount_0f7a4 28 = .ok (.iadd, 1) := by decide +kernel
theorem dJ6_bitCount_0f7a4_29 : decode cJ6_bitCount_0f7a4 29 = .ok (.ldc_w 267, 3) := by decide +kernel
theorem dJ6_bitCount_0f7a4_32 : decode cJ6_bitCount_0f7a4 32 = .ok (.iand, 1) := by decide +kernel
theorem dJ6_bitCount_0f7a4_33 : decode cJ6_bitCount_0f7a4 33 = .ok (.istore_n 0, 1) := by decide +kernel
theorem dJ6_bitCount_0f7a4_34 : decode cJ6_bitCount_0f7a4 34 = .ok (.iload_n 0, 1) := by decide +kernel
theorem dJ6_bitCount_0f7a4_35 : decode cJ6_bitCount_0f7a4 35 = .ok (.iload_n 0, 1) := by decide +kernel
theorem dJ6_bitCount_0f7a4_36 : decode cJ6_bitCount_0f7a4 36 = .ok (.bipush 8, 2) := by decide +kernel
theorem dJ6_bitCount_0f7a4_38 : decode cJ6_bitCount_0f7a4 38 = .ok (.iushr, 1) := by decide +kernel
theorem dJ6_bitCount_0f7a4_39 : decode cJ6_bitCount_0f7a4 39 = .ok (.iadd, 1) := by decide +kernel
theorem dJ6_bitCount_0f7a4_40 : decode cJ6_bitCount_0f7a4 40 = .ok (.istore_n 0, 1) := by decide +kernel
theorem dJ6_bitCount_0f7a4_41 : decode cJ6_bitCount_0f7a4 41 = .ok (.iload_n 0, 1) := by decide +kernel
theorem dJ6_bitCount_0f7a4_42 : decode cJ6_bitCount_0f7a4 42 = .ok (.iload_n 0, 1) := by decide +kernel
theorem dJ6_bitCount_0f7a4_43 : decode cJ6_bitCount_0f7a4 43 = .ok (.bipush 16, 2) := by decide +kernel
theorem dJ6_bitCount_0f7a4_45 : decode cJ6_bitCount_0f7a4 45 = .ok (.iushr, 1) := by decide +kernel
theorem dJ6_bitCount_0f7a4_46 : decode cJ6_bitCount_0f7a4 46 = .ok (.iadd, 1) := by decide +kernel
theorem dJ6_bitCount_0f7a4_47 : decode cJ6_bitCount_0f7a4 47 = .ok (.istore_n 0, 1) := by decide +kernel
theorem dJ6_bitCount_0f7a4_48 : decode cJ6_bitCount_0f7a4 48 = .ok (.iload_n 0, 1) := by decide +kernel
theorem dJ6_bitCount_0f7a4_49 : decode cJ6_bitCount_0f7a4 49 = .ok (.bipush 63, 2) := by decide +kernel
theorem dJ6_bitCount_0f7a4_51 : decode cJ6_bitCount_0f7a4 51 = .ok (.iand, 1) := by decide +kernel
theorem dJ6_bitCount_0f7a4_52 : decode cJ6_bitCount_0f7a4 52 = .ok (.ireturn, 1) := by decide +kernel
theorem dJ9_min_7cf53_0 : decode cJ9_min_7cf53 0 = .ok (.iload_n 0, 1) := by decide +kernel
theorem dJ9_min_7cf53_1 : decode cJ9_min_7cf53 1 = .ok (.iload_n 1, 1) := by decide +kernel
theorem dJ9_min_7cf53_2 : decode cJ9_min_7cf53 2 = .ok (.if_icmp .gt 7, 3) := by decide +kernel
theorem dJ9_min_7cf53_5 : decode cJ9_min_7cf53 5 = .ok (.iload_n 0, 1) := by decide +kernel
theorem dJ9_min_7cf53_6 : decode cJ9_min_7cf53 6 = .ok (.goto 4, 3) := by decide +kernel
theorem dJ9_min_7cf53_9 : decode cJ9_min_7cf53 9 = .ok (.iload_n 1, 1) := by decide +kernel
theorem dJ9_min_7cf53_10 : decode cJ9_min_7cf53 10 = .ok (.ireturn, 1) := by decide +kernel
theorem dJ0_length_8abf5_0 : decode cJ0_length_8abf5 0 = .ok (.aload_n 0, 1) := by decide +kernel
theorem dJ0_length_8abf5_1 : decode cJ0_length_8abf5 1 = .ok (.getfield 9, 3) := by decide +kernel
theorem dJ0_length_8abf5_4 : decode cJ0_length_8abf5 4 = .ok (.arraylength, 1) := by decide +kernel
theorem dJ0_length_8abf5_5 : decode cJ0_length_8abf5 5 = .ok (.aload_n 0, 1) := by decide +kernel
theorem dJ0_length_8abf5_6 : decode cJ0_length_8abf5 6 = .ok (.invokevirtual 335, 3) := by decide +kernel
theorem dJ0_length_8abf5_9 : decode cJ0_length_8abf5 9 = .ok (.ishr, 1) := by decide +kernel
theorem dJ0_length_8abf5_10 : decode cJ0_length_8abf5 10 = .ok (.ireturn, 1) := by decide +kernel
theorem dJ0_charAt_5068e_0 : decode cJ0_charAt_5068e 0 = .ok (.aload_n 0, 1) := by decide +kernel
theorem dJ0_charAt_5068e_1 : decode cJ0_charAt_5068e 1 = .ok (.invokevirtual 492, 3) := by decide +kernel
theorem dJ0_charAt_5068e_4 : decode cJ0_charAt_5068e 4 = .ok (.ifCond .eq 12, 3) := by decide +kernel
theorem dJ0_charAt_5068e_7 : decode cJ0_charAt_5068e 7 = .ok (.aload_n 0, 1) := by decide +kernel
theorem dJ0_charAt_5068e_8 : decode cJ0_charAt_5068e 8 = .ok (.getfield 9, 3) := by decide +kernel
theorem dJ0_charAt_5068e_11 : decode cJ0_charAt_5068e 11 = .ok (.iload_n 1, 1) := by decide +kernel
theorem dJ0_charAt_5068e_12 : decode cJ0_charAt_5068e 12 = .ok (.invokestatic 495, 3) := by decide +kernel
theorem dJ0_charAt_5068e_15 : decode cJ0_charAt_5068e 15 = .ok (.ireturn, 1) := by decide +kernel
theorem dJ0_charAt_5068e_16 : decode cJ0_charAt_5068e 16 = .ok (.aload_n 0, 1) := by decide +kernel
theorem dJ0_charAt_5068e_17 : decode cJ0_charAt_5068e 17 = .ok (.getfield 9, 3) := by decide +kernel
theorem dJ0_charAt_5068e_20 : decode cJ0_charAt_5068e 20 = .ok (.iload_n 1, 1) := by decide +kernel
theorem dJ0_charAt_5068e_21 : decode cJ0_charAt_5068e 21 = .ok (.invokestatic 498, 3) := by decide +kernel
theorem dJ0_charAt_5068e_24 : decode cJ0_charAt_5068e 24 = .ok (.ireturn, 1) := by decide +kernel
theorem dJ0_coder_7d493_0 : decode cJ0_coder_7d493 0 = .ok (.getstatic 38, 3) := by decide +kernel
theorem dJ0_coder_7d493_3 : decode cJ0_coder_7d493 3 = .ok (.ifCond .eq 10, 3) := by decide +kernel
theorem dJ0_coder_7d493_6 : decode cJ0_coder_7d493 6 = .ok (.aload_n 0, 1) := by decide +kernel
theorem dJ0_coder_7d493_7 : decode cJ0_coder_7d493 7 = .ok (.getfield 15, 3) := by decide +kernel
theorem dJ0_coder_7d493_10 : decode cJ0_coder_7d493 10 = .ok (.goto 4, 3) := by decide +kernel
theorem dJ0_coder_7d493_13 : decode cJ0_coder_7d493 13 = .ok (.iconst 1, 1) := by decide +kernel
theorem dJ0_coder_7d493_14 : decode cJ0_coder_7d493 14 = .ok (.ireturn, 1) := by decide +kernel
theorem dJ0_isLatin1_aae02_0 : decode cJ0_isLatin1_aae02 0 = .ok (.getstatic 38, 3) := by decide +kernel
theorem dJ0_isLatin1_aae02_3 : decode cJ0_isLatin1_aae02 3 = .ok (.ifCond .eq 14, 3) := by decide +kernel
theorem dJ0_isLatin1_aae02_6 : decode cJ0_isLatin1_aae02 6 = .ok (.aload_n 0, 1) := by decide +kernel
theorem dJ0_isLatin1_aae02_7 : decode cJ0_isLatin1_aae02 7 = .ok (.getfield 15, 3) := by decide +kernel
theorem dJ0_isLatin1_aae02_10 : decode cJ0_isLatin1_aae02 10 = .ok (.ifCond .ne 7, 3) := by decide +kernel
theorem dJ0_isLatin1_aae02_13 : decode cJ0_isLatin1_aae02 13 = .ok (.iconst 1, 1) := by decide +kernel
theorem dJ0_isLatin1_aae02_14 : decode cJ0_isLatin1_aae02 14 = .ok (.goto 4, 3) := by decide +kernel
theorem dJ0_isLatin1_aae02_17 : decode cJ0_isLatin1_aae02 17 = .ok (.iconst 0, 1) := by decide +kernel
theorem dJ0_isLatin1_aae02_18 : decode cJ0_isLatin1_aae02 18 = .ok (.ireturn, 1) := by decide +kernel
theorem dJ0_checkIndex_df160_0 : decode cJ0_checkIndex_df160 0 = .ok (.iload_n 0, 1) := by decide +kernel
theorem dJ0_checkIndex_df160_1 : decode cJ0_checkIndex_df160 1 = .ok (.iload_n 1, 1) := by decide +kernel
theorem dJ0_checkIndex_df160_2 : decode cJ0_checkIndex_df160 2 = .ok (.getstatic 1053, 3) := by decide +kernel
theorem dJ0_checkIndex_df160_5 : decode cJ0_checkIndex_df160 5 = .ok (.invokestatic 1059, 3) := by decide +kernel
theorem dJ0_checkIndex_df160_8 : decode cJ0_checkIndex_df160 8 = .ok (.pop, 1) := by decide +kernel
theorem dJ0_checkIndex_df160_9 : decode cJ0_checkIndex_df160 9 = .ok (.return_, 1) := by decide +kernel
theorem dJ1_charAt_3b067_0 : decode cJ1_charAt_3b067 0 = .ok (.iload_n 1, 1) := by decide +kernel
theorem dJ1_charAt_3b067_1 : decode cJ1_charAt_3b067 1 = .ok (.aload_n 0, 1) := by decide +kernel
theorem dJ1_charAt_3b067_2 : decode cJ1_charAt_3b067 2 = .ok (.arraylength, 1) := by decide +kernel
theorem dJ1_charAt_3b067_3 : decode cJ1_charAt_3b067 3 = .ok (.invokestatic 9, 3) := by decide +kernel
theorem dJ1_charAt_3b067_6 : decode cJ1_charAt_3b067 6 = .ok (.aload_n 0, 1) := by decide +kernel
theorem dJ1_charAt_3b067_7 : decode cJ1_charAt_3b067 7 = .ok (.iload_n 1, 1) := by decide +kernel
theorem dJ1_charAt_3b067_8 : decode cJ1_charAt_3b067 8 = .ok (.baload, 1) := by decide +kernel
theorem dJ1_charAt_3b067_9 : decode cJ1_charAt_3b067 9 = .ok (.sipush 255, 3) := by decide +kernel
theorem dJ1_charAt_3b067_12 : decode cJ1_charAt_3b067 12 = .ok (.iand, 1) := by decide +kernel
theorem dJ1_charAt_3b067_13 : decode cJ1_charAt_3b067 13 = .ok (.i2c, 1) := by decide +kernel
theorem dJ1_charAt_3b067_14 : decode cJ1_charAt_3b067 14 = .ok (.ireturn, 1) := by decide +kernel
theorem dJ2_getChar_3b067_0 : decode cJ2_getChar_3b067 0 = .ok (.getstatic 44, 3) := by decide +kernel
theorem dJ2_getChar_3b067_3 : decode cJ2_getChar_3b067 3 = .ok (.ifCond .ne 25, 3) := by decide +kernel
theorem dJ2_getChar_3b067_6 : decode cJ2_getChar_3b067 6 = .ok (.iload_n 1, 1) := by decide +kernel
theorem dJ2_getChar_3b067_7 : decode cJ2_getChar_3b067 7 = .ok (.ifCond .lt 11, 3) := by decide +kernel
theorem dJ2_getChar_3b067_10 : decode cJ2_getChar_3b067 10 = .ok (.iload_n 1, 1) := by decide +kernel
theorem dJ2_getChar_3b067_11 : decode cJ2_getChar_3b067 11 = .ok (.aload_n 0, 1) := by decide +kernel
theorem dJ2_getChar_3b067_12 : decode cJ2_getChar_3b067 12 = .ok (.invokestatic 48, 3) := by decide +kernel
theorem dJ2_getChar_3b067_15 : decode cJ2_getChar_3b067 15 = .ok (.if_icmp .lt 13, 3) := by decide +kernel
theorem dJ2_getChar_3b067_18 : decode cJ2_getChar_3b067 18 = .ok (.new 52, 3) := by decide +kernel
theorem dJ2_getChar_3b067_21 : decode cJ2_getChar_3b067 21 = .ok (.dup, 1) := by decide +kernel
theorem dJ2_getChar_3b067_22 : decode cJ2_getChar_3b067 22 = .ok (.ldc 54, 2) := by decide +kernel
theorem dJ2_getChar_3b067_24 : decode cJ2_getChar_3b067 24 = .ok (.invokespecial 56, 3) := by decide +kernel
theorem dJ2_getChar_3b067_27 : decode cJ2_getChar_3b067 27 = .ok (.athrow, 1) := by decide +kernel
theorem dJ2_getChar_3b067_28 : decode cJ2_getChar_3b067 28 = .ok (.iload_n 1, 1) := by decide +kernel
theorem dJ2_getChar_3b067_29 : decode cJ2_getChar_3b067 29 = .ok (.iconst 1, 1) := by decide +kernel
theorem dJ2_getChar_3b067_30 : decode cJ2_getChar_3b067 30 = .ok (.ishl, 1) := by decide +kernel
theorem dJ2_getChar_3b067_31 : decode cJ2_getChar_3b067 31 = .ok (.istore_n 1, 1) := by decide +kernel
theorem dJ2_getChar_3b067_32 : decode cJ2_getChar_3b067 32 = .ok (.aload_n 0, 1) := by decide +kernel
theorem dJ2_getChar_3b067_33 : decode cJ2_getChar_3b067 33 = .ok (.iload_n 1, 1) := by decide +kernel
theorem dJ2_getChar_3b067_34 : decode cJ2_getChar_3b067 34 = .ok (.iinc 1 1, 3) := by decide +kernel
theorem dJ2_getChar_3b067_37 : decode cJ2_getChar_3b067 37 = .ok (.baload, 1) := by decide +kernel
theorem dJ2_getChar_3b067_38 : decode cJ2_getChar_3b067 38 = .ok (.sipush 255, 3) := by decide +kernel
theorem dJ2_getChar_3b067_41 : decode cJ2_getChar_3b067 41 = .ok (.iand, 1) := by decide +kernel
theorem dJ2_getChar_3b067_42 : decode cJ2_getChar_3b067 42 = .ok (.getstatic 59, 3) := by decide +kernel
theorem dJ2_getChar_3b067_45 : decode cJ2_getChar_3b067 45 = .ok (.ishl, 1) := by decide +kernel
theorem dJ2_getChar_3b067_46 : decode cJ2_getChar_3b067 46 = .ok (.aload_n 0, 1) := by decide +kernel
theorem dJ2_getChar_3b067_47 : decode cJ2_getChar_3b067 47 = .ok (.iload_n 1, 1) := by decide +kernel
theorem dJ2_getChar_3b067_48 : decode cJ2_getChar_3b067 48 = .ok (.baload, 1) := by decide +kernel
theorem dJ2_getChar_3b067_49 : decode cJ2_getChar_3b067 49 = .ok (.sipush 255, 3) := by decide +kernel
theorem dJ2_getChar_3b067_52 : decode cJ2_getChar_3b067 52 = .ok (.iand, 1) := by decide +kernel
theorem dJ2_getChar_3b067_53 : decode cJ2_getChar_3b067 53 = .ok (.getstatic 63, 3) := by decide +kernel
theorem dJ2_getChar_3b067_56 : decode cJ2_getChar_3b067 56 = .ok (.ishl, 1) := by decide +kernel
theorem dJ2_getChar_3b067_57 : decode cJ2_getChar_3b067 57 = .ok (.ior, 1) := by decide +kernel
theorem dJ2_getChar_3b067_58 : decode cJ2_getChar_3b067 58 = .ok (.i2c, 1) := by decide +kernel
theorem dJ2_getChar_3b067_59 : decode cJ2_getChar_3b067 59 = .ok (.ireturn, 1) := by decide +kernel
theorem dJ2_length_9d52b_0 : decode cJ2_length_9d52b 0 = .ok (.aload_n 0, 1) := by decide +kernel
theorem dJ2_length_9d52b_1 : decode cJ2_length_9d52b 1 = .ok (.arraylength, 1) := by decide +kernel
theorem dJ2_length_9d52b_2 : decode cJ2_length_9d52b 2 = .ok (.iconst 1, 1) := by decide +kernel
theorem dJ2_length_9d52b_3 : decode cJ2_length_9d52b 3 = .ok (.ishr, 1) := by decide +kernel
theorem dJ2_length_9d52b_4 : decode cJ2_length_9d52b 4 = .ok (.ireturn, 1) := by decide +kernel
theorem dJ2_charAt_3b067_0 : decode cJ2_charAt_3b067 0 = .ok (.iload_n 1, 1) := by decide +kernel
theorem dJ2_charAt_3b067_1 : decode cJ2_charAt_3b067 1 = .ok (.aload_n 0, 1) := by decide +kernel
theorem dJ2_charAt_3b067_2 : decode cJ2_charAt_3b067 2 = .ok (.invokestatic 67, 3) := by decide +kernel
theorem dJ2_charAt_3b067_5 : decode cJ2_charAt_3b067 5 = .ok (.aload_n 0, 1) := by decide +kernel
theorem dJ2_charAt_3b067_6 : decode cJ2_charAt_3b067 6 = .ok (.iload_n 1, 1) := by decide +kernel
theorem dJ2_charAt_3b067_7 : decode cJ2_charAt_3b067 7 = .ok (.invokestatic 71, 3) := by decide +kernel
theorem dJ2_charAt_3b067_10 : decode cJ2_charAt_3b067 10 = .ok (.ireturn, 1) := by decide +kernel
theorem dJ2_checkIndex_2214a_0 : decode cJ2_checkIndex_2214a 0 = .ok (.iload_n 0, 1) := by decide +kernel
theorem dJ2_checkIndex_2214a_1 : decode cJ2_checkIndex_2214a 1 = .ok (.aload_n 1, 1) := by decide +kernel
theorem dJ2_checkIndex_2214a_2 : decode cJ2_checkIndex_2214a 2 = .ok (.invokestatic 48, 3) := by decide +kernel
theorem dJ2_checkIndex_2214a_5 : decode cJ2_checkIndex_2214a 5 = .ok (.invokestatic 414, 3) := by decide +kernel
theorem dJ2_checkIndex_2214a_8 : decode cJ2_checkIndex_2214a 8 = .ok (.return_, 1) := by decide +kernel
theorem dJ7_fill_d0a16_0 : decode cJ7_fill_d0a16 0 = .ok (.iconst 0, 1) := by decide +kernel
theorem dJ7_fill_d0a16_1 : decode cJ7_fill_d0a16 1 = .ok (.istore_n 3, 1) := by decide +kernel
theorem dJ7_fill_d0a16_2 : decode cJ7_fill_d0a16 2 = .ok (.aload_n 0, 1) := by decide +kernel
theorem dJ7_fill_d0a16_3 : decode cJ7_fill_d0a16 3 = .ok (.arraylength, 1) := by decide +kernel
theorem dJ7_fill_d0a16_4 : decode cJ7_fill_d0a16 4 = .ok (.istore 4, 2) := by decide +kernel
theorem dJ7_fill_d0a16_6 : decode cJ7_fill_d0a16 6 = .ok (.iload_n 3, 1) := by decide +kernel
theorem dJ7_fill_d0a16_7 : decode cJ7_fill_d0a16 7 = .ok (.iload 4, 2) := by decide +kernel
theorem dJ7_fill_d0a16_9 : decode cJ7_fill_d0a16 9 = .ok (.if_icmp .ge 13, 3) := by decide +kernel
theorem dJ7_fill_d0a16_12 : decode cJ7_fill_d0a16 12 = .ok (.aload_n 0, 1) := by decide +kernel
theorem dJ7_fill_d0a16_13 : decode cJ7_fill_d0a16 13 = .ok (.iload_n 3, 1) := by decide +kernel
theorem dJ7_fill_d0a16_14 : decode cJ7_fill_d0a16 14 = .ok (.lload_n 1, 1) := by decide +kernel
theorem dJ7_fill_d0a16_15 : decode cJ7_fill_d0a16 15 = .ok (.lastore, 1) := by decide +kernel
theorem dJ7_fill_d0a16_16 : decode cJ7_fill_d0a16 16 = .ok (.iinc 3 1, 3) := by decide +kernel
theorem dJ7_fill_d0a16_19 : decode cJ7_fill_d0a16 19 = .ok (.goto (-13), 3) := by decide +kernel
theorem dJ7_fill_d0a16_22 : decode cJ7_fill_d0a16 22 = .ok (.return_, 1) := by decide +kernel
theorem dJ7_fill_53178_0 : decode cJ7_fill_53178 0 = .ok (.iconst 0, 1) := by decide +kernel
theorem dJ7_fill_53178_1 : decode cJ7_fill_53178 1 = .ok (.istore_n 2, 1) := by decide +kernel
theorem dJ7_fill_53178_2 : decode cJ7_fill_53178 2 = .ok (.aload_n 0, 1) := by decide +kernel
theorem dJ7_fill_53178_3 : decode cJ7_fill_53178 3 = .ok (.arraylength, 1) := by decide +kernel
theorem dJ7_fill_53178_4 : decode cJ7_fill_53178 4 = .ok (.istore_n 3, 1) := by decide +kernel
theorem dJ7_fill_53178_5 : decode cJ7_fill_53178 5 = .ok (.iload_n 2, 1) := by decide +kernel
theorem dJ7_fill_53178_6 : decode cJ7_fill_53178 6 = .ok (.iload_n 3, 1) := by decide +kernel
theorem dJ7_fill_53178_7 : decode cJ7_fill_53178 7 = .ok (.if_icmp .ge 13, 3) := by decide +kernel
theorem dJ7_fill_53178_10 : decode cJ7_fill_53178 10 = .ok (.aload_n 0, 1) := by decide +kernel
theorem dJ7_fill_53178_11 : decode cJ7_fill_53178 11 = .ok (.iload_n 2, 1) := by decide +kernel
theorem dJ7_fill_53178_12 : decode cJ7_fill_53178 12 = .ok (.iload_n 1, 1) := by decide +kernel
theorem dJ7_fill_53178_13 : decode cJ7_fill_53178 13 = .ok (.iastore, 1) := by decide +kernel
theorem dJ7_fill_53178_14 : decode cJ7_fill_53178 14 = .ok (.iinc 2 1, 3) := by decide +kernel
theorem dJ7_fill_53178_17 : decode cJ7_fill_53178 17 = .ok (.goto (-12), 3) := by decide +kernel
theorem dJ7_fill_53178_20 : decode cJ7_fill_53178 20 = .ok (.return_, 1) := by decide +kernel
theorem dJ3_checkIndex_8e157_0 : decode cJ3_checkIndex_8e157 0 = .ok (.iload_n 0, 1) := by decide +kernel
theorem dJ3_checkIndex_8e157_1 : decode cJ3_checkIndex_8e157 1 = .ok (.ifCond .lt 8, 3) := by decide +kernel
theorem dJ3_checkIndex_8e157_4 : decode cJ3_checkIndex_8e157 4 = .ok (.iload_n 0, 1) := by decide +kernel
theorem dJ3_checkIndex_8e157_5 : decode cJ3_checkIndex_8e157 5 = .ok (.iload_n 1, 1) := by decide +kernel
theorem dJ3_checkIndex_8e157_6 : decode cJ3_checkIndex_8e157 6 = .ok (.if_icmp .lt 10, 3) := by decide +kernel
theorem dJ3_checkIndex_8e157_9 : decode cJ3_checkIndex_8e157 9 = .ok (.aload_n 2, 1) := by decide +kernel
theorem dJ3_checkIndex_8e157_10 : decode cJ3_checkIndex_8e157 10 = .ok (.iload_n 0, 1) := by decide +kernel
theorem dJ3_checkIndex_8e157_11 : decode cJ3_checkIndex_8e157 11 = .ok (.iload_n 1, 1) := by decide +kernel
theorem dJ3_checkIndex_8e157_12 : decode cJ3_checkIndex_8e157 12 = .ok (.invokestatic 95, 3) := by decide +kernel
theorem dJ3_checkIndex_8e157_15 : decode cJ3_checkIndex_8e157 15 = .ok (.athrow, 1) := by decide +kernel
theorem dJ3_checkIndex_8e157_16 : decode cJ3_checkIndex_8e157 16 = .ok (.iload_n 0, 1) := by decide +kernel
theorem dJ3_checkIndex_8e157_17 : decode cJ3_checkIndex_8e157 17 = .ok (.ireturn, 1) := by decide +kernel
