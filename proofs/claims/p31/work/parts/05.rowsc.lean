theorem dX8_timeOf_5 : decode cX8_timeOf 5 = .ok (.aload_n 0, 1) := by decide +kernel
theorem dX8_timeOf_6 : decode cX8_timeOf 6 = .ok (.getfield 19, 3) := by decide +kernel
theorem dX8_timeOf_9 : decode cX8_timeOf 9 = .ok (.if_icmp .ge 12, 3) := by decide +kernel
theorem dX8_timeOf_12 : decode cX8_timeOf 12 = .ok (.aload_n 0, 1) := by decide +kernel
theorem dX8_timeOf_13 : decode cX8_timeOf 13 = .ok (.getfield 9, 3) := by decide +kernel
theorem dX8_timeOf_16 : decode cX8_timeOf 16 = .ok (.iload_n 1, 1) := by decide +kernel
theorem dX8_timeOf_17 : decode cX8_timeOf 17 = .ok (.iaload, 1) := by decide +kernel
theorem dX8_timeOf_18 : decode cX8_timeOf 18 = .ok (.goto 4, 3) := by decide +kernel
theorem dX8_timeOf_21 : decode cX8_timeOf 21 = .ok (.iconst 0, 1) := by decide +kernel
theorem dX8_timeOf_22 : decode cX8_timeOf 22 = .ok (.ireturn, 1) := by decide +kernel
theorem dX8_numberOf_0 : decode cX8_numberOf 0 = .ok (.iload_n 1, 1) := by decide +kernel
theorem dX8_numberOf_1 : decode cX8_numberOf 1 = .ok (.ifCond .lt 29, 3) := by decide +kernel
theorem dX8_numberOf_4 : decode cX8_numberOf 4 = .ok (.iload_n 1, 1) := by decide +kernel
theorem dX8_numberOf_5 : decode cX8_numberOf 5 = .ok (.aload_n 0, 1) := by decide +kernel
theorem dX8_numberOf_6 : decode cX8_numberOf 6 = .ok (.getfield 19, 3) := by decide +kernel
theorem dX8_numberOf_9 : decode cX8_numberOf 9 = .ok (.if_icmp .ge 21, 3) := by decide +kernel
theorem dX8_numberOf_12 : decode cX8_numberOf 12 = .ok (.iload_n 2, 1) := by decide +kernel
theorem dX8_numberOf_13 : decode cX8_numberOf 13 = .ok (.ifCond .lt 17, 3) := by decide +kernel
theorem dX8_numberOf_16 : decode cX8_numberOf 16 = .ok (.iload_n 2, 1) := by decide +kernel
theorem dX8_numberOf_17 : decode cX8_numberOf 17 = .ok (.aload_n 0, 1) := by decide +kernel
theorem dX8_numberOf_18 : decode cX8_numberOf 18 = .ok (.getfield 23, 3) := by decide +kernel
theorem dX8_numberOf_21 : decode cX8_numberOf 21 = .ok (.if_icmp .ge 9, 3) := by decide +kernel
theorem dX8_numberOf_24 : decode cX8_numberOf 24 = .ok (.iload_n 2, 1) := by decide +kernel
theorem dX8_numberOf_25 : decode cX8_numberOf 25 = .ok (.bipush 6, 2) := by decide +kernel
theorem dX8_numberOf_27 : decode cX8_numberOf 27 = .ok (.if_icmp .lt 5, 3) := by decide +kernel
theorem dX8_numberOf_30 : decode cX8_numberOf 30 = .ok (.lconst 0, 1) := by decide +kernel
theorem dX8_numberOf_31 : decode cX8_numberOf 31 = .ok (.lreturn, 1) := by decide +kernel
theorem dX8_numberOf_32 : decode cX8_numberOf 32 = .ok (.aload_n 0, 1) := by decide +kernel
theorem dX8_numberOf_33 : decode cX8_numberOf 33 = .ok (.getfield 15, 3) := by decide +kernel
theorem dX8_numberOf_36 : decode cX8_numberOf 36 = .ok (.iload_n 1, 1) := by decide +kernel
theorem dX8_numberOf_37 : decode cX8_numberOf 37 = .ok (.bipush 6, 2) := by decide +kernel
theorem dX8_numberOf_39 : decode cX8_numberOf 39 = .ok (.imul, 1) := by decide +kernel
theorem dX8_numberOf_40 : decode cX8_numberOf 40 = .ok (.iload_n 2, 1) := by decide +kernel
theorem dX8_numberOf_41 : decode cX8_numberOf 41 = .ok (.iadd, 1) := by decide +kernel
theorem dX8_numberOf_42 : decode cX8_numberOf 42 = .ok (.laload, 1) := by decide +kernel
theorem dX8_numberOf_43 : decode cX8_numberOf 43 = .ok (.lreturn, 1) := by decide +kernel
theorem dX8_copyTo_0 : decode cX8_copyTo 0 = .ok (.aload_n 2, 1) := by decide +kernel
theorem dX8_copyTo_1 : decode cX8_copyTo 1 = .ok (.aload_n 0, 1) := by decide +kernel
theorem dX8_copyTo_2 : decode cX8_copyTo 2 = .ok (.iload_n 1, 1) := by decide +kernel
theorem dX8_copyTo_3 : decode cX8_copyTo 3 = .ok (.invokevirtual 32, 3) := by decide +kernel
theorem dX8_copyTo_6 : decode cX8_copyTo 6 = .ok (.invokevirtual 36, 3) := by decide +kernel
theorem dX8_copyTo_9 : decode cX8_copyTo 9 = .ok (.iconst 0, 1) := by decide +kernel
theorem dX8_copyTo_10 : decode cX8_copyTo 10 = .ok (.istore_n 3, 1) := by decide +kernel
theorem dX8_copyTo_11 : decode cX8_copyTo 11 = .ok (.iload_n 3, 1) := by decide +kernel
theorem dX8_copyTo_12 : decode cX8_copyTo 12 = .ok (.aload_n 0, 1) := by decide +kernel
theorem dX8_copyTo_13 : decode cX8_copyTo 13 = .ok (.getfield 23, 3) := by decide +kernel
theorem dX8_copyTo_16 : decode cX8_copyTo 16 = .ok (.if_icmp .ge 19, 3) := by decide +kernel
theorem dX8_copyTo_19 : decode cX8_copyTo 19 = .ok (.aload_n 2, 1) := by decide +kernel
theorem dX8_copyTo_20 : decode cX8_copyTo 20 = .ok (.aload_n 0, 1) := by decide +kernel
theorem dX8_copyTo_21 : decode cX8_copyTo 21 = .ok (.iload_n 1, 1) := by decide +kernel
theorem dX8_copyTo_22 : decode cX8_copyTo 22 = .ok (.iload_n 3, 1) := by decide +kernel
theorem dX8_copyTo_23 : decode cX8_copyTo 23 = .ok (.invokevirtual 40, 3) := by decide +kernel
theorem dX8_copyTo_26 : decode cX8_copyTo 26 = .ok (.invokevirtual 44, 3) := by decide +kernel
theorem dX8_copyTo_29 : decode cX8_copyTo 29 = .ok (.iinc 3 1, 3) := by decide +kernel
theorem dX8_copyTo_32 : decode cX8_copyTo 32 = .ok (.goto (-21), 3) := by decide +kernel
theorem dX8_copyTo_35 : decode cX8_copyTo 35 = .ok (.return_, 1) := by decide +kernel
theorem dX8_mixedInto_0 : decode cX8_mixedInto 0 = .ok (.lload_n 1, 1) := by decide +kernel
theorem dX8_mixedInto_1 : decode cX8_mixedInto 1 = .ok (.ldc2_w 61, 3) := by decide +kernel
theorem dX8_mixedInto_4 : decode cX8_mixedInto 4 = .ok (.lmul, 1) := by decide +kernel
theorem dX8_mixedInto_5 : decode cX8_mixedInto 5 = .ok (.aload_n 0, 1) := by decide +kernel
theorem dX8_mixedInto_6 : decode cX8_mixedInto 6 = .ok (.getfield 19, 3) := by decide +kernel
theorem dX8_mixedInto_9 : decode cX8_mixedInto 9 = .ok (.i2l, 1) := by decide +kernel
theorem dX8_mixedInto_10 : decode cX8_mixedInto 10 = .ok (.ladd, 1) := by decide +kernel
theorem dX8_mixedInto_11 : decode cX8_mixedInto 11 = .ok (.lstore_n 3, 1) := by decide +kernel
theorem dX8_mixedInto_12 : decode cX8_mixedInto 12 = .ok (.iconst 0, 1) := by decide +kernel
theorem dX8_mixedInto_13 : decode cX8_mixedInto 13 = .ok (.istore 5, 2) := by decide +kernel
theorem dX8_mixedInto_15 : decode cX8_mixedInto 15 = .ok (.iload 5, 2) := by decide +kernel
theorem dX8_mixedInto_17 : decode cX8_mixedInto 17 = .ok (.aload_n 0, 1) := by decide +kernel
theorem dX8_mixedInto_18 : decode cX8_mixedInto 18 = .ok (.getfield 19, 3) := by decide +kernel
theorem dX8_mixedInto_21 : decode cX8_mixedInto 21 = .ok (.if_icmp .ge 56, 3) := by decide +kernel
theorem dX8_mixedInto_24 : decode cX8_mixedInto 24 = .ok (.lload_n 3, 1) := by decide +kernel
theorem dX8_mixedInto_25 : decode cX8_mixedInto 25 = .ok (.ldc2_w 61, 3) := by decide +kernel
theorem dX8_mixedInto_28 : decode cX8_mixedInto 28 = .ok (.lmul, 1) := by decide +kernel
theorem dX8_mixedInto_29 : decode cX8_mixedInto 29 = .ok (.aload_n 0, 1) := by decide +kernel
theorem dX8_mixedInto_30 : decode cX8_mixedInto 30 = .ok (.iload 5, 2) := by decide +kernel
theorem dX8_mixedInto_32 : decode cX8_mixedInto 32 = .ok (.invokevirtual 32, 3) := by decide +kernel
theorem dX8_mixedInto_35 : decode cX8_mixedInto 35 = .ok (.i2l, 1) := by decide +kernel
theorem dX8_mixedInto_36 : decode cX8_mixedInto 36 = .ok (.ladd, 1) := by decide +kernel
theorem dX8_mixedInto_37 : decode cX8_mixedInto 37 = .ok (.lstore_n 3, 1) := by decide +kernel
theorem dX8_mixedInto_38 : decode cX8_mixedInto 38 = .ok (.iconst 0, 1) := by decide +kernel
theorem dX8_mixedInto_39 : decode cX8_mixedInto 39 = .ok (.istore 6, 2) := by decide +kernel
theorem dX8_mixedInto_41 : decode cX8_mixedInto 41 = .ok (.iload 6, 2) := by decide +kernel
theorem dX8_mixedInto_43 : decode cX8_mixedInto 43 = .ok (.aload_n 0, 1) := by decide +kernel
theorem dX8_mixedInto_44 : decode cX8_mixedInto 44 = .ok (.getfield 23, 3) := by decide +kernel
theorem dX8_mixedInto_47 : decode cX8_mixedInto 47 = .ok (.if_icmp .ge 24, 3) := by decide +kernel
theorem dX8_mixedInto_50 : decode cX8_mixedInto 50 = .ok (.lload_n 3, 1) := by decide +kernel
theorem dX8_mixedInto_51 : decode cX8_mixedInto 51 = .ok (.ldc2_w 61, 3) := by decide +kernel
theorem dX8_mixedInto_54 : decode cX8_mixedInto 54 = .ok (.lmul, 1) := by decide +kernel
theorem dX8_mixedInto_55 : decode cX8_mixedInto 55 = .ok (.aload_n 0, 1) := by decide +kernel
theorem dX8_mixedInto_56 : decode cX8_mixedInto 56 = .ok (.iload 5, 2) := by decide +kernel
theorem dX8_mixedInto_58 : decode cX8_mixedInto 58 = .ok (.iload 6, 2) := by decide +kernel
theorem dX8_mixedInto_60 : decode cX8_mixedInto 60 = .ok (.invokevirtual 40, 3) := by decide +kernel
theorem dX8_mixedInto_63 : decode cX8_mixedInto 63 = .ok (.ladd, 1) := by decide +kernel
theorem dX8_mixedInto_64 : decode cX8_mixedInto 64 = .ok (.lstore_n 3, 1) := by decide +kernel
theorem dX8_mixedInto_65 : decode cX8_mixedInto 65 = .ok (.iinc 6 1, 3) := by decide +kernel
theorem dX8_mixedInto_68 : decode cX8_mixedInto 68 = .ok (.goto (-27), 3) := by decide +kernel
theorem dX8_mixedInto_71 : decode cX8_mixedInto 71 = .ok (.iinc 5 1, 3) := by decide +kernel
theorem dX8_mixedInto_74 : decode cX8_mixedInto 74 = .ok (.goto (-59), 3) := by decide +kernel
theorem dX8_mixedInto_77 : decode cX8_mixedInto 77 = .ok (.lload_n 3, 1) := by decide +kernel
theorem dX8_mixedInto_78 : decode cX8_mixedInto 78 = .ok (.lreturn, 1) := by decide +kernel
theorem dX9_init_0 : decode cX9_init 0 = .ok (.aload_n 0, 1) := by decide +kernel
theorem dX9_init_1 : decode cX9_init 1 = .ok (.invokespecial 3, 3) := by decide +kernel
theorem dX9_init_4 : decode cX9_init 4 = .ok (.aload_n 0, 1) := by decide +kernel
theorem dX9_init_5 : decode cX9_init 5 = .ok (.sipush 1501, 3) := by decide +kernel
theorem dX9_init_8 : decode cX9_init 8 = .ok (.newarray .int, 2) := by decide +kernel
theorem dX9_init_10 : decode cX9_init 10 = .ok (.putfield 9, 3) := by decide +kernel
theorem dX9_init_13 : decode cX9_init 13 = .ok (.aload_n 0, 1) := by decide +kernel
theorem dX9_init_14 : decode cX9_init 14 = .ok (.sipush 1501, 3) := by decide +kernel
theorem dX9_init_17 : decode cX9_init 17 = .ok (.newarray .int, 2) := by decide +kernel
theorem dX9_init_19 : decode cX9_init 19 = .ok (.putfield 15, 3) := by decide +kernel
theorem dX9_init_22 : decode cX9_init 22 = .ok (.aload_n 0, 1) := by decide +kernel
theorem dX9_init_23 : decode cX9_init 23 = .ok (.sipush 1501, 3) := by decide +kernel
theorem dX9_init_26 : decode cX9_init 26 = .ok (.newarray .long, 2) := by decide +kernel
theorem dX9_init_28 : decode cX9_init 28 = .ok (.putfield 18, 3) := by decide +kernel
theorem dX9_init_31 : decode cX9_init 31 = .ok (.aload_n 0, 1) := by decide +kernel
theorem dX9_init_32 : decode cX9_init 32 = .ok (.bipush 32, 2) := by decide +kernel
theorem dX9_init_34 : decode cX9_init 34 = .ok (.newarray .long, 2) := by decide +kernel
theorem dX9_init_36 : decode cX9_init 36 = .ok (.putfield 22, 3) := by decide +kernel
theorem dX9_init_39 : decode cX9_init 39 = .ok (.iconst 0, 1) := by decide +kernel
theorem dX9_init_40 : decode cX9_init 40 = .ok (.istore_n 1, 1) := by decide +kernel
theorem dX9_init_41 : decode cX9_init 41 = .ok (.iconst 0, 1) := by decide +kernel
theorem dX9_init_42 : decode cX9_init 42 = .ok (.istore_n 2, 1) := by decide +kernel
theorem dX9_init_43 : decode cX9_init 43 = .ok (.iload_n 2, 1) := by decide +kernel
theorem dX9_init_44 : decode cX9_init 44 = .ok (.ldc 25, 2) := by decide +kernel
theorem dX9_init_46 : decode cX9_init 46 = .ok (.invokevirtual 27, 3) := by decide +kernel
theorem dX9_init_49 : decode cX9_init 49 = .ok (.if_icmp .ge 55, 3) := by decide +kernel
theorem dX9_init_52 : decode cX9_init 52 = .ok (.ldc 25, 2) := by decide +kernel
theorem dX9_init_54 : decode cX9_init 54 = .ok (.iload_n 2, 1) := by decide +kernel
theorem dX9_init_55 : decode cX9_init 55 = .ok (.invokevirtual 33, 3) := by decide +kernel
theorem dX9_init_58 : decode cX9_init 58 = .ok (.istore_n 3, 1) := by decide +kernel
theorem dX9_init_59 : decode cX9_init 59 = .ok (.iload_n 3, 1) := by decide +kernel
theorem dX9_init_60 : decode cX9_init 60 = .ok (.bipush 32, 2) := by decide +kernel
theorem dX9_init_62 : decode cX9_init 62 = .ok (.if_icmp .ne 9, 3) := by decide +kernel
theorem dX9_init_65 : decode cX9_init 65 = .ok (.iinc 1 1, 3) := by decide +kernel
theorem dX9_init_68 : decode cX9_init 68 = .ok (.goto 30, 3) := by decide +kernel
theorem dX9_init_71 : decode cX9_init 71 = .ok (.iload_n 1, 1) := by decide +kernel
theorem dX9_init_72 : decode cX9_init 72 = .ok (.aload_n 0, 1) := by decide +kernel
theorem dX9_init_73 : decode cX9_init 73 = .ok (.getfield 22, 3) := by decide +kernel
theorem dX9_init_76 : decode cX9_init 76 = .ok (.arraylength, 1) := by decide +kernel
theorem dX9_init_77 : decode cX9_init 77 = .ok (.if_icmp .ge 21, 3) := by decide +kernel
theorem dX9_init_80 : decode cX9_init 80 = .ok (.aload_n 0, 1) := by decide +kernel
theorem dX9_init_81 : decode cX9_init 81 = .ok (.getfield 22, 3) := by decide +kernel
theorem dX9_init_84 : decode cX9_init 84 = .ok (.iload_n 1, 1) := by decide +kernel
theorem dX9_init_85 : decode cX9_init 85 = .ok (.aload_n 0, 1) := by decide +kernel
theorem dX9_init_86 : decode cX9_init 86 = .ok (.getfield 22, 3) := by decide +kernel
theorem dX9_init_89 : decode cX9_init 89 = .ok (.iload_n 1, 1) := by decide +kernel
theorem dX9_init_90 : decode cX9_init 90 = .ok (.laload, 1) := by decide +kernel
theorem dX9_init_91 : decode cX9_init 91 = .ok (.bipush 8, 2) := by decide +kernel
theorem dX9_init_93 : decode cX9_init 93 = .ok (.lshl, 1) := by decide +kernel
theorem dX9_init_94 : decode cX9_init 94 = .ok (.iload_n 3, 1) := by decide +kernel
theorem dX9_init_95 : decode cX9_init 95 = .ok (.i2l, 1) := by decide +kernel
theorem dX9_init_96 : decode cX9_init 96 = .ok (.lor, 1) := by decide +kernel
theorem dX9_init_97 : decode cX9_init 97 = .ok (.lastore, 1) := by decide +kernel
theorem dX9_init_98 : decode cX9_init 98 = .ok (.iinc 2 1, 3) := by decide +kernel
theorem dX9_init_101 : decode cX9_init 101 = .ok (.goto (-58), 3) := by decide +kernel
theorem dX9_init_104 : decode cX9_init 104 = .ok (.return_, 1) := by decide +kernel
theorem dX9_scan_0 : decode cX9_scan 0 = .ok (.aload_n 0, 1) := by decide +kernel
theorem dX9_scan_1 : decode cX9_scan 1 = .ok (.iconst 0, 1) := by decide +kernel
theorem dX9_scan_2 : decode cX9_scan 2 = .ok (.putfield 37, 3) := by decide +kernel
theorem dX9_scan_5 : decode cX9_scan 5 = .ok (.iload_n 2, 1) := by decide +kernel
theorem dX9_scan_6 : decode cX9_scan 6 = .ok (.aload_n 1, 1) := by decide +kernel
theorem dX9_scan_7 : decode cX9_scan 7 = .ok (.arraylength, 1) := by decide +kernel
theorem dX9_scan_8 : decode cX9_scan 8 = .ok (.invokestatic 41, 3) := by decide +kernel
theorem dX9_scan_11 : decode cX9_scan 11 = .ok (.istore_n 3, 1) := by decide +kernel
theorem dX9_scan_12 : decode cX9_scan 12 = .ok (.iconst 0, 1) := by decide +kernel
theorem dX9_scan_13 : decode cX9_scan 13 = .ok (.istore 4, 2) := by decide +kernel
theorem dX9_scan_15 : decode cX9_scan 15 = .ok (.iconst 0, 1) := by decide +kernel
theorem dX9_scan_16 : decode cX9_scan 16 = .ok (.istore 5, 2) := by decide +kernel
theorem dX9_scan_18 : decode cX9_scan 18 = .ok (.iload 5, 2) := by decide +kernel
theorem dX9_scan_20 : decode cX9_scan 20 = .ok (.iload_n 3, 1) := by decide +kernel
theorem dX9_scan_21 : decode cX9_scan 21 = .ok (.if_icmp .ge 44, 3) := by decide +kernel
theorem dX9_scan_24 : decode cX9_scan 24 = .ok (.iload 5, 2) := by decide +kernel
theorem dX9_scan_26 : decode cX9_scan 26 = .ok (.iload 4, 2) := by decide +kernel
theorem dX9_scan_28 : decode cX9_scan 28 = .ok (.if_icmp .lt 31, 3) := by decide +kernel
theorem dX9_scan_31 : decode cX9_scan 31 = .ok (.aload_n 1, 1) := by decide +kernel
theorem dX9_scan_32 : decode cX9_scan 32 = .ok (.iload 5, 2) := by decide +kernel
theorem dX9_scan_34 : decode cX9_scan 34 = .ok (.baload, 1) := by decide +kernel
theorem dX9_scan_35 : decode cX9_scan 35 = .ok (.bipush 32, 2) := by decide +kernel
theorem dX9_scan_37 : decode cX9_scan 37 = .ok (.if_icmp .eq 22, 3) := by decide +kernel
theorem dX9_scan_40 : decode cX9_scan 40 = .ok (.aload_n 1, 1) := by decide +kernel
theorem dX9_scan_41 : decode cX9_scan 41 = .ok (.iload 5, 2) := by decide +kernel
theorem dX9_scan_43 : decode cX9_scan 43 = .ok (.baload, 1) := by decide +kernel
theorem dX9_scan_44 : decode cX9_scan 44 = .ok (.bipush 10, 2) := by decide +kernel
theorem dX9_scan_46 : decode cX9_scan 46 = .ok (.if_icmp .eq 13, 3) := by decide +kernel
theorem dX9_scan_49 : decode cX9_scan 49 = .ok (.aload_n 0, 1) := by decide +kernel
theorem dX9_scan_50 : decode cX9_scan 50 = .ok (.aload_n 1, 1) := by decide +kernel
theorem dX9_scan_51 : decode cX9_scan 51 = .ok (.iload_n 3, 1) := by decide +kernel
theorem dX9_scan_52 : decode cX9_scan 52 = .ok (.iload 5, 2) := by decide +kernel
theorem dX9_scan_54 : decode cX9_scan 54 = .ok (.invokevirtual 47, 3) := by decide +kernel
theorem dX9_scan_57 : decode cX9_scan 57 = .ok (.istore 4, 2) := by decide +kernel
theorem dX9_scan_59 : decode cX9_scan 59 = .ok (.iinc 5 1, 3) := by decide +kernel
theorem dX9_scan_62 : decode cX9_scan 62 = .ok (.goto (-44), 3) := by decide +kernel
theorem dX9_scan_65 : decode cX9_scan 65 = .ok (.aload_n 0, 1) := by decide +kernel
theorem dX9_scan_66 : decode cX9_scan 66 = .ok (.iconst 0, 1) := by decide +kernel
theorem dX9_scan_67 : decode cX9_scan 67 = .ok (.iload_n 3, 1) := by decide +kernel
theorem dX9_scan_68 : decode cX9_scan 68 = .ok (.lconst 0, 1) := by decide +kernel
theorem dX9_scan_69 : decode cX9_scan 69 = .ok (.invokevirtual 51, 3) := by decide +kernel
theorem dX9_scan_72 : decode cX9_scan 72 = .ok (.return_, 1) := by decide +kernel
theorem dX9_scanToken_0 : decode cX9_scanToken 0 = .ok (.aload_n 1, 1) := by decide +kernel
theorem dX9_scanToken_1 : decode cX9_scanToken 1 = .ok (.iload_n 3, 1) := by decide +kernel
theorem dX9_scanToken_2 : decode cX9_scanToken 2 = .ok (.baload, 1) := by decide +kernel
theorem dX9_scanToken_3 : decode cX9_scanToken 3 = .ok (.invokestatic 55, 3) := by decide +kernel
theorem dX9_scanToken_6 : decode cX9_scanToken 6 = .ok (.ifCond .eq 11, 3) := by decide +kernel
theorem dX9_scanToken_9 : decode cX9_scanToken 9 = .ok (.aload_n 0, 1) := by decide +kernel
theorem dX9_scanToken_10 : decode cX9_scanToken 10 = .ok (.aload_n 1, 1) := by decide +kernel
theorem dX9_scanToken_11 : decode cX9_scanToken 11 = .ok (.iload_n 2, 1) := by decide +kernel
theorem dX9_scanToken_12 : decode cX9_scanToken 12 = .ok (.iload_n 3, 1) := by decide +kernel
theorem dX9_scanToken_13 : decode cX9_scanToken 13 = .ok (.invokevirtual 59, 3) := by decide +kernel
theorem dX9_scanToken_16 : decode cX9_scanToken 16 = .ok (.ireturn, 1) := by decide +kernel
theorem dX9_scanToken_17 : decode cX9_scanToken 17 = .ok (.aload_n 1, 1) := by decide +kernel
theorem dX9_scanToken_18 : decode cX9_scanToken 18 = .ok (.iload_n 3, 1) := by decide +kernel
theorem dX9_scanToken_19 : decode cX9_scanToken 19 = .ok (.baload, 1) := by decide +kernel
theorem dX9_scanToken_20 : decode cX9_scanToken 20 = .ok (.invokestatic 62, 3) := by decide +kernel
theorem dX9_scanToken_23 : decode cX9_scanToken 23 = .ok (.ifCond .eq 11, 3) := by decide +kernel
theorem dX9_scanToken_26 : decode cX9_scanToken 26 = .ok (.aload_n 0, 1) := by decide +kernel
theorem dX9_scanToken_27 : decode cX9_scanToken 27 = .ok (.aload_n 1, 1) := by decide +kernel
theorem dX9_scanToken_28 : decode cX9_scanToken 28 = .ok (.iload_n 2, 1) := by decide +kernel
theorem dX9_scanToken_29 : decode cX9_scanToken 29 = .ok (.iload_n 3, 1) := by decide +kernel
theorem dX9_scanToken_30 : decode cX9_scanToken 30 = .ok (.invokevirtual 65, 3) := by decide +kernel
theorem dX9_scanToken_33 : decode cX9_scanToken 33 = .ok (.ireturn, 1) := by decide +kernel
theorem dX9_scanToken_34 : decode cX9_scanToken 34 = .ok (.aload_n 1, 1) := by decide +kernel
theorem dX9_scanToken_35 : decode cX9_scanToken 35 = .ok (.iload_n 3, 1) := by decide +kernel
theorem dX9_scanToken_36 : decode cX9_scanToken 36 = .ok (.baload, 1) := by decide +kernel
theorem dX9_scanToken_37 : decode cX9_scanToken 37 = .ok (.sipush 255, 3) := by decide +kernel
theorem dX9_scanToken_40 : decode cX9_scanToken 40 = .ok (.iand, 1) := by decide +kernel
theorem dX9_scanToken_41 : decode cX9_scanToken 41 = .ok (.istore 4, 2) := by decide +kernel
theorem dX9_scanToken_43 : decode cX9_scanToken 43 = .ok (.iload_n 3, 1) := by decide +kernel
theorem dX9_scanToken_44 : decode cX9_scanToken 44 = .ok (.iconst 1, 1) := by decide +kernel
theorem dX9_scanToken_45 : decode cX9_scanToken 45 = .ok (.iadd, 1) := by decide +kernel
theorem dX9_scanToken_46 : decode cX9_scanToken 46 = .ok (.iload_n 2, 1) := by decide +kernel
theorem dX9_scanToken_47 : decode cX9_scanToken 47 = .ok (.if_icmp .ge 15, 3) := by decide +kernel
theorem dX9_scanToken_50 : decode cX9_scanToken 50 = .ok (.aload_n 1, 1) := by decide +kernel
theorem dX9_scanToken_51 : decode cX9_scanToken 51 = .ok (.iload_n 3, 1) := by decide +kernel
theorem dX9_scanToken_52 : decode cX9_scanToken 52 = .ok (.iconst 1, 1) := by decide +kernel
theorem dX9_scanToken_53 : decode cX9_scanToken 53 = .ok (.iadd, 1) := by decide +kernel
theorem dX9_scanToken_54 : decode cX9_scanToken 54 = .ok (.baload, 1) := by decide +kernel
theorem dX9_scanToken_55 : decode cX9_scanToken 55 = .ok (.sipush 255, 3) := by decide +kernel
theorem dX9_scanToken_58 : decode cX9_scanToken 58 = .ok (.iand, 1) := by decide +kernel
theorem dX9_scanToken_59 : decode cX9_scanToken 59 = .ok (.goto 4, 3) := by decide +kernel
theorem dX9_scanToken_62 : decode cX9_scanToken 62 = .ok (.iconst 0, 1) := by decide +kernel
theorem dX9_scanToken_63 : decode cX9_scanToken 63 = .ok (.istore 5, 2) := by decide +kernel
theorem dX9_scanToken_65 : decode cX9_scanToken 65 = .ok (.iload 4, 2) := by decide +kernel
theorem dX9_scanToken_67 : decode cX9_scanToken 67 = .ok (.sipush 256, 3) := by decide +kernel
theorem dX9_scanToken_70 : decode cX9_scanToken 70 = .ok (.imul, 1) := by decide +kernel
theorem dX9_scanToken_71 : decode cX9_scanToken 71 = .ok (.iload 5, 2) := by decide +kernel
theorem dX9_scanToken_73 : decode cX9_scanToken 73 = .ok (.iadd, 1) := by decide +kernel
theorem dX9_scanToken_74 : decode cX9_scanToken 74 = .ok (.istore 6, 2) := by decide +kernel
theorem dX9_scanToken_76 : decode cX9_scanToken 76 = .ok (.iload 6, 2) := by decide +kernel
theorem dX9_scanToken_78 : decode cX9_scanToken 78 = .ok (.sipush 15421, 3) := by decide +kernel
theorem dX9_scanToken_81 : decode cX9_scanToken 81 = .ok (.if_icmp .eq 19, 3) := by decide +kernel
theorem dX9_scanToken_84 : decode cX9_scanToken 84 = .ok (.iload 6, 2) := by decide +kernel
theorem dX9_scanToken_86 : decode cX9_scanToken 86 = .ok (.sipush 15933, 3) := by decide +kernel
theorem dX9_scanToken_89 : decode cX9_scanToken 89 = .ok (.if_icmp .eq 11, 3) := by decide +kernel
theorem dX9_scanToken_92 : decode cX9_scanToken 92 = .ok (.iload 6, 2) := by decide +kernel
theorem dX9_scanToken_94 : decode cX9_scanToken 94 = .ok (.sipush 15422, 3) := by decide +kernel
theorem dX9_scanToken_97 : decode cX9_scanToken 97 = .ok (.if_icmp .ne 15, 3) := by decide +kernel
theorem dX9_scanToken_100 : decode cX9_scanToken 100 = .ok (.aload_n 0, 1) := by decide +kernel
theorem dX9_scanToken_101 : decode cX9_scanToken 101 = .ok (.iload 6, 2) := by decide +kernel
theorem dX9_scanToken_103 : decode cX9_scanToken 103 = .ok (.iload_n 3, 1) := by decide +kernel
theorem dX9_scanToken_104 : decode cX9_scanToken 104 = .ok (.lconst 0, 1) := by decide +kernel
theorem dX9_scanToken_105 : decode cX9_scanToken 105 = .ok (.invokevirtual 51, 3) := by decide +kernel
theorem dX9_scanToken_108 : decode cX9_scanToken 108 = .ok (.iload_n 3, 1) := by decide +kernel
theorem dX9_scanToken_109 : decode cX9_scanToken 109 = .ok (.iconst 2, 1) := by decide +kernel
theorem dX9_scanToken_110 : decode cX9_scanToken 110 = .ok (.iadd, 1) := by decide +kernel
theorem dX9_scanToken_111 : decode cX9_scanToken 111 = .ok (.ireturn, 1) := by decide +kernel
theorem dX9_scanToken_112 : decode cX9_scanToken 112 = .ok (.aload_n 0, 1) := by decide +kernel
theorem dX9_scanToken_113 : decode cX9_scanToken 113 = .ok (.ldc 68, 2) := by decide +kernel
theorem dX9_scanToken_115 : decode cX9_scanToken 115 = .ok (.iload 4, 2) := by decide +kernel
theorem dX9_scanToken_117 : decode cX9_scanToken 117 = .ok (.i2c, 1) := by decide +kernel
theorem dX9_scanToken_118 : decode cX9_scanToken 118 = .ok (.invokevirtual 70, 3) := by decide +kernel
theorem dX9_scanToken_121 : decode cX9_scanToken 121 = .ok (.ifCond .lt 8, 3) := by decide +kernel
theorem dX9_scanToken_124 : decode cX9_scanToken 124 = .ok (.iload 4, 2) := by decide +kernel
theorem dX9_scanToken_126 : decode cX9_scanToken 126 = .ok (.goto 4, 3) := by decide +kernel
theorem dX9_scanToken_129 : decode cX9_scanToken 129 = .ok (.iconst 1, 1) := by decide +kernel
theorem dX9_scanToken_130 : decode cX9_scanToken 130 = .ok (.iload_n 3, 1) := by decide +kernel
theorem dX9_scanToken_131 : decode cX9_scanToken 131 = .ok (.lconst 0, 1) := by decide +kernel
theorem dX9_scanToken_132 : decode cX9_scanToken 132 = .ok (.invokevirtual 51, 3) := by decide +kernel
theorem dX9_scanToken_135 : decode cX9_scanToken 135 = .ok (.iload_n 3, 1) := by decide +kernel
theorem dX9_scanToken_136 : decode cX9_scanToken 136 = .ok (.iconst 1, 1) := by decide +kernel
theorem dX9_scanToken_137 : decode cX9_scanToken 137 = .ok (.iadd, 1) := by decide +kernel
theorem dX9_scanToken_138 : decode cX9_scanToken 138 = .ok (.ireturn, 1) := by decide +kernel
theorem dX9_scanWord_0 : decode cX9_scanWord 0 = .ok (.iload_n 3, 1) := by decide +kernel
theorem dX9_scanWord_1 : decode cX9_scanWord 1 = .ok (.istore 4, 2) := by decide +kernel
theorem dX9_scanWord_3 : decode cX9_scanWord 3 = .ok (.lconst 0, 1) := by decide +kernel
theorem dX9_scanWord_4 : decode cX9_scanWord 4 = .ok (.lstore 5, 2) := by decide +kernel
theorem dX9_scanWord_6 : decode cX9_scanWord 6 = .ok (.iload 4, 2) := by decide +kernel
theorem dX9_scanWord_8 : decode cX9_scanWord 8 = .ok (.iload_n 2, 1) := by decide +kernel
theorem dX9_scanWord_9 : decode cX9_scanWord 9 = .ok (.if_icmp .ge 32, 3) := by decide +kernel
theorem dX9_scanWord_12 : decode cX9_scanWord 12 = .ok (.aload_n 1, 1) := by decide +kernel
theorem dX9_scanWord_13 : decode cX9_scanWord 13 = .ok (.iload 4, 2) := by decide +kernel
theorem dX9_scanWord_15 : decode cX9_scanWord 15 = .ok (.baload, 1) := by decide +kernel
theorem dX9_scanWord_16 : decode cX9_scanWord 16 = .ok (.invokestatic 74, 3) := by decide +kernel
theorem dX9_scanWord_19 : decode cX9_scanWord 19 = .ok (.ifCond .eq 22, 3) := by decide +kernel
theorem dX9_scanWord_22 : decode cX9_scanWord 22 = .ok (.lload 5, 2) := by decide +kernel
theorem dX9_scanWord_24 : decode cX9_scanWord 24 = .ok (.bipush 8, 2) := by decide +kernel
theorem dX9_scanWord_26 : decode cX9_scanWord 26 = .ok (.lshl, 1) := by decide +kernel
theorem dX9_scanWord_27 : decode cX9_scanWord 27 = .ok (.aload_n 1, 1) := by decide +kernel
theorem dX9_scanWord_28 : decode cX9_scanWord 28 = .ok (.iload 4, 2) := by decide +kernel
theorem dX9_scanWord_30 : decode cX9_scanWord 30 = .ok (.baload, 1) := by decide +kernel
theorem dX9_scanWord_31 : decode cX9_scanWord 31 = .ok (.i2l, 1) := by decide +kernel
theorem dX9_scanWord_32 : decode cX9_scanWord 32 = .ok (.lor, 1) := by decide +kernel
theorem dX9_scanWord_33 : decode cX9_scanWord 33 = .ok (.lstore 5, 2) := by decide +kernel
theorem dX9_scanWord_35 : decode cX9_scanWord 35 = .ok (.iinc 4 1, 3) := by decide +kernel
theorem dX9_scanWord_38 : decode cX9_scanWord 38 = .ok (.goto (-32), 3) := by decide +kernel
theorem dX9_scanWord_41 : decode cX9_scanWord 41 = .ok (.iconst 2, 1) := by decide +kernel
theorem dX9_scanWord_42 : decode cX9_scanWord 42 = .ok (.istore 7, 2) := by decide +kernel
theorem dX9_scanWord_44 : decode cX9_scanWord 44 = .ok (.iconst 0, 1) := by decide +kernel
theorem dX9_scanWord_45 : decode cX9_scanWord 45 = .ok (.istore 8, 2) := by decide +kernel
theorem dX9_scanWord_47 : decode cX9_scanWord 47 = .ok (.iload 8, 2) := by decide +kernel
theorem dX9_scanWord_49 : decode cX9_scanWord 49 = .ok (.aload_n 0, 1) := by decide +kernel
theorem dX9_scanWord_50 : decode cX9_scanWord 50 = .ok (.getfield 22, 3) := by decide +kernel
theorem dX9_scanWord_53 : decode cX9_scanWord 53 = .ok (.arraylength, 1) := by decide +kernel
theorem dX9_scanWord_54 : decode cX9_scanWord 54 = .ok (.if_icmp .ge 30, 3) := by decide +kernel
theorem dX9_scanWord_57 : decode cX9_scanWord 57 = .ok (.aload_n 0, 1) := by decide +kernel
theorem dX9_scanWord_58 : decode cX9_scanWord 58 = .ok (.getfield 22, 3) := by decide +kernel
theorem dX9_scanWord_61 : decode cX9_scanWord 61 = .ok (.iload 8, 2) := by decide +kernel
theorem dX9_scanWord_63 : decode cX9_scanWord 63 = .ok (.laload, 1) := by decide +kernel
theorem dX9_scanWord_64 : decode cX9_scanWord 64 = .ok (.lload 5, 2) := by decide +kernel
theorem dX9_scanWord_66 : decode cX9_scanWord 66 = .ok (.lcmp, 1) := by decide +kernel
theorem dX9_scanWord_67 : decode cX9_scanWord 67 = .ok (.ifCond .ne 11, 3) := by decide +kernel
theorem dX9_scanWord_70 : decode cX9_scanWord 70 = .ok (.sipush 128, 3) := by decide +kernel
theorem dX9_scanWord_73 : decode cX9_scanWord 73 = .ok (.iload 8, 2) := by decide +kernel
theorem dX9_scanWord_75 : decode cX9_scanWord 75 = .ok (.iadd, 1) := by decide +kernel
theorem dX9_scanWord_76 : decode cX9_scanWord 76 = .ok (.istore 7, 2) := by decide +kernel
theorem dX9_scanWord_78 : decode cX9_scanWord 78 = .ok (.iinc 8 1, 3) := by decide +kernel
theorem dX9_scanWord_81 : decode cX9_scanWord 81 = .ok (.goto (-34), 3) := by decide +kernel
theorem dX9_scanWord_84 : decode cX9_scanWord 84 = .ok (.aload_n 0, 1) := by decide +kernel
theorem dX9_scanWord_85 : decode cX9_scanWord 85 = .ok (.iload 4, 2) := by decide +kernel
theorem dX9_scanWord_87 : decode cX9_scanWord 87 = .ok (.iload_n 3, 1) := by decide +kernel
theorem dX9_scanWord_88 : decode cX9_scanWord 88 = .ok (.isub, 1) := by decide +kernel
theorem dX9_scanWord_89 : decode cX9_scanWord 89 = .ok (.bipush 8, 2) := by decide +kernel
theorem dX9_scanWord_91 : decode cX9_scanWord 91 = .ok (.if_icmp .le 7, 3) := by decide +kernel
theorem dX9_scanWord_94 : decode cX9_scanWord 94 = .ok (.iconst 1, 1) := by decide +kernel
theorem dX9_scanWord_95 : decode cX9_scanWord 95 = .ok (.goto 5, 3) := by decide +kernel
theorem dX9_scanWord_98 : decode cX9_scanWord 98 = .ok (.iload 7, 2) := by decide +kernel
theorem dX9_scanWord_100 : decode cX9_scanWord 100 = .ok (.iload_n 3, 1) := by decide +kernel
theorem dX9_scanWord_101 : decode cX9_scanWord 101 = .ok (.lload 5, 2) := by decide +kernel
theorem dX9_scanWord_103 : decode cX9_scanWord 103 = .ok (.invokevirtual 51, 3) := by decide +kernel
theorem dX9_scanWord_106 : decode cX9_scanWord 106 = .ok (.iload 4, 2) := by decide +kernel
theorem dX9_scanWord_108 : decode cX9_scanWord 108 = .ok (.ireturn, 1) := by decide +kernel
theorem dX9_scanNumber_0 : decode cX9_scanNumber 0 = .ok (.iload_n 3, 1) := by decide +kernel
theorem dX9_scanNumber_1 : decode cX9_scanNumber 1 = .ok (.istore 4, 2) := by decide +kernel
theorem dX9_scanNumber_3 : decode cX9_scanNumber 3 = .ok (.lconst 0, 1) := by decide +kernel
theorem dX9_scanNumber_4 : decode cX9_scanNumber 4 = .ok (.lstore 5, 2) := by decide +kernel
theorem dX9_scanNumber_6 : decode cX9_scanNumber 6 = .ok (.iload 4, 2) := by decide +kernel
theorem dX9_scanNumber_8 : decode cX9_scanNumber 8 = .ok (.iload_n 2, 1) := by decide +kernel
theorem dX9_scanNumber_9 : decode cX9_scanNumber 9 = .ok (.if_icmp .ge 36, 3) := by decide +kernel
theorem dX9_scanNumber_12 : decode cX9_scanNumber 12 = .ok (.aload_n 1, 1) := by decide +kernel
theorem dX9_scanNumber_13 : decode cX9_scanNumber 13 = .ok (.iload 4, 2) := by decide +kernel
theorem dX9_scanNumber_15 : decode cX9_scanNumber 15 = .ok (.baload, 1) := by decide +kernel
theorem dX9_scanNumber_16 : decode cX9_scanNumber 16 = .ok (.invokestatic 62, 3) := by decide +kernel
theorem dX9_scanNumber_19 : decode cX9_scanNumber 19 = .ok (.ifCond .eq 26, 3) := by decide +kernel
theorem dX9_scanNumber_22 : decode cX9_scanNumber 22 = .ok (.lload 5, 2) := by decide +kernel
theorem dX9_scanNumber_24 : decode cX9_scanNumber 24 = .ok (.ldc2_w 77, 3) := by decide +kernel
theorem dX9_scanNumber_27 : decode cX9_scanNumber 27 = .ok (.lmul, 1) := by decide +kernel
theorem dX9_scanNumber_28 : decode cX9_scanNumber 28 = .ok (.aload_n 1, 1) := by decide +kernel
theorem dX9_scanNumber_29 : decode cX9_scanNumber 29 = .ok (.iload 4, 2) := by decide +kernel
theorem dX9_scanNumber_31 : decode cX9_scanNumber 31 = .ok (.baload, 1) := by decide +kernel
theorem dX9_scanNumber_32 : decode cX9_scanNumber 32 = .ok (.bipush 48, 2) := by decide +kernel
theorem dX9_scanNumber_34 : decode cX9_scanNumber 34 = .ok (.isub, 1) := by decide +kernel
theorem dX9_scanNumber_35 : decode cX9_scanNumber 35 = .ok (.i2l, 1) := by decide +kernel
theorem dX9_scanNumber_36 : decode cX9_scanNumber 36 = .ok (.ladd, 1) := by decide +kernel
theorem dX9_scanNumber_37 : decode cX9_scanNumber 37 = .ok (.lstore 5, 2) := by decide +kernel
theorem dX9_scanNumber_39 : decode cX9_scanNumber 39 = .ok (.iinc 4 1, 3) := by decide +kernel
theorem dX9_scanNumber_42 : decode cX9_scanNumber 42 = .ok (.goto (-36), 3) := by decide +kernel
theorem dX9_scanNumber_45 : decode cX9_scanNumber 45 = .ok (.aload_n 0, 1) := by decide +kernel
theorem dX9_scanNumber_46 : decode cX9_scanNumber 46 = .ok (.iload 4, 2) := by decide +kernel
theorem dX9_scanNumber_48 : decode cX9_scanNumber 48 = .ok (.iload_n 3, 1) := by decide +kernel
theorem dX9_scanNumber_49 : decode cX9_scanNumber 49 = .ok (.isub, 1) := by decide +kernel
theorem dX9_scanNumber_50 : decode cX9_scanNumber 50 = .ok (.bipush 9, 2) := by decide +kernel
theorem dX9_scanNumber_52 : decode cX9_scanNumber 52 = .ok (.if_icmp .le 7, 3) := by decide +kernel
theorem dX9_scanNumber_55 : decode cX9_scanNumber 55 = .ok (.iconst 1, 1) := by decide +kernel
theorem dX9_scanNumber_56 : decode cX9_scanNumber 56 = .ok (.goto 4, 3) := by decide +kernel
theorem dX9_scanNumber_59 : decode cX9_scanNumber 59 = .ok (.iconst 3, 1) := by decide +kernel
theorem dX9_scanNumber_60 : decode cX9_scanNumber 60 = .ok (.iload_n 3, 1) := by decide +kernel
theorem dX9_scanNumber_61 : decode cX9_scanNumber 61 = .ok (.lload 5, 2) := by decide +kernel
theorem dX9_scanNumber_63 : decode cX9_scanNumber 63 = .ok (.invokevirtual 51, 3) := by decide +kernel
theorem dX9_scanNumber_66 : decode cX9_scanNumber 66 = .ok (.iload 4, 2) := by decide +kernel
theorem dX9_scanNumber_68 : decode cX9_scanNumber 68 = .ok (.ireturn, 1) := by decide +kernel
theorem dX9_addToken_0 : decode cX9_addToken 0 = .ok (.aload_n 0, 1) := by decide +kernel
theorem dX9_addToken_1 : decode cX9_addToken 1 = .ok (.getfield 37, 3) := by decide +kernel
theorem dX9_addToken_4 : decode cX9_addToken 4 = .ok (.aload_n 0, 1) := by decide +kernel
theorem dX9_addToken_5 : decode cX9_addToken 5 = .ok (.getfield 9, 3) := by decide +kernel
theorem dX9_addToken_8 : decode cX9_addToken 8 = .ok (.arraylength, 1) := by decide +kernel
theorem dX9_addToken_9 : decode cX9_addToken 9 = .ok (.if_icmp .ge 43, 3) := by decide +kernel
theorem dX9_addToken_12 : decode cX9_addToken 12 = .ok (.aload_n 0, 1) := by decide +kernel
theorem dX9_addToken_13 : decode cX9_addToken 13 = .ok (.getfield 9, 3) := by decide +kernel
theorem dX9_addToken_16 : decode cX9_addToken 16 = .ok (.aload_n 0, 1) := by decide +kernel
theorem dX9_addToken_17 : decode cX9_addToken 17 = .ok (.getfield 37, 3) := by decide +kernel
theorem dX9_addToken_20 : decode cX9_addToken 20 = .ok (.iload_n 1, 1) := by decide +kernel
theorem dX9_addToken_21 : decode cX9_addToken 21 = .ok (.iastore, 1) := by decide +kernel
theorem dX9_addToken_22 : decode cX9_addToken 22 = .ok (.aload_n 0, 1) := by decide +kernel
theorem dX9_addToken_23 : decode cX9_addToken 23 = .ok (.getfield 15, 3) := by decide +kernel
theorem dX9_addToken_26 : decode cX9_addToken 26 = .ok (.aload_n 0, 1) := by decide +kernel
theorem dX9_addToken_27 : decode cX9_addToken 27 = .ok (.getfield 37, 3) := by decide +kernel
theorem dX9_addToken_30 : decode cX9_addToken 30 = .ok (.iload_n 2, 1) := by decide +kernel
theorem dX9_addToken_31 : decode cX9_addToken 31 = .ok (.iastore, 1) := by decide +kernel
theorem dX9_addToken_32 : decode cX9_addToken 32 = .ok (.aload_n 0, 1) := by decide +kernel
theorem dX9_addToken_33 : decode cX9_addToken 33 = .ok (.getfield 18, 3) := by decide +kernel
theorem dX9_addToken_36 : decode cX9_addToken 36 = .ok (.aload_n 0, 1) := by decide +kernel
theorem dX9_addToken_37 : decode cX9_addToken 37 = .ok (.getfield 37, 3) := by decide +kernel
theorem dX9_addToken_40 : decode cX9_addToken 40 = .ok (.lload_n 3, 1) := by decide +kernel
theorem dX9_addToken_41 : decode cX9_addToken 41 = .ok (.lastore, 1) := by decide +kernel
theorem dX9_addToken_42 : decode cX9_addToken 42 = .ok (.aload_n 0, 1) := by decide +kernel
theorem dX9_addToken_43 : decode cX9_addToken 43 = .ok (.dup, 1) := by decide +kernel
theorem dX9_addToken_44 : decode cX9_addToken 44 = .ok (.getfield 37, 3) := by decide +kernel
theorem dX9_addToken_47 : decode cX9_addToken 47 = .ok (.iconst 1, 1) := by decide +kernel
theorem dX9_addToken_48 : decode cX9_addToken 48 = .ok (.iadd, 1) := by decide +kernel
theorem dX9_addToken_49 : decode cX9_addToken 49 = .ok (.putfield 37, 3) := by decide +kernel
theorem dX9_addToken_52 : decode cX9_addToken 52 = .ok (.return_, 1) := by decide +kernel
theorem dX10_init_0 : decode cX10_init 0 = .ok (.aload_n 0, 1) := by decide +kernel
theorem dX10_init_1 : decode cX10_init 1 = .ok (.invokespecial 3, 3) := by decide +kernel
theorem dX10_init_4 : decode cX10_init 4 = .ok (.aload_n 0, 1) := by decide +kernel
theorem dX10_init_5 : decode cX10_init 5 = .ok (.bipush 60, 2) := by decide +kernel
theorem dX10_init_7 : decode cX10_init 7 = .ok (.newarray .long, 2) := by decide +kernel
theorem dX10_init_9 : decode cX10_init 9 = .ok (.putfield 9, 3) := by decide +kernel
theorem dX10_init_12 : decode cX10_init 12 = .ok (.aload_n 0, 1) := by decide +kernel
theorem dX10_init_13 : decode cX10_init 13 = .ok (.bipush 60, 2) := by decide +kernel
theorem dX10_init_15 : decode cX10_init 15 = .ok (.newarray .int, 2) := by decide +kernel
theorem dX10_init_17 : decode cX10_init 17 = .ok (.putfield 15, 3) := by decide +kernel
theorem dX10_init_20 : decode cX10_init 20 = .ok (.aload_n 0, 1) := by decide +kernel
theorem dX10_init_21 : decode cX10_init 21 = .ok (.bipush 60, 2) := by decide +kernel
theorem dX10_init_23 : decode cX10_init 23 = .ok (.newarray .boolean, 2) := by decide +kernel
theorem dX10_init_25 : decode cX10_init 25 = .ok (.putfield 19, 3) := by decide +kernel
theorem dX10_init_28 : decode cX10_init 28 = .ok (.aload_n 0, 1) := by decide +kernel
theorem dX10_init_29 : decode cX10_init 29 = .ok (.bipush 60, 2) := by decide +kernel
theorem dX10_init_31 : decode cX10_init 31 = .ok (.newarray .int, 2) := by decide +kernel
theorem dX10_init_33 : decode cX10_init 33 = .ok (.putfield 23, 3) := by decide +kernel
theorem dX10_init_36 : decode cX10_init 36 = .ok (.aload_n 0, 1) := by decide +kernel
theorem dX10_init_37 : decode cX10_init 37 = .ok (.sipush 240, 3) := by decide +kernel
theorem dX10_init_40 : decode cX10_init 40 = .ok (.newarray .long, 2) := by decide +kernel
theorem dX10_init_42 : decode cX10_init 42 = .ok (.putfield 26, 3) := by decide +kernel
theorem dX10_init_45 : decode cX10_init 45 = .ok (.return_, 1) := by decide +kernel
theorem dX10_clear_0 : decode cX10_clear 0 = .ok (.aload_n 0, 1) := by decide +kernel
theorem dX10_clear_1 : decode cX10_clear 1 = .ok (.iconst 0, 1) := by decide +kernel
theorem dX10_clear_2 : decode cX10_clear 2 = .ok (.putfield 29, 3) := by decide +kernel
theorem dX10_clear_5 : decode cX10_clear 5 = .ok (.return_, 1) := by decide +kernel
theorem dX10_countThose_0 : decode cX10_countThose 0 = .ok (.iconst 0, 1) := by decide +kernel
theorem dX10_countThose_1 : decode cX10_countThose 1 = .ok (.istore_n 2, 1) := by decide +kernel
theorem dX10_countThose_2 : decode cX10_countThose 2 = .ok (.iconst 0, 1) := by decide +kernel
theorem dX10_countThose_3 : decode cX10_countThose 3 = .ok (.istore_n 3, 1) := by decide +kernel
theorem dX10_countThose_4 : decode cX10_countThose 4 = .ok (.iload_n 3, 1) := by decide +kernel
theorem dX10_countThose_5 : decode cX10_countThose 5 = .ok (.aload_n 0, 1) := by decide +kernel
theorem dX10_countThose_6 : decode cX10_countThose 6 = .ok (.getfield 29, 3) := by decide +kernel
theorem dX10_countThose_9 : decode cX10_countThose 9 = .ok (.if_icmp .ge 31, 3) := by decide +kernel
theorem dX10_countThose_12 : decode cX10_countThose 12 = .ok (.iload_n 3, 1) := by decide +kernel
theorem dX10_countThose_13 : decode cX10_countThose 13 = .ok (.aload_n 0, 1) := by decide +kernel
theorem dX10_countThose_14 : decode cX10_countThose 14 = .ok (.getfield 19, 3) := by decide +kernel
theorem dX10_countThose_17 : decode cX10_countThose 17 = .ok (.arraylength, 1) := by decide +kernel
theorem dX10_countThose_18 : decode cX10_countThose 18 = .ok (.if_icmp .ge 22, 3) := by decide +kernel
theorem dX10_countThose_21 : decode cX10_countThose 21 = .ok (.aload_n 0, 1) := by decide +kernel
theorem dX10_countThose_22 : decode cX10_countThose 22 = .ok (.getfield 19, 3) := by decide +kernel
theorem dX10_countThose_25 : decode cX10_countThose 25 = .ok (.iload_n 3, 1) := by decide +kernel
theorem dX10_countThose_26 : decode cX10_countThose 26 = .ok (.baload, 1) := by decide +kernel
theorem dX10_countThose_27 : decode cX10_countThose 27 = .ok (.iload_n 1, 1) := by decide +kernel
theorem dX10_countThose_28 : decode cX10_countThose 28 = .ok (.if_icmp .ne 6, 3) := by decide +kernel
theorem dX10_countThose_31 : decode cX10_countThose 31 = .ok (.iinc 2 1, 3) := by decide +kernel
theorem dX10_countThose_34 : decode cX10_countThose 34 = .ok (.iinc 3 1, 3) := by decide +kernel
theorem dX10_countThose_37 : decode cX10_countThose 37 = .ok (.goto (-33), 3) := by decide +kernel
theorem dX10_countThose_40 : decode cX10_countThose 40 = .ok (.iload_n 2, 1) := by decide +kernel
theorem dX10_countThose_41 : decode cX10_countThose 41 = .ok (.ireturn, 1) := by decide +kernel
theorem dX10_placeFor_0 : decode cX10_placeFor 0 = .ok (.iconst 0, 1) := by decide +kernel
theorem dX10_placeFor_1 : decode cX10_placeFor 1 = .ok (.istore 5, 2) := by decide +kernel
theorem dX10_placeFor_3 : decode cX10_placeFor 3 = .ok (.iload 5, 2) := by decide +kernel
theorem dX10_placeFor_5 : decode cX10_placeFor 5 = .ok (.aload_n 0, 1) := by decide +kernel
theorem dX10_placeFor_6 : decode cX10_placeFor 6 = .ok (.getfield 29, 3) := by decide +kernel
theorem dX10_placeFor_9 : decode cX10_placeFor 9 = .ok (.if_icmp .ge 45, 3) := by decide +kernel
theorem dX10_placeFor_12 : decode cX10_placeFor 12 = .ok (.iload 5, 2) := by decide +kernel
theorem dX10_placeFor_14 : decode cX10_placeFor 14 = .ok (.aload_n 0, 1) := by decide +kernel
theorem dX10_placeFor_15 : decode cX10_placeFor 15 = .ok (.getfield 9, 3) := by decide +kernel
theorem dX10_placeFor_18 : decode cX10_placeFor 18 = .ok (.arraylength, 1) := by decide +kernel
theorem dX10_placeFor_19 : decode cX10_placeFor 19 = .ok (.if_icmp .ge 35, 3) := by decide +kernel
theorem dX10_placeFor_22 : decode cX10_placeFor 22 = .ok (.aload_n 0, 1) := by decide +kernel
theorem dX10_placeFor_23 : decode cX10_placeFor 23 = .ok (.getfield 9, 3) := by decide +kernel
theorem dX10_placeFor_26 : decode cX10_placeFor 26 = .ok (.iload 5, 2) := by decide +kernel
theorem dX10_placeFor_28 : decode cX10_placeFor 28 = .ok (.laload, 1) := by decide +kernel
theorem dX10_placeFor_29 : decode cX10_placeFor 29 = .ok (.lload_n 1, 1) := by decide +kernel
theorem dX10_placeFor_30 : decode cX10_placeFor 30 = .ok (.lcmp, 1) := by decide +kernel
theorem dX10_placeFor_31 : decode cX10_placeFor 31 = .ok (.ifCond .ne 17, 3) := by decide +kernel
theorem dX10_placeFor_34 : decode cX10_placeFor 34 = .ok (.aload_n 0, 1) := by decide +kernel
theorem dX10_placeFor_35 : decode cX10_placeFor 35 = .ok (.getfield 15, 3) := by decide +kernel
theorem dX10_placeFor_38 : decode cX10_placeFor 38 = .ok (.iload 5, 2) := by decide +kernel
theorem dX10_placeFor_40 : decode cX10_placeFor 40 = .ok (.iaload, 1) := by decide +kernel
theorem dX10_placeFor_41 : decode cX10_placeFor 41 = .ok (.iload_n 3, 1) := by decide +kernel
theorem dX10_placeFor_42 : decode cX10_placeFor 42 = .ok (.if_icmp .ne 6, 3) := by decide +kernel
theorem dX10_placeFor_45 : decode cX10_placeFor 45 = .ok (.iload 5, 2) := by decide +kernel
theorem dX10_placeFor_47 : decode cX10_placeFor 47 = .ok (.ireturn, 1) := by decide +kernel
theorem dX10_placeFor_48 : decode cX10_placeFor 48 = .ok (.iinc 5 1, 3) := by decide +kernel
theorem dX10_placeFor_51 : decode cX10_placeFor 51 = .ok (.goto (-48), 3) := by decide +kernel
theorem dX10_placeFor_54 : decode cX10_placeFor 54 = .ok (.aload_n 0, 1) := by decide +kernel
theorem dX10_placeFor_55 : decode cX10_placeFor 55 = .ok (.getfield 29, 3) := by decide +kernel
theorem dX10_placeFor_58 : decode cX10_placeFor 58 = .ok (.aload_n 0, 1) := by decide +kernel
theorem dX10_placeFor_59 : decode cX10_placeFor 59 = .ok (.getfield 9, 3) := by decide +kernel
theorem dX10_placeFor_62 : decode cX10_placeFor 62 = .ok (.arraylength, 1) := by decide +kernel
theorem dX10_placeFor_63 : decode cX10_placeFor 63 = .ok (.if_icmp .lt 5, 3) := by decide +kernel
theorem dX10_placeFor_66 : decode cX10_placeFor 66 = .ok (.iconst (-1), 1) := by decide +kernel
theorem dX10_placeFor_67 : decode cX10_placeFor 67 = .ok (.ireturn, 1) := by decide +kernel
theorem dX10_placeFor_68 : decode cX10_placeFor 68 = .ok (.aload_n 0, 1) := by decide +kernel
theorem dX10_placeFor_69 : decode cX10_placeFor 69 = .ok (.getfield 9, 3) := by decide +kernel
theorem dX10_placeFor_72 : decode cX10_placeFor 72 = .ok (.aload_n 0, 1) := by decide +kernel
theorem dX10_placeFor_73 : decode cX10_placeFor 73 = .ok (.getfield 29, 3) := by decide +kernel
theorem dX10_placeFor_76 : decode cX10_placeFor 76 = .ok (.lload_n 1, 1) := by decide +kernel
theorem dX10_placeFor_77 : decode cX10_placeFor 77 = .ok (.lastore, 1) := by decide +kernel
theorem dX10_placeFor_78 : decode cX10_placeFor 78 = .ok (.aload_n 0, 1) := by decide +kernel
theorem dX10_placeFor_79 : decode cX10_placeFor 79 = .ok (.getfield 15, 3) := by decide +kernel
theorem dX10_placeFor_82 : decode cX10_placeFor 82 = .ok (.aload_n 0, 1) := by decide +kernel
theorem dX10_placeFor_83 : decode cX10_placeFor 83 = .ok (.getfield 29, 3) := by decide +kernel
theorem dX10_placeFor_86 : decode cX10_placeFor 86 = .ok (.iload_n 3, 1) := by decide +kernel
theorem dX10_placeFor_87 : decode cX10_placeFor 87 = .ok (.iastore, 1) := by decide +kernel
theorem dX10_placeFor_88 : decode cX10_placeFor 88 = .ok (.aload_n 0, 1) := by decide +kernel
theorem dX10_placeFor_89 : decode cX10_placeFor 89 = .ok (.getfield 19, 3) := by decide +kernel
theorem dX10_placeFor_92 : decode cX10_placeFor 92 = .ok (.aload_n 0, 1) := by decide +kernel
theorem dX10_placeFor_93 : decode cX10_placeFor 93 = .ok (.getfield 29, 3) := by decide +kernel
theorem dX10_placeFor_96 : decode cX10_placeFor 96 = .ok (.iload 4, 2) := by decide +kernel
theorem dX10_placeFor_98 : decode cX10_placeFor 98 = .ok (.bastore, 1) := by decide +kernel
theorem dX10_placeFor_99 : decode cX10_placeFor 99 = .ok (.aload_n 0, 1) := by decide +kernel
theorem dX10_placeFor_100 : decode cX10_placeFor 100 = .ok (.getfield 23, 3) := by decide +kernel
theorem dX10_placeFor_103 : decode cX10_placeFor 103 = .ok (.aload_n 0, 1) := by decide +kernel
theorem dX10_placeFor_104 : decode cX10_placeFor 104 = .ok (.getfield 29, 3) := by decide +kernel
theorem dX10_placeFor_107 : decode cX10_placeFor 107 = .ok (.iconst 0, 1) := by decide +kernel
theorem dX10_placeFor_108 : decode cX10_placeFor 108 = .ok (.iastore, 1) := by decide +kernel
theorem dX10_placeFor_109 : decode cX10_placeFor 109 = .ok (.aload_n 0, 1) := by decide +kernel
theorem dX10_placeFor_110 : decode cX10_placeFor 110 = .ok (.dup, 1) := by decide +kernel
theorem dX10_placeFor_111 : decode cX10_placeFor 111 = .ok (.getfield 29, 3) := by decide +kernel
theorem dX10_placeFor_114 : decode cX10_placeFor 114 = .ok (.iconst 1, 1) := by decide +kernel
theorem dX10_placeFor_115 : decode cX10_placeFor 115 = .ok (.iadd, 1) := by decide +kernel
theorem dX10_placeFor_116 : decode cX10_placeFor 116 = .ok (.putfield 29, 3) := by decide +kernel
theorem dX10_placeFor_119 : decode cX10_placeFor 119 = .ok (.aload_n 0, 1) := by decide +kernel
theorem dX10_placeFor_120 : decode cX10_placeFor 120 = .ok (.getfield 29, 3) := by decide +kernel
theorem dX10_placeFor_123 : decode cX10_placeFor 123 = .ok (.iconst 1, 1) := by decide +kernel
theorem dX10_placeFor_124 : decode cX10_placeFor 124 = .ok (.isub, 1) := by decide +kernel
theorem dX10_placeFor_125 : decode cX10_placeFor 125 = .ok (.ireturn, 1) := by decide +kernel
theorem dX10_countRow_0 : decode cX10_countRow 0 = .ok (.iload_n 1, 1) := by decide +kernel
theorem dX10_countRow_1 : decode cX10_countRow 1 = .ok (.ifCond .lt 21, 3) := by decide +kernel
theorem dX10_countRow_4 : decode cX10_countRow 4 = .ok (.iload_n 1, 1) := by decide +kernel
theorem dX10_countRow_5 : decode cX10_countRow 5 = .ok (.aload_n 0, 1) := by decide +kernel
theorem dX10_countRow_6 : decode cX10_countRow 6 = .ok (.getfield 29, 3) := by decide +kernel
theorem dX10_countRow_9 : decode cX10_countRow 9 = .ok (.if_icmp .ge 13, 3) := by decide +kernel
theorem dX10_countRow_12 : decode cX10_countRow 12 = .ok (.aload_n 0, 1) := by decide +kernel
theorem dX10_countRow_13 : decode cX10_countRow 13 = .ok (.getfield 23, 3) := by decide +kernel
theorem dX10_countRow_16 : decode cX10_countRow 16 = .ok (.iload_n 1, 1) := by decide +kernel
theorem dX10_countRow_17 : decode cX10_countRow 17 = .ok (.dup2, 1) := by decide +kernel
theorem dX10_countRow_18 : decode cX10_countRow 18 = .ok (.iaload, 1) := by decide +kernel
theorem dX10_countRow_19 : decode cX10_countRow 19 = .ok (.iconst 1, 1) := by decide +kernel
theorem dX10_countRow_20 : decode cX10_countRow 20 = .ok (.iadd, 1) := by decide +kernel
theorem dX10_countRow_21 : decode cX10_countRow 21 = .ok (.iastore, 1) := by decide +kernel
theorem dX10_countRow_22 : decode cX10_countRow 22 = .ok (.return_, 1) := by decide +kernel
theorem dX10_addTo_0 : decode cX10_addTo 0 = .ok (.iload_n 1, 1) := by decide +kernel
theorem dX10_addTo_1 : decode cX10_addTo 1 = .ok (.ifCond .lt 20, 3) := by decide +kernel
theorem dX10_addTo_4 : decode cX10_addTo 4 = .ok (.iload_n 1, 1) := by decide +kernel
theorem dX10_addTo_5 : decode cX10_addTo 5 = .ok (.aload_n 0, 1) := by decide +kernel
theorem dX10_addTo_6 : decode cX10_addTo 6 = .ok (.getfield 29, 3) := by decide +kernel
theorem dX10_addTo_9 : decode cX10_addTo 9 = .ok (.if_icmp .ge 12, 3) := by decide +kernel
theorem dX10_addTo_12 : decode cX10_addTo 12 = .ok (.iload_n 2, 1) := by decide +kernel
theorem dX10_addTo_13 : decode cX10_addTo 13 = .ok (.ifCond .lt 8, 3) := by decide +kernel
theorem dX10_addTo_16 : decode cX10_addTo 16 = .ok (.iload_n 2, 1) := by decide +kernel
theorem dX10_addTo_17 : decode cX10_addTo 17 = .ok (.iconst 4, 1) := by decide +kernel
theorem dX10_addTo_18 : decode cX10_addTo 18 = .ok (.if_icmp .lt 4, 3) := by decide +kernel
theorem dX10_addTo_21 : decode cX10_addTo 21 = .ok (.return_, 1) := by decide +kernel
theorem dX10_addTo_22 : decode cX10_addTo 22 = .ok (.iload_n 1, 1) := by decide +kernel
theorem dX10_addTo_23 : decode cX10_addTo 23 = .ok (.iconst 4, 1) := by decide +kernel
theorem dX10_addTo_24 : decode cX10_addTo 24 = .ok (.imul, 1) := by decide +kernel
theorem dX10_addTo_25 : decode cX10_addTo 25 = .ok (.iload_n 2, 1) := by decide +kernel
theorem dX10_addTo_26 : decode cX10_addTo 26 = .ok (.iadd, 1) := by decide +kernel
theorem dX10_addTo_27 : decode cX10_addTo 27 = .ok (.istore 6, 2) := by decide +kernel
theorem dX10_addTo_29 : decode cX10_addTo 29 = .ok (.aload_n 0, 1) := by decide +kernel
theorem dX10_addTo_30 : decode cX10_addTo 30 = .ok (.getfield 26, 3) := by decide +kernel
theorem dX10_addTo_33 : decode cX10_addTo 33 = .ok (.iload 6, 2) := by decide +kernel
theorem dX10_addTo_35 : decode cX10_addTo 35 = .ok (.laload, 1) := by decide +kernel
theorem dX10_addTo_36 : decode cX10_addTo 36 = .ok (.lstore 7, 2) := by decide +kernel
theorem dX10_addTo_38 : decode cX10_addTo 38 = .ok (.aload_n 0, 1) := by decide +kernel
theorem dX10_addTo_39 : decode cX10_addTo 39 = .ok (.getfield 23, 3) := by decide +kernel
theorem dX10_addTo_42 : decode cX10_addTo 42 = .ok (.iload_n 1, 1) := by decide +kernel
theorem dX10_addTo_43 : decode cX10_addTo 43 = .ok (.iaload, 1) := by decide +kernel
theorem dX10_addTo_44 : decode cX10_addTo 44 = .ok (.iconst 1, 1) := by decide +kernel
theorem dX10_addTo_45 : decode cX10_addTo 45 = .ok (.if_icmp .ne 7, 3) := by decide +kernel
theorem dX10_addTo_48 : decode cX10_addTo 48 = .ok (.iconst 1, 1) := by decide +kernel
theorem dX10_addTo_49 : decode cX10_addTo 49 = .ok (.goto 4, 3) := by decide +kernel
theorem dX10_addTo_52 : decode cX10_addTo 52 = .ok (.iconst 0, 1) := by decide +kernel
theorem dX10_addTo_53 : decode cX10_addTo 53 = .ok (.istore 9, 2) := by decide +kernel
theorem dX10_addTo_55 : decode cX10_addTo 55 = .ok (.iload_n 3, 1) := by decide +kernel
theorem dX10_addTo_56 : decode cX10_addTo 56 = .ok (.tableswitch 134 150 153 #[49, 32, 74, 104], 32) := by decide +kernel
theorem dX10_addTo_88 : decode cX10_addTo 88 = .ok (.aload_n 0, 1) := by decide +kernel
theorem dX10_addTo_89 : decode cX10_addTo 89 = .ok (.getfield 26, 3) := by decide +kernel
theorem dX10_addTo_92 : decode cX10_addTo 92 = .ok (.iload 6, 2) := by decide +kernel
theorem dX10_addTo_94 : decode cX10_addTo 94 = .ok (.aload_n 0, 1) := by decide +kernel
theorem dX10_addTo_95 : decode cX10_addTo 95 = .ok (.getfield 23, 3) := by decide +kernel
theorem dX10_addTo_98 : decode cX10_addTo 98 = .ok (.iload_n 1, 1) := by decide +kernel
theorem dX10_addTo_99 : decode cX10_addTo 99 = .ok (.iaload, 1) := by decide +kernel
theorem dX10_addTo_100 : decode cX10_addTo 100 = .ok (.i2l, 1) := by decide +kernel
theorem dX10_addTo_101 : decode cX10_addTo 101 = .ok (.lastore, 1) := by decide +kernel
theorem dX10_addTo_102 : decode cX10_addTo 102 = .ok (.goto 97, 3) := by decide +kernel
theorem dX10_addTo_105 : decode cX10_addTo 105 = .ok (.aload_n 0, 1) := by decide +kernel
theorem dX10_addTo_106 : decode cX10_addTo 106 = .ok (.getfield 26, 3) := by decide +kernel
theorem dX10_addTo_109 : decode cX10_addTo 109 = .ok (.iload 6, 2) := by decide +kernel
theorem dX10_addTo_111 : decode cX10_addTo 111 = .ok (.iload 9, 2) := by decide +kernel
theorem dX10_addTo_113 : decode cX10_addTo 113 = .ok (.ifCond .eq 8, 3) := by decide +kernel
theorem dX10_addTo_116 : decode cX10_addTo 116 = .ok (.lload 4, 2) := by decide +kernel
theorem dX10_addTo_118 : decode cX10_addTo 118 = .ok (.goto 8, 3) := by decide +kernel
theorem dX10_addTo_121 : decode cX10_addTo 121 = .ok (.lload 7, 2) := by decide +kernel
theorem dX10_addTo_123 : decode cX10_addTo 123 = .ok (.lload 4, 2) := by decide +kernel
theorem dX10_addTo_125 : decode cX10_addTo 125 = .ok (.ladd, 1) := by decide +kernel
theorem dX10_addTo_126 : decode cX10_addTo 126 = .ok (.lastore, 1) := by decide +kernel
theorem dX10_addTo_127 : decode cX10_addTo 127 = .ok (.goto 72, 3) := by decide +kernel
theorem dX10_addTo_130 : decode cX10_addTo 130 = .ok (.aload_n 0, 1) := by decide +kernel
theorem dX10_addTo_131 : decode cX10_addTo 131 = .ok (.getfield 26, 3) := by decide +kernel
theorem dX10_addTo_134 : decode cX10_addTo 134 = .ok (.iload 6, 2) := by decide +kernel
theorem dX10_addTo_136 : decode cX10_addTo 136 = .ok (.iload 9, 2) := by decide +kernel
theorem dX10_addTo_138 : decode cX10_addTo 138 = .ok (.ifCond .ne 11, 3) := by decide +kernel
theorem dX10_addTo_141 : decode cX10_addTo 141 = .ok (.lload 4, 2) := by decide +kernel
theorem dX10_addTo_143 : decode cX10_addTo 143 = .ok (.lload 7, 2) := by decide +kernel
theorem dX10_addTo_145 : decode cX10_addTo 145 = .ok (.lcmp, 1) := by decide +kernel
theorem dX10_addTo_146 : decode cX10_addTo 146 = .ok (.ifCond .ge 8, 3) := by decide +kernel
theorem dX10_addTo_149 : decode cX10_addTo 149 = .ok (.lload 4, 2) := by decide +kernel
theorem dX10_addTo_151 : decode cX10_addTo 151 = .ok (.goto 5, 3) := by decide +kernel
theorem dX10_addTo_154 : decode cX10_addTo 154 = .ok (.lload 7, 2) := by decide +kernel
theorem dX10_addTo_156 : decode cX10_addTo 156 = .ok (.lastore, 1) := by decide +kernel
theorem dX10_addTo_157 : decode cX10_addTo 157 = .ok (.goto 42, 3) := by decide +kernel
theorem dX10_addTo_160 : decode cX10_addTo 160 = .ok (.aload_n 0, 1) := by decide +kernel
theorem dX10_addTo_161 : decode cX10_addTo 161 = .ok (.getfield 26, 3) := by decide +kernel
theorem dX10_addTo_164 : decode cX10_addTo 164 = .ok (.iload 6, 2) := by decide +kernel
theorem dX10_addTo_166 : decode cX10_addTo 166 = .ok (.iload 9, 2) := by decide +kernel
theorem dX10_addTo_168 : decode cX10_addTo 168 = .ok (.ifCond .ne 11, 3) := by decide +kernel
theorem dX10_addTo_171 : decode cX10_addTo 171 = .ok (.lload 4, 2) := by decide +kernel
theorem dX10_addTo_173 : decode cX10_addTo 173 = .ok (.lload 7, 2) := by decide +kernel
theorem dX10_addTo_175 : decode cX10_addTo 175 = .ok (.lcmp, 1) := by decide +kernel
theorem dX10_addTo_176 : decode cX10_addTo 176 = .ok (.ifCond .le 8, 3) := by decide +kernel
theorem dX10_addTo_179 : decode cX10_addTo 179 = .ok (.lload 4, 2) := by decide +kernel
theorem dX10_addTo_181 : decode cX10_addTo 181 = .ok (.goto 5, 3) := by decide +kernel
theorem dX10_addTo_184 : decode cX10_addTo 184 = .ok (.lload 7, 2) := by decide +kernel
theorem dX10_addTo_186 : decode cX10_addTo 186 = .ok (.lastore, 1) := by decide +kernel
theorem dX10_addTo_187 : decode cX10_addTo 187 = .ok (.goto 12, 3) := by decide +kernel
theorem dX10_addTo_190 : decode cX10_addTo 190 = .ok (.aload_n 0, 1) := by decide +kernel
theorem dX10_addTo_191 : decode cX10_addTo 191 = .ok (.getfield 26, 3) := by decide +kernel
theorem dX10_addTo_194 : decode cX10_addTo 194 = .ok (.iload 6, 2) := by decide +kernel
theorem dX10_addTo_196 : decode cX10_addTo 196 = .ok (.lload 4, 2) := by decide +kernel
theorem dX10_addTo_198 : decode cX10_addTo 198 = .ok (.lastore, 1) := by decide +kernel
theorem dX10_addTo_199 : decode cX10_addTo 199 = .ok (.return_, 1) := by decide +kernel
theorem dX10_copyTo_0 : decode cX10_copyTo 0 = .ok (.iload_n 1, 1) := by decide +kernel
theorem dX10_copyTo_1 : decode cX10_copyTo 1 = .ok (.ifCond .lt 11, 3) := by decide +kernel
theorem dX10_copyTo_4 : decode cX10_copyTo 4 = .ok (.iload_n 1, 1) := by decide +kernel
theorem dX10_copyTo_5 : decode cX10_copyTo 5 = .ok (.aload_n 0, 1) := by decide +kernel
theorem dX10_copyTo_6 : decode cX10_copyTo 6 = .ok (.getfield 29, 3) := by decide +kernel
theorem dX10_copyTo_9 : decode cX10_copyTo 9 = .ok (.if_icmp .lt 4, 3) := by decide +kernel
theorem dX10_copyTo_12 : decode cX10_copyTo 12 = .ok (.return_, 1) := by decide +kernel
theorem dX10_copyTo_13 : decode cX10_copyTo 13 = .ok (.aload 4, 2) := by decide +kernel
theorem dX10_copyTo_15 : decode cX10_copyTo 15 = .ok (.aload_n 0, 1) := by decide +kernel
theorem dX10_copyTo_16 : decode cX10_copyTo 16 = .ok (.getfield 15, 3) := by decide +kernel
theorem dX10_copyTo_19 : decode cX10_copyTo 19 = .ok (.iload_n 1, 1) := by decide +kernel
theorem dX10_copyTo_20 : decode cX10_copyTo 20 = .ok (.iaload, 1) := by decide +kernel
theorem dX10_copyTo_21 : decode cX10_copyTo 21 = .ok (.invokevirtual 33, 3) := by decide +kernel
theorem dX10_copyTo_24 : decode cX10_copyTo 24 = .ok (.aload 4, 2) := by decide +kernel
theorem dX10_copyTo_26 : decode cX10_copyTo 26 = .ok (.aload_n 0, 1) := by decide +kernel
theorem dX10_copyTo_27 : decode cX10_copyTo 27 = .ok (.getfield 9, 3) := by decide +kernel
theorem dX10_copyTo_30 : decode cX10_copyTo 30 = .ok (.iload_n 1, 1) := by decide +kernel
theorem dX10_copyTo_31 : decode cX10_copyTo 31 = .ok (.laload, 1) := by decide +kernel
theorem dX10_copyTo_32 : decode cX10_copyTo 32 = .ok (.invokevirtual 39, 3) := by decide +kernel
theorem dX10_copyTo_35 : decode cX10_copyTo 35 = .ok (.aload 4, 2) := by decide +kernel
theorem dX10_copyTo_37 : decode cX10_copyTo 37 = .ok (.aload_n 0, 1) := by decide +kernel
theorem dX10_copyTo_38 : decode cX10_copyTo 38 = .ok (.getfield 15, 3) := by decide +kernel
theorem dX10_copyTo_41 : decode cX10_copyTo 41 = .ok (.iload_n 1, 1) := by decide +kernel
theorem dX10_copyTo_42 : decode cX10_copyTo 42 = .ok (.iaload, 1) := by decide +kernel
theorem dX10_copyTo_43 : decode cX10_copyTo 43 = .ok (.iload_n 2, 1) := by decide +kernel
theorem dX10_copyTo_44 : decode cX10_copyTo 44 = .ok (.isub, 1) := by decide +kernel
theorem dX10_copyTo_45 : decode cX10_copyTo 45 = .ok (.i2l, 1) := by decide +kernel
theorem dX10_copyTo_46 : decode cX10_copyTo 46 = .ok (.invokevirtual 39, 3) := by decide +kernel
theorem dX10_copyTo_49 : decode cX10_copyTo 49 = .ok (.iconst 0, 1) := by decide +kernel
theorem dX10_copyTo_50 : decode cX10_copyTo 50 = .ok (.istore 5, 2) := by decide +kernel
theorem dX10_copyTo_52 : decode cX10_copyTo 52 = .ok (.iload 5, 2) := by decide +kernel
theorem dX10_copyTo_54 : decode cX10_copyTo 54 = .ok (.iload_n 3, 1) := by decide +kernel
theorem dX10_copyTo_55 : decode cX10_copyTo 55 = .ok (.if_icmp .ge 31, 3) := by decide +kernel
theorem dX10_copyTo_58 : decode cX10_copyTo 58 = .ok (.iload 5, 2) := by decide +kernel
theorem dX10_copyTo_60 : decode cX10_copyTo 60 = .ok (.iconst 4, 1) := by decide +kernel
theorem dX10_copyTo_61 : decode cX10_copyTo 61 = .ok (.if_icmp .ge 25, 3) := by decide +kernel
theorem dX10_copyTo_64 : decode cX10_copyTo 64 = .ok (.aload 4, 2) := by decide +kernel
theorem dX10_copyTo_66 : decode cX10_copyTo 66 = .ok (.aload_n 0, 1) := by decide +kernel
theorem dX10_copyTo_67 : decode cX10_copyTo 67 = .ok (.getfield 26, 3) := by decide +kernel
theorem dX10_copyTo_70 : decode cX10_copyTo 70 = .ok (.iload_n 1, 1) := by decide +kernel
theorem dX10_copyTo_71 : decode cX10_copyTo 71 = .ok (.iconst 4, 1) := by decide +kernel
theorem dX10_copyTo_72 : decode cX10_copyTo 72 = .ok (.imul, 1) := by decide +kernel
theorem dX10_copyTo_73 : decode cX10_copyTo 73 = .ok (.iload 5, 2) := by decide +kernel
theorem dX10_copyTo_75 : decode cX10_copyTo 75 = .ok (.iadd, 1) := by decide +kernel
theorem dX10_copyTo_76 : decode cX10_copyTo 76 = .ok (.laload, 1) := by decide +kernel
theorem dX10_copyTo_77 : decode cX10_copyTo 77 = .ok (.invokevirtual 39, 3) := by decide +kernel
theorem dX10_copyTo_80 : decode cX10_copyTo 80 = .ok (.iinc 5 1, 3) := by decide +kernel
theorem dX10_copyTo_83 : decode cX10_copyTo 83 = .ok (.goto (-31), 3) := by decide +kernel
theorem dX10_copyTo_86 : decode cX10_copyTo 86 = .ok (.return_, 1) := by decide +kernel
theorem dX10_closeNext_0 : decode cX10_closeNext 0 = .ok (.iconst (-1), 1) := by decide +kernel
theorem dX10_closeNext_1 : decode cX10_closeNext 1 = .ok (.istore_n 2, 1) := by decide +kernel
theorem dX10_closeNext_2 : decode cX10_closeNext 2 = .ok (.iconst 0, 1) := by decide +kernel
theorem dX10_closeNext_3 : decode cX10_closeNext 3 = .ok (.istore_n 3, 1) := by decide +kernel
theorem dX10_closeNext_4 : decode cX10_closeNext 4 = .ok (.iload_n 3, 1) := by decide +kernel
theorem dX10_closeNext_5 : decode cX10_closeNext 5 = .ok (.aload_n 0, 1) := by decide +kernel
theorem dX10_closeNext_6 : decode cX10_closeNext 6 = .ok (.getfield 29, 3) := by decide +kernel
theorem dX10_closeNext_9 : decode cX10_closeNext 9 = .ok (.if_icmp .ge 52, 3) := by decide +kernel
theorem dX10_closeNext_12 : decode cX10_closeNext 12 = .ok (.iload_n 3, 1) := by decide +kernel
theorem dX10_closeNext_13 : decode cX10_closeNext 13 = .ok (.aload_n 0, 1) := by decide +kernel
theorem dX10_closeNext_14 : decode cX10_closeNext 14 = .ok (.getfield 9, 3) := by decide +kernel
theorem dX10_closeNext_17 : decode cX10_closeNext 17 = .ok (.arraylength, 1) := by decide +kernel
theorem dX10_closeNext_18 : decode cX10_closeNext 18 = .ok (.if_icmp .ge 43, 3) := by decide +kernel
theorem dX10_closeNext_21 : decode cX10_closeNext 21 = .ok (.aload_n 0, 1) := by decide +kernel
theorem dX10_closeNext_22 : decode cX10_closeNext 22 = .ok (.getfield 19, 3) := by decide +kernel
theorem dX10_closeNext_25 : decode cX10_closeNext 25 = .ok (.iload_n 3, 1) := by decide +kernel
theorem dX10_closeNext_26 : decode cX10_closeNext 26 = .ok (.baload, 1) := by decide +kernel
theorem dX10_closeNext_27 : decode cX10_closeNext 27 = .ok (.ifCond .ne 28, 3) := by decide +kernel
theorem dX10_closeNext_30 : decode cX10_closeNext 30 = .ok (.aload_n 0, 1) := by decide +kernel
theorem dX10_closeNext_31 : decode cX10_closeNext 31 = .ok (.getfield 15, 3) := by decide +kernel
theorem dX10_closeNext_34 : decode cX10_closeNext 34 = .ok (.iload_n 3, 1) := by decide +kernel
theorem dX10_closeNext_35 : decode cX10_closeNext 35 = .ok (.iaload, 1) := by decide +kernel
theorem dX10_closeNext_36 : decode cX10_closeNext 36 = .ok (.iload_n 1, 1) := by decide +kernel
theorem dX10_closeNext_37 : decode cX10_closeNext 37 = .ok (.if_icmp .gt 18, 3) := by decide +kernel
theorem dX10_closeNext_40 : decode cX10_closeNext 40 = .ok (.iload_n 2, 1) := by decide +kernel
theorem dX10_closeNext_41 : decode cX10_closeNext 41 = .ok (.ifCond .lt 12, 3) := by decide +kernel
theorem dX10_closeNext_44 : decode cX10_closeNext 44 = .ok (.aload_n 0, 1) := by decide +kernel
theorem dX10_closeNext_45 : decode cX10_closeNext 45 = .ok (.iload_n 3, 1) := by decide +kernel
theorem dX10_closeNext_46 : decode cX10_closeNext 46 = .ok (.iload_n 2, 1) := by decide +kernel
theorem dX10_closeNext_47 : decode cX10_closeNext 47 = .ok (.invokevirtual 43, 3) := by decide +kernel
theorem dX10_closeNext_50 : decode cX10_closeNext 50 = .ok (.ifCond .eq 5, 3) := by decide +kernel
theorem dX10_closeNext_53 : decode cX10_closeNext 53 = .ok (.iload_n 3, 1) := by decide +kernel
theorem dX10_closeNext_54 : decode cX10_closeNext 54 = .ok (.istore_n 2, 1) := by decide +kernel
theorem dX10_closeNext_55 : decode cX10_closeNext 55 = .ok (.iinc 3 1, 3) := by decide +kernel
theorem dX10_closeNext_58 : decode cX10_closeNext 58 = .ok (.goto (-54), 3) := by decide +kernel
theorem dX10_closeNext_61 : decode cX10_closeNext 61 = .ok (.iload_n 2, 1) := by decide +kernel
theorem dX10_closeNext_62 : decode cX10_closeNext 62 = .ok (.ifCond .lt 10, 3) := by decide +kernel
theorem dX10_closeNext_65 : decode cX10_closeNext 65 = .ok (.aload_n 0, 1) := by decide +kernel
theorem dX10_closeNext_66 : decode cX10_closeNext 66 = .ok (.getfield 19, 3) := by decide +kernel
theorem dX10_closeNext_69 : decode cX10_closeNext 69 = .ok (.iload_n 2, 1) := by decide +kernel
theorem dX10_closeNext_70 : decode cX10_closeNext 70 = .ok (.iconst 1, 1) := by decide +kernel
theorem dX10_closeNext_71 : decode cX10_closeNext 71 = .ok (.bastore, 1) := by decide +kernel
theorem dX10_closeNext_72 : decode cX10_closeNext 72 = .ok (.iload_n 2, 1) := by decide +kernel
theorem dX10_closeNext_73 : decode cX10_closeNext 73 = .ok (.ireturn, 1) := by decide +kernel
theorem dX10_isAhead_0 : decode cX10_isAhead 0 = .ok (.aload_n 0, 1) := by decide +kernel
theorem dX10_isAhead_1 : decode cX10_isAhead 1 = .ok (.getfield 15, 3) := by decide +kernel
theorem dX10_isAhead_4 : decode cX10_isAhead 4 = .ok (.iload_n 1, 1) := by decide +kernel
theorem dX10_isAhead_5 : decode cX10_isAhead 5 = .ok (.iaload, 1) := by decide +kernel
theorem dX10_isAhead_6 : decode cX10_isAhead 6 = .ok (.aload_n 0, 1) := by decide +kernel
theorem dX10_isAhead_7 : decode cX10_isAhead 7 = .ok (.getfield 15, 3) := by decide +kernel
theorem dX10_isAhead_10 : decode cX10_isAhead 10 = .ok (.iload_n 2, 1) := by decide +kernel
theorem dX10_isAhead_11 : decode cX10_isAhead 11 = .ok (.iaload, 1) := by decide +kernel
theorem dX10_isAhead_12 : decode cX10_isAhead 12 = .ok (.if_icmp .lt 34, 3) := by decide +kernel
theorem dX10_isAhead_15 : decode cX10_isAhead 15 = .ok (.aload_n 0, 1) := by decide +kernel
theorem dX10_isAhead_16 : decode cX10_isAhead 16 = .ok (.getfield 15, 3) := by decide +kernel
theorem dX10_isAhead_19 : decode cX10_isAhead 19 = .ok (.iload_n 1, 1) := by decide +kernel
theorem dX10_isAhead_20 : decode cX10_isAhead 20 = .ok (.iaload, 1) := by decide +kernel
theorem dX10_isAhead_21 : decode cX10_isAhead 21 = .ok (.aload_n 0, 1) := by decide +kernel
theorem dX10_isAhead_22 : decode cX10_isAhead 22 = .ok (.getfield 15, 3) := by decide +kernel
theorem dX10_isAhead_25 : decode cX10_isAhead 25 = .ok (.iload_n 2, 1) := by decide +kernel
theorem dX10_isAhead_26 : decode cX10_isAhead 26 = .ok (.iaload, 1) := by decide +kernel
theorem dX10_isAhead_27 : decode cX10_isAhead 27 = .ok (.if_icmp .ne 23, 3) := by decide +kernel
theorem dX10_isAhead_30 : decode cX10_isAhead 30 = .ok (.aload_n 0, 1) := by decide +kernel
theorem dX10_isAhead_31 : decode cX10_isAhead 31 = .ok (.getfield 9, 3) := by decide +kernel
theorem dX10_isAhead_34 : decode cX10_isAhead 34 = .ok (.iload_n 1, 1) := by decide +kernel
theorem dX10_isAhead_35 : decode cX10_isAhead 35 = .ok (.laload, 1) := by decide +kernel
theorem dX10_isAhead_36 : decode cX10_isAhead 36 = .ok (.aload_n 0, 1) := by decide +kernel
theorem dX10_isAhead_37 : decode cX10_isAhead 37 = .ok (.getfield 9, 3) := by decide +kernel
theorem dX10_isAhead_40 : decode cX10_isAhead 40 = .ok (.iload_n 2, 1) := by decide +kernel
theorem dX10_isAhead_41 : decode cX10_isAhead 41 = .ok (.laload, 1) := by decide +kernel
theorem dX10_isAhead_42 : decode cX10_isAhead 42 = .ok (.lcmp, 1) := by decide +kernel
theorem dX10_isAhead_43 : decode cX10_isAhead 43 = .ok (.ifCond .ge 7, 3) := by decide +kernel
theorem dX10_isAhead_46 : decode cX10_isAhead 46 = .ok (.iconst 1, 1) := by decide +kernel
theorem dX10_isAhead_47 : decode cX10_isAhead 47 = .ok (.goto 4, 3) := by decide +kernel
theorem dX10_isAhead_50 : decode cX10_isAhead 50 = .ok (.iconst 0, 1) := by decide +kernel
theorem dX10_isAhead_51 : decode cX10_isAhead 51 = .ok (.ireturn, 1) := by decide +kernel
theorem dX10_removeGone_0 : decode cX10_removeGone 0 = .ok (.iconst 0, 1) := by decide +kernel
theorem dX10_removeGone_1 : decode cX10_removeGone 1 = .ok (.istore_n 3, 1) := by decide +kernel
theorem dX10_removeGone_2 : decode cX10_removeGone 2 = .ok (.iconst 0, 1) := by decide +kernel
theorem dX10_removeGone_3 : decode cX10_removeGone 3 = .ok (.istore 4, 2) := by decide +kernel
theorem dX10_removeGone_5 : decode cX10_removeGone 5 = .ok (.iload 4, 2) := by decide +kernel
theorem dX10_removeGone_7 : decode cX10_removeGone 7 = .ok (.aload_n 0, 1) := by decide +kernel
theorem dX10_removeGone_8 : decode cX10_removeGone 8 = .ok (.getfield 29, 3) := by decide +kernel
theorem dX10_removeGone_11 : decode cX10_removeGone 11 = .ok (.if_icmp .ge 42, 3) := by decide +kernel
theorem dX10_removeGone_14 : decode cX10_removeGone 14 = .ok (.iload 4, 2) := by decide +kernel
theorem dX10_removeGone_16 : decode cX10_removeGone 16 = .ok (.aload_n 0, 1) := by decide +kernel
theorem dX10_removeGone_17 : decode cX10_removeGone 17 = .ok (.getfield 9, 3) := by decide +kernel
theorem dX10_removeGone_20 : decode cX10_removeGone 20 = .ok (.arraylength, 1) := by decide +kernel
theorem dX10_removeGone_21 : decode cX10_removeGone 21 = .ok (.if_icmp .ge 32, 3) := by decide +kernel
theorem dX10_removeGone_24 : decode cX10_removeGone 24 = .ok (.aload_n 0, 1) := by decide +kernel
theorem dX10_removeGone_25 : decode cX10_removeGone 25 = .ok (.getfield 15, 3) := by decide +kernel
theorem dX10_removeGone_28 : decode cX10_removeGone 28 = .ok (.iload 4, 2) := by decide +kernel
theorem dX10_removeGone_30 : decode cX10_removeGone 30 = .ok (.iaload, 1) := by decide +kernel
theorem dX10_removeGone_31 : decode cX10_removeGone 31 = .ok (.iload_n 2, 1) := by decide +kernel
theorem dX10_removeGone_32 : decode cX10_removeGone 32 = .ok (.iadd, 1) := by decide +kernel
theorem dX10_removeGone_33 : decode cX10_removeGone 33 = .ok (.iload_n 1, 1) := by decide +kernel
theorem dX10_removeGone_34 : decode cX10_removeGone 34 = .ok (.if_icmp .le 13, 3) := by decide +kernel
theorem dX10_removeGone_37 : decode cX10_removeGone 37 = .ok (.aload_n 0, 1) := by decide +kernel
theorem dX10_removeGone_38 : decode cX10_removeGone 38 = .ok (.iload 4, 2) := by decide +kernel
theorem dX10_removeGone_40 : decode cX10_removeGone 40 = .ok (.iload_n 3, 1) := by decide +kernel
theorem dX10_removeGone_41 : decode cX10_removeGone 41 = .ok (.invokevirtual 47, 3) := by decide +kernel
theorem dX10_removeGone_44 : decode cX10_removeGone 44 = .ok (.iinc 3 1, 3) := by decide +kernel
theorem dX10_removeGone_47 : decode cX10_removeGone 47 = .ok (.iinc 4 1, 3) := by decide +kernel
theorem dX10_removeGone_50 : decode cX10_removeGone 50 = .ok (.goto (-45), 3) := by decide +kernel
theorem dX10_removeGone_53 : decode cX10_removeGone 53 = .ok (.aload_n 0, 1) := by decide +kernel
theorem dX10_removeGone_54 : decode cX10_removeGone 54 = .ok (.iload_n 3, 1) := by decide +kernel
theorem dX10_removeGone_55 : decode cX10_removeGone 55 = .ok (.putfield 29, 3) := by decide +kernel
theorem dX10_removeGone_58 : decode cX10_removeGone 58 = .ok (.return_, 1) := by decide +kernel
theorem dX10_move_0 : decode cX10_move 0 = .ok (.aload_n 0, 1) := by decide +kernel
theorem dX10_move_1 : decode cX10_move 1 = .ok (.getfield 9, 3) := by decide +kernel
theorem dX10_move_4 : decode cX10_move 4 = .ok (.iload_n 2, 1) := by decide +kernel
theorem dX10_move_5 : decode cX10_move 5 = .ok (.aload_n 0, 1) := by decide +kernel
theorem dX10_move_6 : decode cX10_move 6 = .ok (.getfield 9, 3) := by decide +kernel
theorem dX10_move_9 : decode cX10_move 9 = .ok (.iload_n 1, 1) := by decide +kernel
theorem dX10_move_10 : decode cX10_move 10 = .ok (.laload, 1) := by decide +kernel
theorem dX10_move_11 : decode cX10_move 11 = .ok (.lastore, 1) := by decide +kernel
theorem dX10_move_12 : decode cX10_move 12 = .ok (.aload_n 0, 1) := by decide +kernel
theorem dX10_move_13 : decode cX10_move 13 = .ok (.getfield 15, 3) := by decide +kernel
theorem dX10_move_16 : decode cX10_move 16 = .ok (.iload_n 2, 1) := by decide +kernel
theorem dX10_move_17 : decode cX10_move 17 = .ok (.aload_n 0, 1) := by decide +kernel
theorem dX10_move_18 : decode cX10_move 18 = .ok (.getfield 15, 3) := by decide +kernel
theorem dX10_move_21 : decode cX10_move 21 = .ok (.iload_n 1, 1) := by decide +kernel
theorem dX10_move_22 : decode cX10_move 22 = .ok (.iaload, 1) := by decide +kernel
theorem dX10_move_23 : decode cX10_move 23 = .ok (.iastore, 1) := by decide +kernel
theorem dX10_move_24 : decode cX10_move 24 = .ok (.aload_n 0, 1) := by decide +kernel
theorem dX10_move_25 : decode cX10_move 25 = .ok (.getfield 19, 3) := by decide +kernel
theorem dX10_move_28 : decode cX10_move 28 = .ok (.iload_n 2, 1) := by decide +kernel
theorem dX10_move_29 : decode cX10_move 29 = .ok (.aload_n 0, 1) := by decide +kernel
theorem dX10_move_30 : decode cX10_move 30 = .ok (.getfield 19, 3) := by decide +kernel
theorem dX10_move_33 : decode cX10_move 33 = .ok (.iload_n 1, 1) := by decide +kernel
theorem dX10_move_34 : decode cX10_move 34 = .ok (.baload, 1) := by decide +kernel
theorem dX10_move_35 : decode cX10_move 35 = .ok (.bastore, 1) := by decide +kernel
theorem dX10_move_36 : decode cX10_move 36 = .ok (.aload_n 0, 1) := by decide +kernel
theorem dX10_move_37 : decode cX10_move 37 = .ok (.getfield 23, 3) := by decide +kernel
theorem dX10_move_40 : decode cX10_move 40 = .ok (.iload_n 2, 1) := by decide +kernel
theorem dX10_move_41 : decode cX10_move 41 = .ok (.aload_n 0, 1) := by decide +kernel
theorem dX10_move_42 : decode cX10_move 42 = .ok (.getfield 23, 3) := by decide +kernel
theorem dX10_move_45 : decode cX10_move 45 = .ok (.iload_n 1, 1) := by decide +kernel
theorem dX10_move_46 : decode cX10_move 46 = .ok (.iaload, 1) := by decide +kernel
theorem dX10_move_47 : decode cX10_move 47 = .ok (.iastore, 1) := by decide +kernel
theorem dX10_move_48 : decode cX10_move 48 = .ok (.iconst 0, 1) := by decide +kernel
theorem dX10_move_49 : decode cX10_move 49 = .ok (.istore_n 3, 1) := by decide +kernel
theorem dX10_move_50 : decode cX10_move 50 = .ok (.iload_n 3, 1) := by decide +kernel
theorem dX10_move_51 : decode cX10_move 51 = .ok (.iconst 4, 1) := by decide +kernel
theorem dX10_move_52 : decode cX10_move 52 = .ok (.if_icmp .ge 29, 3) := by decide +kernel
theorem dX10_move_55 : decode cX10_move 55 = .ok (.aload_n 0, 1) := by decide +kernel
theorem dX10_move_56 : decode cX10_move 56 = .ok (.getfield 26, 3) := by decide +kernel
theorem dX10_move_59 : decode cX10_move 59 = .ok (.iload_n 2, 1) := by decide +kernel
theorem dX10_move_60 : decode cX10_move 60 = .ok (.iconst 4, 1) := by decide +kernel
theorem dX10_move_61 : decode cX10_move 61 = .ok (.imul, 1) := by decide +kernel
theorem dX10_move_62 : decode cX10_move 62 = .ok (.iload_n 3, 1) := by decide +kernel
theorem dX10_move_63 : decode cX10_move 63 = .ok (.iadd, 1) := by decide +kernel
theorem dX10_move_64 : decode cX10_move 64 = .ok (.aload_n 0, 1) := by decide +kernel
theorem dX10_move_65 : decode cX10_move 65 = .ok (.getfield 26, 3) := by decide +kernel
theorem dX10_move_68 : decode cX10_move 68 = .ok (.iload_n 1, 1) := by decide +kernel
theorem dX10_move_69 : decode cX10_move 69 = .ok (.iconst 4, 1) := by decide +kernel
theorem dX10_move_70 : decode cX10_move 70 = .ok (.imul, 1) := by decide +kernel
theorem dX10_move_71 : decode cX10_move 71 = .ok (.iload_n 3, 1) := by decide +kernel
theorem dX10_move_72 : decode cX10_move 72 = .ok (.iadd, 1) := by decide +kernel
theorem dX10_move_73 : decode cX10_move 73 = .ok (.laload, 1) := by decide +kernel
theorem dX10_move_74 : decode cX10_move 74 = .ok (.lastore, 1) := by decide +kernel
theorem dX10_move_75 : decode cX10_move 75 = .ok (.iinc 3 1, 3) := by decide +kernel
theorem dX10_move_78 : decode cX10_move 78 = .ok (.goto (-28), 3) := by decide +kernel
theorem dX10_move_81 : decode cX10_move 81 = .ok (.return_, 1) := by decide +kernel
theorem dX11_init_0 : decode cX11_init 0 = .ok (.aload_n 0, 1) := by decide +kernel
theorem dX11_init_1 : decode cX11_init 1 = .ok (.invokespecial 3, 3) := by decide +kernel
theorem dX11_init_4 : decode cX11_init 4 = .ok (.aload_n 0, 1) := by decide +kernel
theorem dX11_init_5 : decode cX11_init 5 = .ok (.sipush 1500, 3) := by decide +kernel
theorem dX11_init_8 : decode cX11_init 8 = .ok (.newarray .byte, 2) := by decide +kernel
theorem dX11_init_10 : decode cX11_init 10 = .ok (.putfield 9, 3) := by decide +kernel
theorem dX11_init_13 : decode cX11_init 13 = .ok (.aload_n 0, 1) := by decide +kernel
theorem dX11_init_14 : decode cX11_init 14 = .ok (.new 13, 3) := by decide +kernel
theorem dX11_init_17 : decode cX11_init 17 = .ok (.dup, 1) := by decide +kernel
theorem dX11_init_18 : decode cX11_init 18 = .ok (.invokespecial 15, 3) := by decide +kernel
theorem dX11_init_21 : decode cX11_init 21 = .ok (.putfield 16, 3) := by decide +kernel
theorem dX11_init_24 : decode cX11_init 24 = .ok (.aload_n 0, 1) := by decide +kernel
theorem dX11_init_25 : decode cX11_init 25 = .ok (.new 20, 3) := by decide +kernel
theorem dX11_init_28 : decode cX11_init 28 = .ok (.dup, 1) := by decide +kernel
theorem dX11_init_29 : decode cX11_init 29 = .ok (.invokespecial 22, 3) := by decide +kernel
theorem dX11_init_32 : decode cX11_init 32 = .ok (.putfield 23, 3) := by decide +kernel
theorem dX11_init_35 : decode cX11_init 35 = .ok (.aload_n 0, 1) := by decide +kernel
theorem dX11_init_36 : decode cX11_init 36 = .ok (.new 20, 3) := by decide +kernel
theorem dX11_init_39 : decode cX11_init 39 = .ok (.dup, 1) := by decide +kernel
theorem dX11_init_40 : decode cX11_init 40 = .ok (.invokespecial 22, 3) := by decide +kernel
theorem dX11_init_43 : decode cX11_init 43 = .ok (.putfield 27, 3) := by decide +kernel
theorem dX11_init_46 : decode cX11_init 46 = .ok (.aload_n 0, 1) := by decide +kernel
theorem dX11_init_47 : decode cX11_init 47 = .ok (.new 20, 3) := by decide +kernel
theorem dX11_init_50 : decode cX11_init 50 = .ok (.dup, 1) := by decide +kernel
theorem dX11_init_51 : decode cX11_init 51 = .ok (.invokespecial 22, 3) := by decide +kernel
theorem dX11_init_54 : decode cX11_init 54 = .ok (.putfield 30, 3) := by decide +kernel
theorem dX11_init_57 : decode cX11_init 57 = .ok (.aload_n 0, 1) := by decide +kernel
theorem dX11_init_58 : decode cX11_init 58 = .ok (.new 33, 3) := by decide +kernel
theorem dX11_init_61 : decode cX11_init 61 = .ok (.dup, 1) := by decide +kernel
theorem dX11_init_62 : decode cX11_init 62 = .ok (.aload_n 0, 1) := by decide +kernel
theorem dX11_init_63 : decode cX11_init 63 = .ok (.getfield 30, 3) := by decide +kernel
theorem dX11_init_66 : decode cX11_init 66 = .ok (.invokespecial 35, 3) := by decide +kernel
theorem dX11_init_69 : decode cX11_init 69 = .ok (.putfield 38, 3) := by decide +kernel
theorem dX11_init_72 : decode cX11_init 72 = .ok (.aload_n 0, 1) := by decide +kernel
theorem dX11_init_73 : decode cX11_init 73 = .ok (.new 42, 3) := by decide +kernel
theorem dX11_init_76 : decode cX11_init 76 = .ok (.dup, 1) := by decide +kernel
theorem dX11_init_77 : decode cX11_init 77 = .ok (.aload_n 0, 1) := by decide +kernel
theorem dX11_init_78 : decode cX11_init 78 = .ok (.getfield 16, 3) := by decide +kernel
theorem dX11_init_81 : decode cX11_init 81 = .ok (.aload_n 0, 1) := by decide +kernel
theorem dX11_init_82 : decode cX11_init 82 = .ok (.getfield 38, 3) := by decide +kernel
theorem dX11_init_85 : decode cX11_init 85 = .ok (.invokespecial 44, 3) := by decide +kernel
theorem dX11_init_88 : decode cX11_init 88 = .ok (.putfield 47, 3) := by decide +kernel
theorem dX11_init_91 : decode cX11_init 91 = .ok (.aload_n 0, 1) := by decide +kernel
theorem dX11_init_92 : decode cX11_init 92 = .ok (.iconst (-1), 1) := by decide +kernel
theorem dX11_init_93 : decode cX11_init 93 = .ok (.putfield 51, 3) := by decide +kernel
theorem dX11_init_96 : decode cX11_init 96 = .ok (.aload_n 0, 1) := by decide +kernel
theorem dX11_init_97 : decode cX11_init 97 = .ok (.new 55, 3) := by decide +kernel
theorem dX11_init_100 : decode cX11_init 100 = .ok (.dup, 1) := by decide +kernel
theorem dX11_init_101 : decode cX11_init 101 = .ok (.aload_n 0, 1) := by decide +kernel
theorem dX11_init_102 : decode cX11_init 102 = .ok (.getfield 23, 3) := by decide +kernel
theorem dX11_init_105 : decode cX11_init 105 = .ok (.invokespecial 57, 3) := by decide +kernel
theorem dX11_init_108 : decode cX11_init 108 = .ok (.putfield 58, 3) := by decide +kernel
theorem dX11_init_111 : decode cX11_init 111 = .ok (.aload_n 0, 1) := by decide +kernel
theorem dX11_init_112 : decode cX11_init 112 = .ok (.new 62, 3) := by decide +kernel
theorem dX11_init_115 : decode cX11_init 115 = .ok (.dup, 1) := by decide +kernel
theorem dX11_init_116 : decode cX11_init 116 = .ok (.invokespecial 64, 3) := by decide +kernel
theorem dX11_init_119 : decode cX11_init 119 = .ok (.putfield 65, 3) := by decide +kernel
theorem dX11_init_122 : decode cX11_init 122 = .ok (.aload_n 0, 1) := by decide +kernel
theorem dX11_init_123 : decode cX11_init 123 = .ok (.sipush 200, 3) := by decide +kernel
theorem dX11_init_126 : decode cX11_init 126 = .ok (.anewarray 69, 3) := by decide +kernel
theorem dX11_init_129 : decode cX11_init 129 = .ok (.putfield 71, 3) := by decide +kernel
theorem dX11_init_132 : decode cX11_init 132 = .ok (.aload_n 0, 1) := by decide +kernel
theorem dX11_init_133 : decode cX11_init 133 = .ok (.bipush 8, 2) := by decide +kernel
theorem dX11_init_135 : decode cX11_init 135 = .ok (.newarray .int, 2) := by decide +kernel
theorem dX11_init_137 : decode cX11_init 137 = .ok (.putfield 75, 3) := by decide +kernel
theorem dX11_init_140 : decode cX11_init 140 = .ok (.iconst 0, 1) := by decide +kernel
theorem dX11_init_141 : decode cX11_init 141 = .ok (.istore_n 1, 1) := by decide +kernel
theorem dX11_init_142 : decode cX11_init 142 = .ok (.iload_n 1, 1) := by decide +kernel
theorem dX11_init_143 : decode cX11_init 143 = .ok (.aload_n 0, 1) := by decide +kernel
theorem dX11_init_144 : decode cX11_init 144 = .ok (.getfield 71, 3) := by decide +kernel
theorem dX11_init_147 : decode cX11_init 147 = .ok (.arraylength, 1) := by decide +kernel
theorem dX11_init_148 : decode cX11_init 148 = .ok (.if_icmp .ge 22, 3) := by decide +kernel
theorem dX11_init_151 : decode cX11_init 151 = .ok (.aload_n 0, 1) := by decide +kernel
theorem dX11_init_152 : decode cX11_init 152 = .ok (.getfield 71, 3) := by decide +kernel
theorem dX11_init_155 : decode cX11_init 155 = .ok (.iload_n 1, 1) := by decide +kernel
theorem dX11_init_156 : decode cX11_init 156 = .ok (.new 69, 3) := by decide +kernel
theorem dX11_init_159 : decode cX11_init 159 = .ok (.dup, 1) := by decide +kernel
theorem dX11_init_160 : decode cX11_init 160 = .ok (.invokespecial 79, 3) := by decide +kernel
theorem dX11_init_163 : decode cX11_init 163 = .ok (.aastore, 1) := by decide +kernel
theorem dX11_init_164 : decode cX11_init 164 = .ok (.iinc 1 1, 3) := by decide +kernel
theorem dX11_init_167 : decode cX11_init 167 = .ok (.goto (-25), 3) := by decide +kernel
theorem dX11_init_170 : decode cX11_init 170 = .ok (.return_, 1) := by decide +kernel
theorem dX11_feed_0 : decode cX11_feed 0 = .ok (.aload_n 0, 1) := by decide +kernel
theorem dX11_feed_1 : decode cX11_feed 1 = .ok (.getfield 80, 3) := by decide +kernel
theorem dX11_feed_4 : decode cX11_feed 4 = .ok (.sipush 1480, 3) := by decide +kernel
theorem dX11_feed_7 : decode cX11_feed 7 = .ok (.if_icmp .le 11, 3) := by decide +kernel
theorem dX11_feed_10 : decode cX11_feed 10 = .ok (.new 83, 3) := by decide +kernel
theorem dX11_feed_13 : decode cX11_feed 13 = .ok (.dup, 1) := by decide +kernel
theorem dX11_feed_14 : decode cX11_feed 14 = .ok (.invokespecial 85, 3) := by decide +kernel
theorem dX11_feed_17 : decode cX11_feed 17 = .ok (.athrow, 1) := by decide +kernel
theorem dX11_feed_18 : decode cX11_feed 18 = .ok (.aload_n 0, 1) := by decide +kernel
theorem dX11_feed_19 : decode cX11_feed 19 = .ok (.iload_n 1, 1) := by decide +kernel
theorem dX11_feed_20 : decode cX11_feed 20 = .ok (.invokevirtual 86, 3) := by decide +kernel
theorem dX11_feed_23 : decode cX11_feed 23 = .ok (.aload_n 0, 1) := by decide +kernel
theorem dX11_feed_24 : decode cX11_feed 24 = .ok (.iload_n 2, 1) := by decide +kernel
theorem dX11_feed_25 : decode cX11_feed 25 = .ok (.invokevirtual 86, 3) := by decide +kernel
theorem dX11_feed_28 : decode cX11_feed 28 = .ok (.aload_n 0, 1) := by decide +kernel
theorem dX11_feed_29 : decode cX11_feed 29 = .ok (.iload_n 3, 1) := by decide +kernel
theorem dX11_feed_30 : decode cX11_feed 30 = .ok (.invokevirtual 86, 3) := by decide +kernel
theorem dX11_feed_33 : decode cX11_feed 33 = .ok (.aload_n 0, 1) := by decide +kernel
theorem dX11_feed_34 : decode cX11_feed 34 = .ok (.iload 4, 2) := by decide +kernel
theorem dX11_feed_36 : decode cX11_feed 36 = .ok (.invokevirtual 86, 3) := by decide +kernel
theorem dX11_feed_39 : decode cX11_feed 39 = .ok (.aload_n 0, 1) := by decide +kernel
theorem dX11_feed_40 : decode cX11_feed 40 = .ok (.iload 5, 2) := by decide +kernel
theorem dX11_feed_42 : decode cX11_feed 42 = .ok (.invokevirtual 86, 3) := by decide +kernel
theorem dX11_feed_45 : decode cX11_feed 45 = .ok (.aload_n 0, 1) := by decide +kernel
theorem dX11_feed_46 : decode cX11_feed 46 = .ok (.getfield 80, 3) := by decide +kernel
theorem dX11_feed_49 : decode cX11_feed 49 = .ok (.ireturn, 1) := by decide +kernel
theorem dX11_trim_0 : decode cX11_trim 0 = .ok (.iload_n 1, 1) := by decide +kernel
theorem dX11_trim_1 : decode cX11_trim 1 = .ok (.ifCond .lt 11, 3) := by decide +kernel
theorem dX11_trim_4 : decode cX11_trim 4 = .ok (.iload_n 1, 1) := by decide +kernel
theorem dX11_trim_5 : decode cX11_trim 5 = .ok (.aload_n 0, 1) := by decide +kernel
theorem dX11_trim_6 : decode cX11_trim 6 = .ok (.getfield 80, 3) := by decide +kernel
theorem dX11_trim_9 : decode cX11_trim 9 = .ok (.if_icmp .le 11, 3) := by decide +kernel
theorem dX11_trim_12 : decode cX11_trim 12 = .ok (.new 90, 3) := by decide +kernel
theorem dX11_trim_15 : decode cX11_trim 15 = .ok (.dup, 1) := by decide +kernel
theorem dX11_trim_16 : decode cX11_trim 16 = .ok (.invokespecial 92, 3) := by decide +kernel
theorem dX11_trim_19 : decode cX11_trim 19 = .ok (.athrow, 1) := by decide +kernel
theorem dX11_trim_20 : decode cX11_trim 20 = .ok (.aload_n 0, 1) := by decide +kernel
theorem dX11_trim_21 : decode cX11_trim 21 = .ok (.iload_n 1, 1) := by decide +kernel
theorem dX11_trim_22 : decode cX11_trim 22 = .ok (.putfield 80, 3) := by decide +kernel
theorem dX11_trim_25 : decode cX11_trim 25 = .ok (.iload_n 1, 1) := by decide +kernel
theorem dX11_trim_26 : decode cX11_trim 26 = .ok (.ireturn, 1) := by decide +kernel
theorem dX11_compile_0 : decode cX11_compile 0 = .ok (.aload_n 0, 1) := by decide +kernel
theorem dX11_compile_1 : decode cX11_compile 1 = .ok (.getfield 16, 3) := by decide +kernel
theorem dX11_compile_4 : decode cX11_compile 4 = .ok (.aload_n 0, 1) := by decide +kernel
theorem dX11_compile_5 : decode cX11_compile 5 = .ok (.getfield 9, 3) := by decide +kernel
theorem dX11_compile_8 : decode cX11_compile 8 = .ok (.aload_n 0, 1) := by decide +kernel
theorem dX11_compile_9 : decode cX11_compile 9 = .ok (.getfield 80, 3) := by decide +kernel
theorem dX11_compile_12 : decode cX11_compile 12 = .ok (.invokevirtual 93, 3) := by decide +kernel
theorem dX11_compile_15 : decode cX11_compile 15 = .ok (.aload_n 0, 1) := by decide +kernel
theorem dX11_compile_16 : decode cX11_compile 16 = .ok (.iconst 0, 1) := by decide +kernel
theorem dX11_compile_17 : decode cX11_compile 17 = .ok (.putfield 80, 3) := by decide +kernel
theorem dX11_compile_20 : decode cX11_compile 20 = .ok (.aload_n 0, 1) := by decide +kernel
theorem dX11_compile_21 : decode cX11_compile 21 = .ok (.getfield 38, 3) := by decide +kernel
theorem dX11_compile_24 : decode cX11_compile 24 = .ok (.aload_n 0, 1) := by decide +kernel
theorem dX11_compile_25 : decode cX11_compile 25 = .ok (.getfield 30, 3) := by decide +kernel
theorem dX11_compile_28 : decode cX11_compile 28 = .ok (.invokevirtual 97, 3) := by decide +kernel
theorem dX11_compile_31 : decode cX11_compile 31 = .ok (.aload_n 0, 1) := by decide +kernel
theorem dX11_compile_32 : decode cX11_compile 32 = .ok (.getfield 47, 3) := by decide +kernel
theorem dX11_compile_35 : decode cX11_compile 35 = .ok (.invokevirtual 100, 3) := by decide +kernel
theorem dX11_compile_38 : decode cX11_compile 38 = .ok (.istore_n 1, 1) := by decide +kernel
theorem dX11_compile_39 : decode cX11_compile 39 = .ok (.iload_n 1, 1) := by decide +kernel
theorem dX11_compile_40 : decode cX11_compile 40 = .ok (.ifCond .lt 10, 3) := by decide +kernel
theorem dX11_compile_43 : decode cX11_compile 43 = .ok (.aload_n 0, 1) := by decide +kernel
theorem dX11_compile_44 : decode cX11_compile 44 = .ok (.iload_n 1, 1) := by decide +kernel
theorem dX11_compile_45 : decode cX11_compile 45 = .ok (.putfield 51, 3) := by decide +kernel
theorem dX11_compile_48 : decode cX11_compile 48 = .ok (.iconst 1, 1) := by decide +kernel
theorem dX11_compile_49 : decode cX11_compile 49 = .ok (.ireturn, 1) := by decide +kernel
theorem dX11_compile_50 : decode cX11_compile 50 = .ok (.aload_n 0, 1) := by decide +kernel
theorem dX11_compile_51 : decode cX11_compile 51 = .ok (.aload_n 0, 1) := by decide +kernel
theorem dX11_compile_52 : decode cX11_compile 52 = .ok (.getfield 38, 3) := by decide +kernel
theorem dX11_compile_55 : decode cX11_compile 55 = .ok (.getfield 104, 3) := by decide +kernel
theorem dX11_compile_58 : decode cX11_compile 58 = .ok (.putfield 51, 3) := by decide +kernel
theorem dX11_compile_61 : decode cX11_compile 61 = .ok (.aload_n 0, 1) := by decide +kernel
theorem dX11_compile_62 : decode cX11_compile 62 = .ok (.getfield 38, 3) := by decide +kernel
theorem dX11_compile_65 : decode cX11_compile 65 = .ok (.getfield 107, 3) := by decide +kernel
theorem dX11_compile_68 : decode cX11_compile 68 = .ok (.ifCond .ne 7, 3) := by decide +kernel
theorem dX11_compile_71 : decode cX11_compile 71 = .ok (.aload_n 0, 1) := by decide +kernel
theorem dX11_compile_72 : decode cX11_compile 72 = .ok (.invokevirtual 110, 3) := by decide +kernel
theorem dX11_compile_75 : decode cX11_compile 75 = .ok (.aload_n 0, 1) := by decide +kernel
theorem dX11_compile_76 : decode cX11_compile 76 = .ok (.getfield 38, 3) := by decide +kernel
theorem dX11_compile_79 : decode cX11_compile 79 = .ok (.getfield 107, 3) := by decide +kernel
theorem dX11_compile_82 : decode cX11_compile 82 = .ok (.ireturn, 1) := by decide +kernel
theorem dX11_count_0 : decode cX11_count 0 = .ok (.iload_n 1, 1) := by decide +kernel
theorem dX11_count_1 : decode cX11_count 1 = .ok (.tableswitch 78 0 5 #[39, 47, 55, 60, 65, 70], 39) := by decide +kernel
theorem dX11_count_40 : decode cX11_count 40 = .ok (.aload_n 0, 1) := by decide +kernel
theorem dX11_count_41 : decode cX11_count 41 = .ok (.getfield 23, 3) := by decide +kernel
theorem dX11_count_44 : decode cX11_count 44 = .ok (.getfield 121, 3) := by decide +kernel
theorem dX11_count_47 : decode cX11_count 47 = .ok (.ireturn, 1) := by decide +kernel
theorem dX11_count_48 : decode cX11_count 48 = .ok (.aload_n 0, 1) := by decide +kernel
theorem dX11_count_49 : decode cX11_count 49 = .ok (.getfield 23, 3) := by decide +kernel
theorem dX11_count_52 : decode cX11_count 52 = .ok (.getfield 124, 3) := by decide +kernel
theorem dX11_count_55 : decode cX11_count 55 = .ok (.ireturn, 1) := by decide +kernel
theorem dX11_count_56 : decode cX11_count 56 = .ok (.aload_n 0, 1) := by decide +kernel
theorem dX11_count_57 : decode cX11_count 57 = .ok (.getfield 80, 3) := by decide +kernel
theorem dX11_count_60 : decode cX11_count 60 = .ok (.ireturn, 1) := by decide +kernel
theorem dX11_count_61 : decode cX11_count 61 = .ok (.aload_n 0, 1) := by decide +kernel
theorem dX11_count_62 : decode cX11_count 62 = .ok (.getfield 127, 3) := by decide +kernel
theorem dX11_count_65 : decode cX11_count 65 = .ok (.ireturn, 1) := by decide +kernel
theorem dX11_count_66 : decode cX11_count 66 = .ok (.aload_n 0, 1) := by decide +kernel
theorem dX11_count_67 : decode cX11_count 67 = .ok (.getfield 130, 3) := by decide +kernel
theorem dX11_count_70 : decode cX11_count 70 = .ok (.ireturn, 1) := by decide +kernel
theorem dX11_count_71 : decode cX11_count 71 = .ok (.aload_n 0, 1) := by decide +kernel
theorem dX11_count_72 : decode cX11_count 72 = .ok (.getfield 58, 3) := by decide +kernel
theorem dX11_count_75 : decode cX11_count 75 = .ok (.getfield 133, 3) := by decide +kernel
theorem dX11_count_78 : decode cX11_count 78 = .ok (.ireturn, 1) := by decide +kernel
theorem dX11_count_79 : decode cX11_count 79 = .ok (.new 136, 3) := by decide +kernel
theorem dX11_count_82 : decode cX11_count 82 = .ok (.dup, 1) := by decide +kernel
theorem dX11_count_83 : decode cX11_count 83 = .ok (.invokespecial 138, 3) := by decide +kernel
theorem dX11_count_86 : decode cX11_count 86 = .ok (.athrow, 1) := by decide +kernel
theorem dX11_value_0 : decode cX11_value 0 = .ok (.aload_n 0, 1) := by decide +kernel
theorem dX11_value_1 : decode cX11_value 1 = .ok (.getfield 65, 3) := by decide +kernel
theorem dX11_value_4 : decode cX11_value 4 = .ok (.getfield 154, 3) := by decide +kernel
theorem dX11_value_7 : decode cX11_value 7 = .ok (.bipush 6, 2) := by decide +kernel
theorem dX11_value_9 : decode cX11_value 9 = .ok (.if_icmp .lt 11, 3) := by decide +kernel
theorem dX11_value_12 : decode cX11_value 12 = .ok (.new 83, 3) := by decide +kernel
theorem dX11_value_15 : decode cX11_value 15 = .ok (.dup, 1) := by decide +kernel
theorem dX11_value_16 : decode cX11_value 16 = .ok (.invokespecial 85, 3) := by decide +kernel
theorem dX11_value_19 : decode cX11_value 19 = .ok (.athrow, 1) := by decide +kernel
theorem dX11_value_20 : decode cX11_value 20 = .ok (.aload_n 0, 1) := by decide +kernel
theorem dX11_value_21 : decode cX11_value 21 = .ok (.getfield 65, 3) := by decide +kernel
theorem dX11_value_24 : decode cX11_value 24 = .ok (.lload_n 1, 1) := by decide +kernel
theorem dX11_value_25 : decode cX11_value 25 = .ok (.invokevirtual 155, 3) := by decide +kernel
theorem dX11_value_28 : decode cX11_value 28 = .ok (.aload_n 0, 1) := by decide +kernel
theorem dX11_value_29 : decode cX11_value 29 = .ok (.getfield 65, 3) := by decide +kernel
theorem dX11_value_32 : decode cX11_value 32 = .ok (.getfield 154, 3) := by decide +kernel
theorem dX11_value_35 : decode cX11_value 35 = .ok (.ireturn, 1) := by decide +kernel
theorem dX11_push_0 : decode cX11_push 0 = .ok (.aload_n 0, 1) := by decide +kernel
theorem dX11_push_1 : decode cX11_push 1 = .ok (.iload_n 1, 1) := by decide +kernel
theorem dX11_push_2 : decode cX11_push 2 = .ok (.invokevirtual 139, 3) := by decide +kernel
theorem dX11_push_5 : decode cX11_push 5 = .ok (.astore_n 3, 1) := by decide +kernel
theorem dX11_push_6 : decode cX11_push 6 = .ok (.aload_n 3, 1) := by decide +kernel
theorem dX11_push_7 : decode cX11_push 7 = .ok (.getfield 143, 3) := by decide +kernel
theorem dX11_push_10 : decode cX11_push 10 = .ok (.ifCond .ne 27, 3) := by decide +kernel
theorem dX11_push_13 : decode cX11_push 13 = .ok (.iload_n 2, 1) := by decide +kernel
theorem dX11_push_14 : decode cX11_push 14 = .ok (.ifCond .lt 23, 3) := by decide +kernel
theorem dX11_push_17 : decode cX11_push 17 = .ok (.iload_n 2, 1) := by decide +kernel
theorem dX11_push_18 : decode cX11_push 18 = .ok (.ldc 159, 2) := by decide +kernel
theorem dX11_push_20 : decode cX11_push 20 = .ok (.if_icmp .gt 17, 3) := by decide +kernel
theorem dX11_push_23 : decode cX11_push 23 = .ok (.aload_n 0, 1) := by decide +kernel
theorem dX11_push_24 : decode cX11_push 24 = .ok (.getfield 65, 3) := by decide +kernel
theorem dX11_push_27 : decode cX11_push 27 = .ok (.getfield 154, 3) := by decide +kernel
theorem dX11_push_30 : decode cX11_push 30 = .ok (.aload_n 3, 1) := by decide +kernel
theorem dX11_push_31 : decode cX11_push 31 = .ok (.getfield 148, 3) := by decide +kernel
theorem dX11_push_34 : decode cX11_push 34 = .ok (.if_icmp .eq 11, 3) := by decide +kernel
theorem dX11_push_37 : decode cX11_push 37 = .ok (.new 90, 3) := by decide +kernel
theorem dX11_push_40 : decode cX11_push 40 = .ok (.dup, 1) := by decide +kernel
theorem dX11_push_41 : decode cX11_push 41 = .ok (.invokespecial 92, 3) := by decide +kernel
theorem dX11_push_44 : decode cX11_push 44 = .ok (.athrow, 1) := by decide +kernel
theorem dX11_push_45 : decode cX11_push 45 = .ok (.aload_n 0, 1) := by decide +kernel
theorem dX11_push_46 : decode cX11_push 46 = .ok (.getfield 58, 3) := by decide +kernel
theorem dX11_push_49 : decode cX11_push 49 = .ok (.getfield 160, 3) := by decide +kernel
theorem dX11_push_52 : decode cX11_push 52 = .ok (.ifCond .eq 11, 3) := by decide +kernel
theorem dX11_push_55 : decode cX11_push 55 = .ok (.new 83, 3) := by decide +kernel
theorem dX11_push_58 : decode cX11_push 58 = .ok (.dup, 1) := by decide +kernel
theorem dX11_push_59 : decode cX11_push 59 = .ok (.invokespecial 85, 3) := by decide +kernel
theorem dX11_push_62 : decode cX11_push 62 = .ok (.athrow, 1) := by decide +kernel
theorem dX11_push_63 : decode cX11_push 63 = .ok (.aload_n 0, 1) := by decide +kernel
theorem dX11_push_64 : decode cX11_push 64 = .ok (.iconst 0, 1) := by decide +kernel
theorem dX11_push_65 : decode cX11_push 65 = .ok (.invokevirtual 164, 3) := by decide +kernel
theorem dX11_push_68 : decode cX11_push 68 = .ok (.astore 4, 2) := by decide +kernel
theorem dX11_push_70 : decode cX11_push 70 = .ok (.aload 4, 2) := by decide +kernel
theorem dX11_push_72 : decode cX11_push 72 = .ok (.aload_n 3, 1) := by decide +kernel
theorem dX11_push_73 : decode cX11_push 73 = .ok (.getfield 168, 3) := by decide +kernel
theorem dX11_push_76 : decode cX11_push 76 = .ok (.putfield 172, 3) := by decide +kernel
theorem dX11_push_79 : decode cX11_push 79 = .ok (.aload 4, 2) := by decide +kernel
theorem dX11_push_81 : decode cX11_push 81 = .ok (.getfield 175, 3) := by decide +kernel
theorem dX11_push_84 : decode cX11_push 84 = .ok (.aload_n 0, 1) := by decide +kernel
theorem dX11_push_85 : decode cX11_push 85 = .ok (.getfield 65, 3) := by decide +kernel
theorem dX11_push_88 : decode cX11_push 88 = .ok (.invokevirtual 178, 3) := by decide +kernel
theorem dX11_push_91 : decode cX11_push 91 = .ok (.aload 4, 2) := by decide +kernel
theorem dX11_push_93 : decode cX11_push 93 = .ok (.getfield 175, 3) := by decide +kernel
theorem dX11_push_96 : decode cX11_push 96 = .ok (.iload_n 2, 1) := by decide +kernel
theorem dX11_push_97 : decode cX11_push 97 = .ok (.putfield 182, 3) := by decide +kernel
theorem dX11_push_100 : decode cX11_push 100 = .ok (.aload_n 0, 1) := by decide +kernel
theorem dX11_push_101 : decode cX11_push 101 = .ok (.getfield 65, 3) := by decide +kernel
theorem dX11_push_104 : decode cX11_push 104 = .ok (.iconst 0, 1) := by decide +kernel
theorem dX11_push_105 : decode cX11_push 105 = .ok (.putfield 154, 3) := by decide +kernel
theorem dX11_push_108 : decode cX11_push 108 = .ok (.aload_n 0, 1) := by decide +kernel
theorem dX11_push_109 : decode cX11_push 109 = .ok (.aload 4, 2) := by decide +kernel
theorem dX11_push_111 : decode cX11_push 111 = .ok (.invokevirtual 185, 3) := by decide +kernel
theorem dX11_push_114 : decode cX11_push 114 = .ok (.ireturn, 1) := by decide +kernel
theorem dX11_rows_0 : decode cX11_rows 0 = .ok (.aload_n 0, 1) := by decide +kernel
theorem dX11_rows_1 : decode cX11_rows 1 = .ok (.iload_n 1, 1) := by decide +kernel
theorem dX11_rows_2 : decode cX11_rows 2 = .ok (.invokevirtual 139, 3) := by decide +kernel
theorem dX11_rows_5 : decode cX11_rows 5 = .ok (.getfield 189, 3) := by decide +kernel
theorem dX11_rows_8 : decode cX11_rows 8 = .ok (.getfield 193, 3) := by decide +kernel
theorem dX11_rows_11 : decode cX11_rows 11 = .ok (.ireturn, 1) := by decide +kernel
theorem dX11_cell_0 : decode cX11_cell 0 = .ok (.aload_n 0, 1) := by decide +kernel
theorem dX11_cell_1 : decode cX11_cell 1 = .ok (.iload_n 1, 1) := by decide +kernel
theorem dX11_cell_2 : decode cX11_cell 2 = .ok (.invokevirtual 139, 3) := by decide +kernel
theorem dX11_cell_5 : decode cX11_cell 5 = .ok (.getfield 189, 3) := by decide +kernel
theorem dX11_cell_8 : decode cX11_cell 8 = .ok (.astore 4, 2) := by decide +kernel
theorem dX11_cell_10 : decode cX11_cell 10 = .ok (.iload_n 2, 1) := by decide +kernel
theorem dX11_cell_11 : decode cX11_cell 11 = .ok (.ifCond .lt 26, 3) := by decide +kernel
theorem dX11_cell_14 : decode cX11_cell 14 = .ok (.iload_n 2, 1) := by decide +kernel
theorem dX11_cell_15 : decode cX11_cell 15 = .ok (.aload 4, 2) := by decide +kernel
theorem dX11_cell_17 : decode cX11_cell 17 = .ok (.getfield 193, 3) := by decide +kernel
theorem dX11_cell_20 : decode cX11_cell 20 = .ok (.if_icmp .ge 17, 3) := by decide +kernel
theorem dX11_cell_23 : decode cX11_cell 23 = .ok (.iload_n 3, 1) := by decide +kernel
theorem dX11_cell_24 : decode cX11_cell 24 = .ok (.iconst (-1), 1) := by decide +kernel
theorem dX11_cell_25 : decode cX11_cell 25 = .ok (.if_icmp .lt 12, 3) := by decide +kernel
theorem dX11_cell_28 : decode cX11_cell 28 = .ok (.iload_n 3, 1) := by decide +kernel
theorem dX11_cell_29 : decode cX11_cell 29 = .ok (.aload 4, 2) := by decide +kernel
theorem dX11_cell_31 : decode cX11_cell 31 = .ok (.getfield 198, 3) := by decide +kernel
theorem dX11_cell_34 : decode cX11_cell 34 = .ok (.if_icmp .lt 11, 3) := by decide +kernel
theorem dX11_cell_37 : decode cX11_cell 37 = .ok (.new 136, 3) := by decide +kernel
theorem dX11_cell_40 : decode cX11_cell 40 = .ok (.dup, 1) := by decide +kernel
theorem dX11_cell_41 : decode cX11_cell 41 = .ok (.invokespecial 138, 3) := by decide +kernel
theorem dX11_cell_44 : decode cX11_cell 44 = .ok (.athrow, 1) := by decide +kernel
theorem dX11_cell_45 : decode cX11_cell 45 = .ok (.iload_n 3, 1) := by decide +kernel
theorem dX11_cell_46 : decode cX11_cell 46 = .ok (.ifCond .ge 13, 3) := by decide +kernel
theorem dX11_cell_49 : decode cX11_cell 49 = .ok (.aload 4, 2) := by decide +kernel
theorem dX11_cell_51 : decode cX11_cell 51 = .ok (.iload_n 2, 1) := by decide +kernel
theorem dX11_cell_52 : decode cX11_cell 52 = .ok (.invokevirtual 199, 3) := by decide +kernel
theorem dX11_cell_55 : decode cX11_cell 55 = .ok (.i2l, 1) := by decide +kernel
theorem dX11_cell_56 : decode cX11_cell 56 = .ok (.goto 10, 3) := by decide +kernel
theorem dX11_cell_59 : decode cX11_cell 59 = .ok (.aload 4, 2) := by decide +kernel
theorem dX11_cell_61 : decode cX11_cell 61 = .ok (.iload_n 2, 1) := by decide +kernel
theorem dX11_cell_62 : decode cX11_cell 62 = .ok (.iload_n 3, 1) := by decide +kernel
theorem dX11_cell_63 : decode cX11_cell 63 = .ok (.invokevirtual 203, 3) := by decide +kernel
theorem dX11_cell_66 : decode cX11_cell 66 = .ok (.lreturn, 1) := by decide +kernel
theorem dX11_windows_0 : decode cX11_windows 0 = .ok (.aload_n 0, 1) := by decide +kernel
theorem dX11_windows_1 : decode cX11_windows 1 = .ok (.iload_n 1, 1) := by decide +kernel
theorem dX11_windows_2 : decode cX11_windows 2 = .ok (.invokevirtual 139, 3) := by decide +kernel
theorem dX11_windows_5 : decode cX11_windows 5 = .ok (.getfield 210, 3) := by decide +kernel
theorem dX11_windows_8 : decode cX11_windows 8 = .ok (.iload_n 2, 1) := by decide +kernel
theorem dX11_windows_9 : decode cX11_windows 9 = .ok (.invokevirtual 214, 3) := by decide +kernel
theorem dX11_windows_12 : decode cX11_windows 12 = .ok (.ireturn, 1) := by decide +kernel
theorem dX11_held_0 : decode cX11_held 0 = .ok (.aload_n 0, 1) := by decide +kernel
theorem dX11_held_1 : decode cX11_held 1 = .ok (.iload_n 1, 1) := by decide +kernel
theorem dX11_held_2 : decode cX11_held 2 = .ok (.invokevirtual 220, 3) := by decide +kernel
theorem dX11_held_5 : decode cX11_held 5 = .ok (.astore_n 3, 1) := by decide +kernel
theorem dX11_held_6 : decode cX11_held 6 = .ok (.iload_n 2, 1) := by decide +kernel
theorem dX11_held_7 : decode cX11_held 7 = .ok (.tableswitch 40 0 2 #[25, 30, 35], 25) := by decide +kernel
theorem dX11_held_32 : decode cX11_held 32 = .ok (.aload_n 3, 1) := by decide +kernel
theorem dX11_held_33 : decode cX11_held 33 = .ok (.getfield 224, 3) := by decide +kernel
theorem dX11_held_36 : decode cX11_held 36 = .ok (.ireturn, 1) := by decide +kernel
theorem dX11_held_37 : decode cX11_held 37 = .ok (.aload_n 3, 1) := by decide +kernel
theorem dX11_held_38 : decode cX11_held 38 = .ok (.getfield 227, 3) := by decide +kernel
theorem dX11_held_41 : decode cX11_held 41 = .ok (.ireturn, 1) := by decide +kernel
theorem dX11_held_42 : decode cX11_held 42 = .ok (.aload_n 3, 1) := by decide +kernel
theorem dX11_held_43 : decode cX11_held 43 = .ok (.getfield 182, 3) := by decide +kernel
theorem dX11_held_46 : decode cX11_held 46 = .ok (.ireturn, 1) := by decide +kernel
theorem dX11_held_47 : decode cX11_held 47 = .ok (.new 136, 3) := by decide +kernel
theorem dX11_held_50 : decode cX11_held 50 = .ok (.dup, 1) := by decide +kernel
theorem dX11_held_51 : decode cX11_held 51 = .ok (.invokespecial 138, 3) := by decide +kernel
theorem dX11_held_54 : decode cX11_held 54 = .ok (.athrow, 1) := by decide +kernel
theorem dX11_heldValue_0 : decode cX11_heldValue 0 = .ok (.aload_n 0, 1) := by decide +kernel
theorem dX11_heldValue_1 : decode cX11_heldValue 1 = .ok (.iload_n 1, 1) := by decide +kernel
theorem dX11_heldValue_2 : decode cX11_heldValue 2 = .ok (.invokevirtual 220, 3) := by decide +kernel
theorem dX11_heldValue_5 : decode cX11_heldValue 5 = .ok (.astore_n 3, 1) := by decide +kernel
theorem dX11_heldValue_6 : decode cX11_heldValue 6 = .ok (.iload_n 2, 1) := by decide +kernel
theorem dX11_heldValue_7 : decode cX11_heldValue 7 = .ok (.ifCond .lt 11, 3) := by decide +kernel
theorem dX11_heldValue_10 : decode cX11_heldValue 10 = .ok (.iload_n 2, 1) := by decide +kernel
theorem dX11_heldValue_11 : decode cX11_heldValue 11 = .ok (.aload_n 3, 1) := by decide +kernel
theorem dX11_heldValue_12 : decode cX11_heldValue 12 = .ok (.getfield 154, 3) := by decide +kernel
theorem dX11_heldValue_15 : decode cX11_heldValue 15 = .ok (.if_icmp .lt 11, 3) := by decide +kernel
theorem dX11_heldValue_18 : decode cX11_heldValue 18 = .ok (.new 136, 3) := by decide +kernel
theorem dX11_heldValue_21 : decode cX11_heldValue 21 = .ok (.dup, 1) := by decide +kernel
theorem dX11_heldValue_22 : decode cX11_heldValue 22 = .ok (.invokespecial 138, 3) := by decide +kernel
theorem dX11_heldValue_25 : decode cX11_heldValue 25 = .ok (.athrow, 1) := by decide +kernel
theorem dX11_heldValue_26 : decode cX11_heldValue 26 = .ok (.aload_n 3, 1) := by decide +kernel
theorem dX11_heldValue_27 : decode cX11_heldValue 27 = .ok (.iload_n 2, 1) := by decide +kernel
theorem dX11_heldValue_28 : decode cX11_heldValue 28 = .ok (.invokevirtual 230, 3) := by decide +kernel
theorem dX11_heldValue_31 : decode cX11_heldValue 31 = .ok (.lreturn, 1) := by decide +kernel
theorem dX11_broken_0 : decode cX11_broken 0 = .ok (.iload_n 1, 1) := by decide +kernel
theorem dX11_broken_1 : decode cX11_broken 1 = .ok (.ifCond .lt 14, 3) := by decide +kernel
theorem dX11_broken_4 : decode cX11_broken 4 = .ok (.iload_n 1, 1) := by decide +kernel
theorem dX11_broken_5 : decode cX11_broken 5 = .ok (.aload_n 0, 1) := by decide +kernel
theorem dX11_broken_6 : decode cX11_broken 6 = .ok (.getfield 23, 3) := by decide +kernel
theorem dX11_broken_9 : decode cX11_broken 9 = .ok (.getfield 124, 3) := by decide +kernel
theorem dX11_broken_12 : decode cX11_broken 12 = .ok (.if_icmp .lt 11, 3) := by decide +kernel
theorem dX11_broken_15 : decode cX11_broken 15 = .ok (.new 136, 3) := by decide +kernel
theorem dX11_broken_18 : decode cX11_broken 18 = .ok (.dup, 1) := by decide +kernel
theorem dX11_broken_19 : decode cX11_broken 19 = .ok (.invokespecial 138, 3) := by decide +kernel
theorem dX11_broken_22 : decode cX11_broken 22 = .ok (.athrow, 1) := by decide +kernel
theorem dX11_broken_23 : decode cX11_broken 23 = .ok (.aload_n 0, 1) := by decide +kernel
theorem dX11_broken_24 : decode cX11_broken 24 = .ok (.getfield 23, 3) := by decide +kernel
theorem dX11_broken_27 : decode cX11_broken 27 = .ok (.getfield 244, 3) := by decide +kernel
theorem dX11_broken_30 : decode cX11_broken 30 = .ok (.iload_n 1, 1) := by decide +kernel
theorem dX11_broken_31 : decode cX11_broken 31 = .ok (.aaload, 1) := by decide +kernel
theorem dX11_broken_32 : decode cX11_broken 32 = .ok (.getfield 248, 3) := by decide +kernel
theorem dX11_broken_35 : decode cX11_broken 35 = .ok (.ireturn, 1) := by decide +kernel
theorem dX11_lost_0 : decode cX11_lost 0 = .ok (.aload_n 0, 1) := by decide +kernel
theorem dX11_lost_1 : decode cX11_lost 1 = .ok (.getfield 58, 3) := by decide +kernel
theorem dX11_lost_4 : decode cX11_lost 4 = .ok (.getfield 253, 3) := by decide +kernel
theorem dX11_lost_7 : decode cX11_lost 7 = .ok (.ireturn, 1) := by decide +kernel
theorem dX11_replay_0 : decode cX11_replay 0 = .ok (.aload_n 0, 1) := by decide +kernel
theorem dX11_replay_1 : decode cX11_replay 1 = .ok (.getfield 23, 3) := by decide +kernel
theorem dX11_replay_4 : decode cX11_replay 4 = .ok (.getfield 121, 3) := by decide +kernel
theorem dX11_replay_7 : decode cX11_replay 7 = .ok (.ifCond .ne 11, 3) := by decide +kernel
theorem dX11_replay_10 : decode cX11_replay 10 = .ok (.new 83, 3) := by decide +kernel
theorem dX11_replay_13 : decode cX11_replay 13 = .ok (.dup, 1) := by decide +kernel
theorem dX11_replay_14 : decode cX11_replay 14 = .ok (.invokespecial 85, 3) := by decide +kernel
theorem dX11_replay_17 : decode cX11_replay 17 = .ok (.athrow, 1) := by decide +kernel
theorem dX11_replay_18 : decode cX11_replay 18 = .ok (.aload_n 0, 1) := by decide +kernel
theorem dX11_replay_19 : decode cX11_replay 19 = .ok (.invokevirtual 256, 3) := by decide +kernel
theorem dX11_replay_22 : decode cX11_replay 22 = .ok (.ireturn, 1) := by decide +kernel
theorem dX11_taken_0 : decode cX11_taken 0 = .ok (.iconst 0, 1) := by decide +kernel
theorem dX11_taken_1 : decode cX11_taken 1 = .ok (.istore_n 1, 1) := by decide +kernel
theorem dX11_taken_2 : decode cX11_taken 2 = .ok (.iconst 0, 1) := by decide +kernel
theorem dX11_taken_3 : decode cX11_taken 3 = .ok (.istore_n 2, 1) := by decide +kernel
theorem dX11_taken_4 : decode cX11_taken 4 = .ok (.iload_n 2, 1) := by decide +kernel
theorem dX11_taken_5 : decode cX11_taken 5 = .ok (.aload_n 0, 1) := by decide +kernel
theorem dX11_taken_6 : decode cX11_taken 6 = .ok (.getfield 23, 3) := by decide +kernel
theorem dX11_taken_9 : decode cX11_taken 9 = .ok (.getfield 121, 3) := by decide +kernel
theorem dX11_taken_12 : decode cX11_taken 12 = .ok (.if_icmp .ge 42, 3) := by decide +kernel
theorem dX11_taken_15 : decode cX11_taken 15 = .ok (.aload_n 0, 1) := by decide +kernel
theorem dX11_taken_16 : decode cX11_taken 16 = .ok (.getfield 23, 3) := by decide +kernel
theorem dX11_taken_19 : decode cX11_taken 19 = .ok (.getfield 259, 3) := by decide +kernel
theorem dX11_taken_22 : decode cX11_taken 22 = .ok (.iload_n 2, 1) := by decide +kernel
theorem dX11_taken_23 : decode cX11_taken 23 = .ok (.aaload, 1) := by decide +kernel
theorem dX11_taken_24 : decode cX11_taken 24 = .ok (.getfield 143, 3) := by decide +kernel
theorem dX11_taken_27 : decode cX11_taken 27 = .ok (.ifCond .ne 21, 3) := by decide +kernel
theorem dX11_taken_30 : decode cX11_taken 30 = .ok (.iload_n 1, 1) := by decide +kernel
theorem dX11_taken_31 : decode cX11_taken 31 = .ok (.aload_n 0, 1) := by decide +kernel
theorem dX11_taken_32 : decode cX11_taken 32 = .ok (.getfield 23, 3) := by decide +kernel
theorem dX11_taken_35 : decode cX11_taken 35 = .ok (.getfield 259, 3) := by decide +kernel
theorem dX11_taken_38 : decode cX11_taken 38 = .ok (.iload_n 2, 1) := by decide +kernel
theorem dX11_taken_39 : decode cX11_taken 39 = .ok (.aaload, 1) := by decide +kernel
theorem dX11_taken_40 : decode cX11_taken 40 = .ok (.getfield 189, 3) := by decide +kernel
theorem dX11_taken_43 : decode cX11_taken 43 = .ok (.getfield 193, 3) := by decide +kernel
theorem dX11_taken_46 : decode cX11_taken 46 = .ok (.iadd, 1) := by decide +kernel
theorem dX11_taken_47 : decode cX11_taken 47 = .ok (.istore_n 1, 1) := by decide +kernel
theorem dX11_taken_48 : decode cX11_taken 48 = .ok (.iinc 2 1, 3) := by decide +kernel
theorem dX11_taken_51 : decode cX11_taken 51 = .ok (.goto (-47), 3) := by decide +kernel
theorem dX11_taken_54 : decode cX11_taken 54 = .ok (.aload_n 0, 1) := by decide +kernel
theorem dX11_taken_55 : decode cX11_taken 55 = .ok (.getfield 58, 3) := by decide +kernel
theorem dX11_taken_58 : decode cX11_taken 58 = .ok (.getfield 267, 3) := by decide +kernel
theorem dX11_taken_61 : decode cX11_taken 61 = .ok (.ifCond .ne 7, 3) := by decide +kernel
theorem dX11_taken_64 : decode cX11_taken 64 = .ok (.dconst 1, 1) := by decide +kernel
theorem dX11_taken_65 : decode cX11_taken 65 = .ok (.goto 14, 3) := by decide +kernel
theorem dX11_taken_68 : decode cX11_taken 68 = .ok (.iload_n 1, 1) := by decide +kernel
theorem dX11_taken_69 : decode cX11_taken 69 = .ok (.i2d, 1) := by decide +kernel
theorem dX11_taken_70 : decode cX11_taken 70 = .ok (.aload_n 0, 1) := by decide +kernel
theorem dX11_taken_71 : decode cX11_taken 71 = .ok (.getfield 58, 3) := by decide +kernel
theorem dX11_taken_74 : decode cX11_taken 74 = .ok (.getfield 267, 3) := by decide +kernel
theorem dX11_taken_77 : decode cX11_taken 77 = .ok (.i2d, 1) := by decide +kernel
theorem dX11_taken_78 : decode cX11_taken 78 = .ok (.ddiv, 1) := by decide +kernel
theorem dX11_taken_79 : decode cX11_taken 79 = .ok (.dreturn, 1) := by decide +kernel
theorem dX11_digest_0 : decode cX11_digest 0 = .ok (.ldc2_w 270, 3) := by decide +kernel
theorem dX11_digest_3 : decode cX11_digest 3 = .ok (.lstore_n 1, 1) := by decide +kernel
theorem dX11_digest_4 : decode cX11_digest 4 = .ok (.iconst 0, 1) := by decide +kernel
theorem dX11_digest_5 : decode cX11_digest 5 = .ok (.istore_n 3, 1) := by decide +kernel
theorem dX11_digest_6 : decode cX11_digest 6 = .ok (.iload_n 3, 1) := by decide +kernel
theorem dX11_digest_7 : decode cX11_digest 7 = .ok (.iconst 5, 1) := by decide +kernel
theorem dX11_digest_8 : decode cX11_digest 8 = .ok (.if_icmp .gt 22, 3) := by decide +kernel
theorem dX11_digest_11 : decode cX11_digest 11 = .ok (.lload_n 1, 1) := by decide +kernel
theorem dX11_digest_12 : decode cX11_digest 12 = .ok (.ldc2_w 272, 3) := by decide +kernel
theorem dX11_digest_15 : decode cX11_digest 15 = .ok (.lmul, 1) := by decide +kernel
theorem dX11_digest_16 : decode cX11_digest 16 = .ok (.aload_n 0, 1) := by decide +kernel
theorem dX11_digest_17 : decode cX11_digest 17 = .ok (.iload_n 3, 1) := by decide +kernel
theorem dX11_digest_18 : decode cX11_digest 18 = .ok (.invokevirtual 274, 3) := by decide +kernel
theorem dX11_digest_21 : decode cX11_digest 21 = .ok (.i2l, 1) := by decide +kernel
theorem dX11_digest_22 : decode cX11_digest 22 = .ok (.ladd, 1) := by decide +kernel
theorem dX11_digest_23 : decode cX11_digest 23 = .ok (.lstore_n 1, 1) := by decide +kernel
theorem dX11_digest_24 : decode cX11_digest 24 = .ok (.iinc 3 1, 3) := by decide +kernel
theorem dX11_digest_27 : decode cX11_digest 27 = .ok (.goto (-21), 3) := by decide +kernel
theorem dX11_digest_30 : decode cX11_digest 30 = .ok (.lload_n 1, 1) := by decide +kernel
theorem dX11_digest_31 : decode cX11_digest 31 = .ok (.ldc2_w 272, 3) := by decide +kernel
theorem dX11_digest_34 : decode cX11_digest 34 = .ok (.lmul, 1) := by decide +kernel
theorem dX11_digest_35 : decode cX11_digest 35 = .ok (.aload_n 0, 1) := by decide +kernel
theorem dX11_digest_36 : decode cX11_digest 36 = .ok (.getfield 58, 3) := by decide +kernel
theorem dX11_digest_39 : decode cX11_digest 39 = .ok (.getfield 160, 3) := by decide +kernel
theorem dX11_digest_42 : decode cX11_digest 42 = .ok (.ifCond .eq 7, 3) := by decide +kernel
theorem dX11_digest_45 : decode cX11_digest 45 = .ok (.iconst 1, 1) := by decide +kernel
theorem dX11_digest_46 : decode cX11_digest 46 = .ok (.goto 4, 3) := by decide +kernel
theorem dX11_digest_49 : decode cX11_digest 49 = .ok (.iconst 0, 1) := by decide +kernel
theorem dX11_digest_50 : decode cX11_digest 50 = .ok (.i2l, 1) := by decide +kernel
theorem dX11_digest_51 : decode cX11_digest 51 = .ok (.ladd, 1) := by decide +kernel
theorem dX11_digest_52 : decode cX11_digest 52 = .ok (.lstore_n 1, 1) := by decide +kernel
theorem dX11_digest_53 : decode cX11_digest 53 = .ok (.lload_n 1, 1) := by decide +kernel
theorem dX11_digest_54 : decode cX11_digest 54 = .ok (.ldc2_w 272, 3) := by decide +kernel
theorem dX11_digest_57 : decode cX11_digest 57 = .ok (.lmul, 1) := by decide +kernel
theorem dX11_digest_58 : decode cX11_digest 58 = .ok (.aload_n 0, 1) := by decide +kernel
theorem dX11_digest_59 : decode cX11_digest 59 = .ok (.getfield 58, 3) := by decide +kernel
theorem dX11_digest_62 : decode cX11_digest 62 = .ok (.getfield 253, 3) := by decide +kernel
theorem dX11_digest_65 : decode cX11_digest 65 = .ok (.i2l, 1) := by decide +kernel
theorem dX11_digest_66 : decode cX11_digest 66 = .ok (.ladd, 1) := by decide +kernel
theorem dX11_digest_67 : decode cX11_digest 67 = .ok (.lstore_n 1, 1) := by decide +kernel
theorem dX11_digest_68 : decode cX11_digest 68 = .ok (.iconst 0, 1) := by decide +kernel
theorem dX11_digest_69 : decode cX11_digest 69 = .ok (.istore_n 3, 1) := by decide +kernel
theorem dX11_digest_70 : decode cX11_digest 70 = .ok (.iload_n 3, 1) := by decide +kernel
theorem dX11_digest_71 : decode cX11_digest 71 = .ok (.aload_n 0, 1) := by decide +kernel
theorem dX11_digest_72 : decode cX11_digest 72 = .ok (.getfield 23, 3) := by decide +kernel
theorem dX11_digest_75 : decode cX11_digest 75 = .ok (.getfield 121, 3) := by decide +kernel
theorem dX11_digest_78 : decode cX11_digest 78 = .ok (.if_icmp .ge 46, 3) := by decide +kernel
theorem dX11_digest_81 : decode cX11_digest 81 = .ok (.lload_n 1, 1) := by decide +kernel
theorem dX11_digest_82 : decode cX11_digest 82 = .ok (.ldc2_w 272, 3) := by decide +kernel
theorem dX11_digest_85 : decode cX11_digest 85 = .ok (.lmul, 1) := by decide +kernel
theorem dX11_digest_86 : decode cX11_digest 86 = .ok (.aload_n 0, 1) := by decide +kernel
theorem dX11_digest_87 : decode cX11_digest 87 = .ok (.getfield 23, 3) := by decide +kernel
theorem dX11_digest_90 : decode cX11_digest 90 = .ok (.getfield 259, 3) := by decide +kernel
theorem dX11_digest_93 : decode cX11_digest 93 = .ok (.iload_n 3, 1) := by decide +kernel
theorem dX11_digest_94 : decode cX11_digest 94 = .ok (.aaload, 1) := by decide +kernel
theorem dX11_digest_95 : decode cX11_digest 95 = .ok (.getfield 207, 3) := by decide +kernel
theorem dX11_digest_98 : decode cX11_digest 98 = .ok (.i2l, 1) := by decide +kernel
theorem dX11_digest_99 : decode cX11_digest 99 = .ok (.ladd, 1) := by decide +kernel
theorem dX11_digest_100 : decode cX11_digest 100 = .ok (.lstore_n 1, 1) := by decide +kernel
theorem dX11_digest_101 : decode cX11_digest 101 = .ok (.aload_n 0, 1) := by decide +kernel
theorem dX11_digest_102 : decode cX11_digest 102 = .ok (.getfield 23, 3) := by decide +kernel
theorem dX11_digest_105 : decode cX11_digest 105 = .ok (.getfield 259, 3) := by decide +kernel
theorem dX11_digest_108 : decode cX11_digest 108 = .ok (.iload_n 3, 1) := by decide +kernel
theorem dX11_digest_109 : decode cX11_digest 109 = .ok (.aaload, 1) := by decide +kernel
theorem dX11_digest_110 : decode cX11_digest 110 = .ok (.getfield 189, 3) := by decide +kernel
theorem dX11_digest_113 : decode cX11_digest 113 = .ok (.lload_n 1, 1) := by decide +kernel
theorem dX11_digest_114 : decode cX11_digest 114 = .ok (.invokevirtual 276, 3) := by decide +kernel
theorem dX11_digest_117 : decode cX11_digest 117 = .ok (.lstore_n 1, 1) := by decide +kernel
theorem dX11_digest_118 : decode cX11_digest 118 = .ok (.iinc 3 1, 3) := by decide +kernel
theorem dX11_digest_121 : decode cX11_digest 121 = .ok (.goto (-51), 3) := by decide +kernel
theorem dX11_digest_124 : decode cX11_digest 124 = .ok (.iconst 0, 1) := by decide +kernel
theorem dX11_digest_125 : decode cX11_digest 125 = .ok (.istore_n 3, 1) := by decide +kernel
theorem dX11_digest_126 : decode cX11_digest 126 = .ok (.iload_n 3, 1) := by decide +kernel
theorem dX11_digest_127 : decode cX11_digest 127 = .ok (.aload_n 0, 1) := by decide +kernel
theorem dX11_digest_128 : decode cX11_digest 128 = .ok (.getfield 58, 3) := by decide +kernel
theorem dX11_digest_131 : decode cX11_digest 131 = .ok (.getfield 133, 3) := by decide +kernel
theorem dX11_digest_134 : decode cX11_digest 134 = .ok (.if_icmp .ge 23, 3) := by decide +kernel
theorem dX11_digest_137 : decode cX11_digest 137 = .ok (.aload_n 0, 1) := by decide +kernel
theorem dX11_digest_138 : decode cX11_digest 138 = .ok (.getfield 58, 3) := by decide +kernel
theorem dX11_digest_141 : decode cX11_digest 141 = .ok (.getfield 280, 3) := by decide +kernel
theorem dX11_digest_144 : decode cX11_digest 144 = .ok (.iload_n 3, 1) := by decide +kernel
theorem dX11_digest_145 : decode cX11_digest 145 = .ok (.aaload, 1) := by decide +kernel
theorem dX11_digest_146 : decode cX11_digest 146 = .ok (.lload_n 1, 1) := by decide +kernel
theorem dX11_digest_147 : decode cX11_digest 147 = .ok (.invokevirtual 284, 3) := by decide +kernel
theorem dX11_digest_150 : decode cX11_digest 150 = .ok (.lstore_n 1, 1) := by decide +kernel
theorem dX11_digest_151 : decode cX11_digest 151 = .ok (.iinc 3 1, 3) := by decide +kernel
theorem dX11_digest_154 : decode cX11_digest 154 = .ok (.goto (-28), 3) := by decide +kernel
theorem dX11_digest_157 : decode cX11_digest 157 = .ok (.lload_n 1, 1) := by decide +kernel
theorem dX11_digest_158 : decode cX11_digest 158 = .ok (.lreturn, 1) := by decide +kernel
theorem dX11_appendBytes_0 : decode cX11_appendBytes 0 = .ok (.bipush 24, 2) := by decide +kernel
theorem dX11_appendBytes_2 : decode cX11_appendBytes 2 = .ok (.istore_n 2, 1) := by decide +kernel
theorem dX11_appendBytes_3 : decode cX11_appendBytes 3 = .ok (.iload_n 2, 1) := by decide +kernel
theorem dX11_appendBytes_4 : decode cX11_appendBytes 4 = .ok (.ifCond .lt 44, 3) := by decide +kernel
theorem dX11_appendBytes_7 : decode cX11_appendBytes 7 = .ok (.aload_n 0, 1) := by decide +kernel
theorem dX11_appendBytes_8 : decode cX11_appendBytes 8 = .ok (.getfield 80, 3) := by decide +kernel
theorem dX11_appendBytes_11 : decode cX11_appendBytes 11 = .ok (.aload_n 0, 1) := by decide +kernel
theorem dX11_appendBytes_12 : decode cX11_appendBytes 12 = .ok (.getfield 9, 3) := by decide +kernel
theorem dX11_appendBytes_15 : decode cX11_appendBytes 15 = .ok (.arraylength, 1) := by decide +kernel
theorem dX11_appendBytes_16 : decode cX11_appendBytes 16 = .ok (.if_icmp .ge 26, 3) := by decide +kernel
theorem dX11_appendBytes_19 : decode cX11_appendBytes 19 = .ok (.aload_n 0, 1) := by decide +kernel
theorem dX11_appendBytes_20 : decode cX11_appendBytes 20 = .ok (.getfield 9, 3) := by decide +kernel
theorem dX11_appendBytes_23 : decode cX11_appendBytes 23 = .ok (.aload_n 0, 1) := by decide +kernel
theorem dX11_appendBytes_24 : decode cX11_appendBytes 24 = .ok (.getfield 80, 3) := by decide +kernel
theorem dX11_appendBytes_27 : decode cX11_appendBytes 27 = .ok (.iload_n 1, 1) := by decide +kernel
theorem dX11_appendBytes_28 : decode cX11_appendBytes 28 = .ok (.iload_n 2, 1) := by decide +kernel
theorem dX11_appendBytes_29 : decode cX11_appendBytes 29 = .ok (.ishr, 1) := by decide +kernel
theorem dX11_appendBytes_30 : decode cX11_appendBytes 30 = .ok (.i2b, 1) := by decide +kernel
theorem dX11_appendBytes_31 : decode cX11_appendBytes 31 = .ok (.bastore, 1) := by decide +kernel
theorem dX11_appendBytes_32 : decode cX11_appendBytes 32 = .ok (.aload_n 0, 1) := by decide +kernel
theorem dX11_appendBytes_33 : decode cX11_appendBytes 33 = .ok (.dup, 1) := by decide +kernel
theorem dX11_appendBytes_34 : decode cX11_appendBytes 34 = .ok (.getfield 80, 3) := by decide +kernel
theorem dX11_appendBytes_37 : decode cX11_appendBytes 37 = .ok (.iconst 1, 1) := by decide +kernel
theorem dX11_appendBytes_38 : decode cX11_appendBytes 38 = .ok (.iadd, 1) := by decide +kernel
theorem dX11_appendBytes_39 : decode cX11_appendBytes 39 = .ok (.putfield 80, 3) := by decide +kernel
theorem dX11_appendBytes_42 : decode cX11_appendBytes 42 = .ok (.iinc 2 (-8), 3) := by decide +kernel
theorem dX11_appendBytes_45 : decode cX11_appendBytes 45 = .ok (.goto (-42), 3) := by decide +kernel
theorem dX11_appendBytes_48 : decode cX11_appendBytes 48 = .ok (.return_, 1) := by decide +kernel
theorem dX11_takeSpareProgram_0 : decode cX11_takeSpareProgram 0 = .ok (.aload_n 0, 1) := by decide +kernel
theorem dX11_takeSpareProgram_1 : decode cX11_takeSpareProgram 1 = .ok (.getfield 27, 3) := by decide +kernel
theorem dX11_takeSpareProgram_4 : decode cX11_takeSpareProgram 4 = .ok (.astore_n 1, 1) := by decide +kernel
theorem dX11_takeSpareProgram_5 : decode cX11_takeSpareProgram 5 = .ok (.aload_n 0, 1) := by decide +kernel
theorem dX11_takeSpareProgram_6 : decode cX11_takeSpareProgram 6 = .ok (.aload_n 0, 1) := by decide +kernel
theorem dX11_takeSpareProgram_7 : decode cX11_takeSpareProgram 7 = .ok (.getfield 23, 3) := by decide +kernel
theorem dX11_takeSpareProgram_10 : decode cX11_takeSpareProgram 10 = .ok (.putfield 27, 3) := by decide +kernel
theorem dX11_takeSpareProgram_13 : decode cX11_takeSpareProgram 13 = .ok (.aload_n 0, 1) := by decide +kernel
theorem dX11_takeSpareProgram_14 : decode cX11_takeSpareProgram 14 = .ok (.aload_n 0, 1) := by decide +kernel
theorem dX11_takeSpareProgram_15 : decode cX11_takeSpareProgram 15 = .ok (.getfield 30, 3) := by decide +kernel
theorem dX11_takeSpareProgram_18 : decode cX11_takeSpareProgram 18 = .ok (.putfield 23, 3) := by decide +kernel
theorem dX11_takeSpareProgram_21 : decode cX11_takeSpareProgram 21 = .ok (.aload_n 0, 1) := by decide +kernel
theorem dX11_takeSpareProgram_22 : decode cX11_takeSpareProgram 22 = .ok (.aload_n 1, 1) := by decide +kernel
theorem dX11_takeSpareProgram_23 : decode cX11_takeSpareProgram 23 = .ok (.putfield 30, 3) := by decide +kernel
theorem dX11_takeSpareProgram_26 : decode cX11_takeSpareProgram 26 = .ok (.aload_n 0, 1) := by decide +kernel
theorem dX11_takeSpareProgram_27 : decode cX11_takeSpareProgram 27 = .ok (.iconst 0, 1) := by decide +kernel
theorem dX11_takeSpareProgram_28 : decode cX11_takeSpareProgram 28 = .ok (.putfield 130, 3) := by decide +kernel
theorem dX11_takeSpareProgram_31 : decode cX11_takeSpareProgram 31 = .ok (.aload_n 0, 1) := by decide +kernel
theorem dX11_takeSpareProgram_32 : decode cX11_takeSpareProgram 32 = .ok (.getfield 58, 3) := by decide +kernel
theorem dX11_takeSpareProgram_35 : decode cX11_takeSpareProgram 35 = .ok (.aload_n 0, 1) := by decide +kernel
theorem dX11_takeSpareProgram_36 : decode cX11_takeSpareProgram 36 = .ok (.getfield 23, 3) := by decide +kernel
theorem dX11_takeSpareProgram_39 : decode cX11_takeSpareProgram 39 = .ok (.invokevirtual 289, 3) := by decide +kernel
theorem dX11_takeSpareProgram_42 : decode cX11_takeSpareProgram 42 = .ok (.return_, 1) := by decide +kernel
theorem dX11_streamAt_0 : decode cX11_streamAt 0 = .ok (.iload_n 1, 1) := by decide +kernel
theorem dX11_streamAt_1 : decode cX11_streamAt 1 = .ok (.ifCond .lt 14, 3) := by decide +kernel
theorem dX11_streamAt_4 : decode cX11_streamAt 4 = .ok (.iload_n 1, 1) := by decide +kernel
theorem dX11_streamAt_5 : decode cX11_streamAt 5 = .ok (.aload_n 0, 1) := by decide +kernel
theorem dX11_streamAt_6 : decode cX11_streamAt 6 = .ok (.getfield 23, 3) := by decide +kernel
theorem dX11_streamAt_9 : decode cX11_streamAt 9 = .ok (.getfield 121, 3) := by decide +kernel
theorem dX11_streamAt_12 : decode cX11_streamAt 12 = .ok (.if_icmp .lt 11, 3) := by decide +kernel
theorem dX11_streamAt_15 : decode cX11_streamAt 15 = .ok (.new 136, 3) := by decide +kernel
theorem dX11_streamAt_18 : decode cX11_streamAt 18 = .ok (.dup, 1) := by decide +kernel
theorem dX11_streamAt_19 : decode cX11_streamAt 19 = .ok (.invokespecial 138, 3) := by decide +kernel
theorem dX11_streamAt_22 : decode cX11_streamAt 22 = .ok (.athrow, 1) := by decide +kernel
theorem dX11_streamAt_23 : decode cX11_streamAt 23 = .ok (.aload_n 0, 1) := by decide +kernel
theorem dX11_streamAt_24 : decode cX11_streamAt 24 = .ok (.getfield 23, 3) := by decide +kernel
theorem dX11_streamAt_27 : decode cX11_streamAt 27 = .ok (.getfield 259, 3) := by decide +kernel
theorem dX11_streamAt_30 : decode cX11_streamAt 30 = .ok (.iload_n 1, 1) := by decide +kernel
theorem dX11_streamAt_31 : decode cX11_streamAt 31 = .ok (.aaload, 1) := by decide +kernel
theorem dX11_streamAt_32 : decode cX11_streamAt 32 = .ok (.areturn, 1) := by decide +kernel
theorem dX11_testHeldPlace_0 : decode cX11_testHeldPlace 0 = .ok (.iload_n 1, 1) := by decide +kernel
theorem dX11_testHeldPlace_1 : decode cX11_testHeldPlace 1 = .ok (.ifCond .lt 14, 3) := by decide +kernel
theorem dX11_testHeldPlace_4 : decode cX11_testHeldPlace 4 = .ok (.iload_n 1, 1) := by decide +kernel
theorem dX11_testHeldPlace_5 : decode cX11_testHeldPlace 5 = .ok (.aload_n 0, 1) := by decide +kernel
theorem dX11_testHeldPlace_6 : decode cX11_testHeldPlace 6 = .ok (.getfield 58, 3) := by decide +kernel
theorem dX11_testHeldPlace_9 : decode cX11_testHeldPlace 9 = .ok (.getfield 133, 3) := by decide +kernel
theorem dX11_testHeldPlace_12 : decode cX11_testHeldPlace 12 = .ok (.if_icmp .lt 11, 3) := by decide +kernel
theorem dX11_testHeldPlace_15 : decode cX11_testHeldPlace 15 = .ok (.new 136, 3) := by decide +kernel
theorem dX11_testHeldPlace_18 : decode cX11_testHeldPlace 18 = .ok (.dup, 1) := by decide +kernel
theorem dX11_testHeldPlace_19 : decode cX11_testHeldPlace 19 = .ok (.invokespecial 138, 3) := by decide +kernel
theorem dX11_testHeldPlace_22 : decode cX11_testHeldPlace 22 = .ok (.athrow, 1) := by decide +kernel
theorem dX11_testHeldPlace_23 : decode cX11_testHeldPlace 23 = .ok (.return_, 1) := by decide +kernel
theorem dX11_heldRowAt_0 : decode cX11_heldRowAt 0 = .ok (.aload_n 0, 1) := by decide +kernel
theorem dX11_heldRowAt_1 : decode cX11_heldRowAt 1 = .ok (.iload_n 1, 1) := by decide +kernel
theorem dX11_heldRowAt_2 : decode cX11_heldRowAt 2 = .ok (.invokevirtual 234, 3) := by decide +kernel
theorem dX11_heldRowAt_5 : decode cX11_heldRowAt 5 = .ok (.aload_n 0, 1) := by decide +kernel
theorem dX11_heldRowAt_6 : decode cX11_heldRowAt 6 = .ok (.getfield 58, 3) := by decide +kernel
theorem dX11_heldRowAt_9 : decode cX11_heldRowAt 9 = .ok (.getfield 280, 3) := by decide +kernel
theorem dX11_heldRowAt_12 : decode cX11_heldRowAt 12 = .ok (.iload_n 1, 1) := by decide +kernel
theorem dX11_heldRowAt_13 : decode cX11_heldRowAt 13 = .ok (.aaload, 1) := by decide +kernel
theorem dX11_heldRowAt_14 : decode cX11_heldRowAt 14 = .ok (.areturn, 1) := by decide +kernel
theorem dX11_newEntry_0 : decode cX11_newEntry 0 = .ok (.aload_n 0, 1) := by decide +kernel
theorem dX11_newEntry_1 : decode cX11_newEntry 1 = .ok (.getfield 127, 3) := by decide +kernel
theorem dX11_newEntry_4 : decode cX11_newEntry 4 = .ok (.sipush 200, 3) := by decide +kernel
theorem dX11_newEntry_7 : decode cX11_newEntry 7 = .ok (.if_icmp .lt 11, 3) := by decide +kernel
theorem dX11_newEntry_10 : decode cX11_newEntry 10 = .ok (.new 83, 3) := by decide +kernel
theorem dX11_newEntry_13 : decode cX11_newEntry 13 = .ok (.dup, 1) := by decide +kernel
theorem dX11_newEntry_14 : decode cX11_newEntry 14 = .ok (.invokespecial 85, 3) := by decide +kernel
theorem dX11_newEntry_17 : decode cX11_newEntry 17 = .ok (.athrow, 1) := by decide +kernel
theorem dX11_newEntry_18 : decode cX11_newEntry 18 = .ok (.aload_n 0, 1) := by decide +kernel
theorem dX11_newEntry_19 : decode cX11_newEntry 19 = .ok (.getfield 71, 3) := by decide +kernel
theorem dX11_newEntry_22 : decode cX11_newEntry 22 = .ok (.aload_n 0, 1) := by decide +kernel
theorem dX11_newEntry_23 : decode cX11_newEntry 23 = .ok (.getfield 127, 3) := by decide +kernel
theorem dX11_newEntry_26 : decode cX11_newEntry 26 = .ok (.aaload, 1) := by decide +kernel
theorem dX11_newEntry_27 : decode cX11_newEntry 27 = .ok (.astore_n 2, 1) := by decide +kernel
theorem dX11_newEntry_28 : decode cX11_newEntry 28 = .ok (.aload_n 0, 1) := by decide +kernel
theorem dX11_newEntry_29 : decode cX11_newEntry 29 = .ok (.dup, 1) := by decide +kernel
theorem dX11_newEntry_30 : decode cX11_newEntry 30 = .ok (.getfield 127, 3) := by decide +kernel
theorem dX11_newEntry_33 : decode cX11_newEntry 33 = .ok (.iconst 1, 1) := by decide +kernel
theorem dX11_newEntry_34 : decode cX11_newEntry 34 = .ok (.iadd, 1) := by decide +kernel
theorem dX11_newEntry_35 : decode cX11_newEntry 35 = .ok (.putfield 127, 3) := by decide +kernel
theorem dX11_newEntry_38 : decode cX11_newEntry 38 = .ok (.aload_n 2, 1) := by decide +kernel
theorem dX11_newEntry_39 : decode cX11_newEntry 39 = .ok (.iload_n 1, 1) := by decide +kernel
theorem dX11_newEntry_40 : decode cX11_newEntry 40 = .ok (.putfield 292, 3) := by decide +kernel
theorem dX11_newEntry_43 : decode cX11_newEntry 43 = .ok (.aload_n 2, 1) := by decide +kernel
theorem dX11_newEntry_44 : decode cX11_newEntry 44 = .ok (.areturn, 1) := by decide +kernel
theorem dX11_rowsTakenBy_0 : decode cX11_rowsTakenBy 0 = .ok (.aload_n 0, 1) := by decide +kernel
theorem dX11_rowsTakenBy_1 : decode cX11_rowsTakenBy 1 = .ok (.getfield 58, 3) := by decide +kernel
theorem dX11_rowsTakenBy_4 : decode cX11_rowsTakenBy 4 = .ok (.aload_n 1, 1) := by decide +kernel
theorem dX11_rowsTakenBy_5 : decode cX11_rowsTakenBy 5 = .ok (.invokevirtual 240, 3) := by decide +kernel
theorem dX11_rowsTakenBy_8 : decode cX11_rowsTakenBy 8 = .ok (.pop, 1) := by decide +kernel
theorem dX11_rowsTakenBy_9 : decode cX11_rowsTakenBy 9 = .ok (.aload_n 0, 1) := by decide +kernel
theorem dX11_rowsTakenBy_10 : decode cX11_rowsTakenBy 10 = .ok (.getfield 58, 3) := by decide +kernel
theorem dX11_rowsTakenBy_13 : decode cX11_rowsTakenBy 13 = .ok (.invokevirtual 295, 3) := by decide +kernel
theorem dX11_rowsTakenBy_16 : decode cX11_rowsTakenBy 16 = .ok (.aload_n 0, 1) := by decide +kernel
theorem dX11_rowsTakenBy_17 : decode cX11_rowsTakenBy 17 = .ok (.getfield 58, 3) := by decide +kernel
theorem dX11_rowsTakenBy_20 : decode cX11_rowsTakenBy 20 = .ok (.getfield 298, 3) := by decide +kernel
theorem dX11_rowsTakenBy_23 : decode cX11_rowsTakenBy 23 = .ok (.ireturn, 1) := by decide +kernel
theorem dX11_doLogAnew_0 : decode cX11_doLogAnew 0 = .ok (.aload_n 0, 1) := by decide +kernel
theorem dX11_doLogAnew_1 : decode cX11_doLogAnew 1 = .ok (.getfield 58, 3) := by decide +kernel
theorem dX11_doLogAnew_4 : decode cX11_doLogAnew 4 = .ok (.aload_n 0, 1) := by decide +kernel
theorem dX11_doLogAnew_5 : decode cX11_doLogAnew 5 = .ok (.getfield 23, 3) := by decide +kernel
theorem dX11_doLogAnew_8 : decode cX11_doLogAnew 8 = .ok (.invokevirtual 289, 3) := by decide +kernel
theorem dX11_doLogAnew_11 : decode cX11_doLogAnew 11 = .ok (.iconst 0, 1) := by decide +kernel
theorem dX11_doLogAnew_12 : decode cX11_doLogAnew 12 = .ok (.istore_n 1, 1) := by decide +kernel
theorem dX11_doLogAnew_13 : decode cX11_doLogAnew 13 = .ok (.iconst 0, 1) := by decide +kernel
theorem dX11_doLogAnew_14 : decode cX11_doLogAnew 14 = .ok (.istore_n 2, 1) := by decide +kernel
theorem dX11_doLogAnew_15 : decode cX11_doLogAnew 15 = .ok (.iload_n 2, 1) := by decide +kernel
theorem dX11_doLogAnew_16 : decode cX11_doLogAnew 16 = .ok (.aload_n 0, 1) := by decide +kernel
theorem dX11_doLogAnew_17 : decode cX11_doLogAnew 17 = .ok (.getfield 127, 3) := by decide +kernel
theorem dX11_doLogAnew_20 : decode cX11_doLogAnew 20 = .ok (.if_icmp .ge 38, 3) := by decide +kernel
theorem dX11_doLogAnew_23 : decode cX11_doLogAnew 23 = .ok (.aload_n 0, 1) := by decide +kernel
theorem dX11_doLogAnew_24 : decode cX11_doLogAnew 24 = .ok (.getfield 58, 3) := by decide +kernel
theorem dX11_doLogAnew_27 : decode cX11_doLogAnew 27 = .ok (.aload_n 0, 1) := by decide +kernel
theorem dX11_doLogAnew_28 : decode cX11_doLogAnew 28 = .ok (.getfield 71, 3) := by decide +kernel
theorem dX11_doLogAnew_31 : decode cX11_doLogAnew 31 = .ok (.iload_n 2, 1) := by decide +kernel
theorem dX11_doLogAnew_32 : decode cX11_doLogAnew 32 = .ok (.aaload, 1) := by decide +kernel
theorem dX11_doLogAnew_33 : decode cX11_doLogAnew 33 = .ok (.invokevirtual 240, 3) := by decide +kernel
theorem dX11_doLogAnew_36 : decode cX11_doLogAnew 36 = .ok (.ifCond .eq 13, 3) := by decide +kernel
theorem dX11_doLogAnew_39 : decode cX11_doLogAnew 39 = .ok (.aload_n 0, 1) := by decide +kernel
theorem dX11_doLogAnew_40 : decode cX11_doLogAnew 40 = .ok (.getfield 58, 3) := by decide +kernel
theorem dX11_doLogAnew_43 : decode cX11_doLogAnew 43 = .ok (.invokevirtual 295, 3) := by decide +kernel
theorem dX11_doLogAnew_46 : decode cX11_doLogAnew 46 = .ok (.goto 6, 3) := by decide +kernel
theorem dX11_doLogAnew_49 : decode cX11_doLogAnew 49 = .ok (.iinc 1 1, 3) := by decide +kernel
theorem dX11_doLogAnew_52 : decode cX11_doLogAnew 52 = .ok (.iinc 2 1, 3) := by decide +kernel
theorem dX11_doLogAnew_55 : decode cX11_doLogAnew 55 = .ok (.goto (-40), 3) := by decide +kernel
theorem dX11_doLogAnew_58 : decode cX11_doLogAnew 58 = .ok (.iload_n 1, 1) := by decide +kernel
theorem dX11_doLogAnew_59 : decode cX11_doLogAnew 59 = .ok (.ireturn, 1) := by decide +kernel
theorem dX11_isLetter_0 : decode cX11_isLetter 0 = .ok (.iload_n 0, 1) := by decide +kernel
theorem dX11_isLetter_1 : decode cX11_isLetter 1 = .ok (.bipush 97, 2) := by decide +kernel
theorem dX11_isLetter_3 : decode cX11_isLetter 3 = .ok (.if_icmp .lt 13, 3) := by decide +kernel
theorem dX11_isLetter_6 : decode cX11_isLetter 6 = .ok (.iload_n 0, 1) := by decide +kernel
theorem dX11_isLetter_7 : decode cX11_isLetter 7 = .ok (.bipush 122, 2) := by decide +kernel
theorem dX11_isLetter_9 : decode cX11_isLetter 9 = .ok (.if_icmp .gt 7, 3) := by decide +kernel
theorem dX11_isLetter_12 : decode cX11_isLetter 12 = .ok (.iconst 1, 1) := by decide +kernel
theorem dX11_isLetter_13 : decode cX11_isLetter 13 = .ok (.goto 4, 3) := by decide +kernel
theorem dX11_isLetter_16 : decode cX11_isLetter 16 = .ok (.iconst 0, 1) := by decide +kernel
theorem dX11_isLetter_17 : decode cX11_isLetter 17 = .ok (.ireturn, 1) := by decide +kernel
theorem dX11_isDigit_0 : decode cX11_isDigit 0 = .ok (.iload_n 0, 1) := by decide +kernel
theorem dX11_isDigit_1 : decode cX11_isDigit 1 = .ok (.bipush 48, 2) := by decide +kernel
theorem dX11_isDigit_3 : decode cX11_isDigit 3 = .ok (.if_icmp .lt 13, 3) := by decide +kernel
theorem dX11_isDigit_6 : decode cX11_isDigit 6 = .ok (.iload_n 0, 1) := by decide +kernel
theorem dX11_isDigit_7 : decode cX11_isDigit 7 = .ok (.bipush 57, 2) := by decide +kernel
theorem dX11_isDigit_9 : decode cX11_isDigit 9 = .ok (.if_icmp .gt 7, 3) := by decide +kernel
theorem dX11_isDigit_12 : decode cX11_isDigit 12 = .ok (.iconst 1, 1) := by decide +kernel
theorem dX11_isDigit_13 : decode cX11_isDigit 13 = .ok (.goto 4, 3) := by decide +kernel
theorem dX11_isDigit_16 : decode cX11_isDigit 16 = .ok (.iconst 0, 1) := by decide +kernel
theorem dX11_isDigit_17 : decode cX11_isDigit 17 = .ok (.ireturn, 1) := by decide +kernel
theorem dX11_isWordByte_0 : decode cX11_isWordByte 0 = .ok (.iload_n 0, 1) := by decide +kernel
theorem dX11_isWordByte_1 : decode cX11_isWordByte 1 = .ok (.invokestatic 301, 3) := by decide +kernel
theorem dX11_isWordByte_4 : decode cX11_isWordByte 4 = .ok (.ifCond .ne 10, 3) := by decide +kernel
theorem dX11_isWordByte_7 : decode cX11_isWordByte 7 = .ok (.iload_n 0, 1) := by decide +kernel
theorem dX11_isWordByte_8 : decode cX11_isWordByte 8 = .ok (.invokestatic 304, 3) := by decide +kernel
theorem dX11_isWordByte_11 : decode cX11_isWordByte 11 = .ok (.ifCond .eq 7, 3) := by decide +kernel
theorem dX11_isWordByte_14 : decode cX11_isWordByte 14 = .ok (.iconst 1, 1) := by decide +kernel
theorem dX11_isWordByte_15 : decode cX11_isWordByte 15 = .ok (.goto 4, 3) := by decide +kernel
theorem dX11_isWordByte_18 : decode cX11_isWordByte 18 = .ok (.iconst 0, 1) := by decide +kernel
theorem dX11_isWordByte_19 : decode cX11_isWordByte 19 = .ok (.ireturn, 1) := by decide +kernel
theorem dJ5_init_d00df_0 : decode cJ5_init_d00df 0 = .ok (.aload_n 0, 1) := by decide +kernel
theorem dJ5_init_d00df_1 : decode cJ5_init_d00df 1 = .ok (.invokespecial 3, 3) := by decide +kernel
theorem dJ5_init_d00df_4 : decode cJ5_init_d00df 4 = .ok (.getstatic 18, 3) := by decide +kernel
theorem dJ5_init_d00df_7 : decode cJ5_init_d00df 7 = .ok (.ifCond .eq 18, 3) := by decide +kernel
theorem dJ5_init_d00df_10 : decode cJ5_init_d00df 10 = .ok (.aload_n 0, 1) := by decide +kernel
theorem dJ5_init_d00df_11 : decode cJ5_init_d00df 11 = .ok (.iload_n 1, 1) := by decide +kernel
theorem dJ5_init_d00df_12 : decode cJ5_init_d00df 12 = .ok (.newarray .byte, 2) := by decide +kernel
theorem dJ5_init_d00df_14 : decode cJ5_init_d00df 14 = .ok (.putfield 15, 3) := by decide +kernel
theorem dJ5_init_d00df_17 : decode cJ5_init_d00df 17 = .ok (.aload_n 0, 1) := by decide +kernel
theorem dJ5_init_d00df_18 : decode cJ5_init_d00df 18 = .ok (.iconst 0, 1) := by decide +kernel
theorem dJ5_init_d00df_19 : decode cJ5_init_d00df 19 = .ok (.putfield 22, 3) := by decide +kernel
theorem dJ5_init_d00df_22 : decode cJ5_init_d00df 22 = .ok (.goto 16, 3) := by decide +kernel
theorem dJ5_init_d00df_25 : decode cJ5_init_d00df 25 = .ok (.aload_n 0, 1) := by decide +kernel
theorem dJ5_init_d00df_26 : decode cJ5_init_d00df 26 = .ok (.iload_n 1, 1) := by decide +kernel
theorem dJ5_init_d00df_27 : decode cJ5_init_d00df 27 = .ok (.invokestatic 26, 3) := by decide +kernel
theorem dJ5_init_d00df_30 : decode cJ5_init_d00df 30 = .ok (.putfield 15, 3) := by decide +kernel
theorem dJ5_init_d00df_33 : decode cJ5_init_d00df 33 = .ok (.aload_n 0, 1) := by decide +kernel
theorem dJ5_init_d00df_34 : decode cJ5_init_d00df 34 = .ok (.iconst 1, 1) := by decide +kernel
theorem dJ5_init_d00df_35 : decode cJ5_init_d00df 35 = .ok (.putfield 22, 3) := by decide +kernel
theorem dJ5_init_d00df_38 : decode cJ5_init_d00df 38 = .ok (.return_, 1) := by decide +kernel
theorem dJ5_length_8abf5_0 : decode cJ5_length_8abf5 0 = .ok (.aload_n 0, 1) := by decide +kernel
theorem dJ5_length_8abf5_1 : decode cJ5_length_8abf5 1 = .ok (.getfield 79, 3) := by decide +kernel
theorem dJ5_length_8abf5_4 : decode cJ5_length_8abf5 4 = .ok (.ireturn, 1) := by decide +kernel
theorem dJ5_ensureCapacityInternal_d00df_0 : decode cJ5_ensureCapacityInternal_d00df 0 = .ok (.aload_n 0, 1) := by decide +kernel
theorem dJ5_ensureCapacityInternal_d00df_1 : decode cJ5_ensureCapacityInternal_d00df 1 = .ok (.getfield 15, 3) := by decide +kernel
theorem dJ5_ensureCapacityInternal_d00df_4 : decode cJ5_ensureCapacityInternal_d00df 4 = .ok (.arraylength, 1) := by decide +kernel
theorem dJ5_ensureCapacityInternal_d00df_5 : decode cJ5_ensureCapacityInternal_d00df 5 = .ok (.aload_n 0, 1) := by decide +kernel
theorem dJ5_ensureCapacityInternal_d00df_6 : decode cJ5_ensureCapacityInternal_d00df 6 = .ok (.getfield 22, 3) := by decide +kernel
theorem dJ5_ensureCapacityInternal_d00df_9 : decode cJ5_ensureCapacityInternal_d00df 9 = .ok (.ishr, 1) := by decide +kernel
theorem dJ5_ensureCapacityInternal_d00df_10 : decode cJ5_ensureCapacityInternal_d00df 10 = .ok (.istore_n 2, 1) := by decide +kernel
theorem dJ5_ensureCapacityInternal_d00df_11 : decode cJ5_ensureCapacityInternal_d00df 11 = .ok (.iload_n 1, 1) := by decide +kernel
theorem dJ5_ensureCapacityInternal_d00df_12 : decode cJ5_ensureCapacityInternal_d00df 12 = .ok (.iload_n 2, 1) := by decide +kernel
theorem dJ5_ensureCapacityInternal_d00df_13 : decode cJ5_ensureCapacityInternal_d00df 13 = .ok (.isub, 1) := by decide +kernel
theorem dJ5_ensureCapacityInternal_d00df_14 : decode cJ5_ensureCapacityInternal_d00df 14 = .ok (.ifCond .le 24, 3) := by decide +kernel
theorem dJ5_ensureCapacityInternal_d00df_17 : decode cJ5_ensureCapacityInternal_d00df 17 = .ok (.aload_n 0, 1) := by decide +kernel
theorem dJ5_ensureCapacityInternal_d00df_18 : decode cJ5_ensureCapacityInternal_d00df 18 = .ok (.aload_n 0, 1) := by decide +kernel
theorem dJ5_ensureCapacityInternal_d00df_19 : decode cJ5_ensureCapacityInternal_d00df 19 = .ok (.getfield 15, 3) := by decide +kernel
theorem dJ5_ensureCapacityInternal_d00df_22 : decode cJ5_ensureCapacityInternal_d00df 22 = .ok (.aload_n 0, 1) := by decide +kernel
theorem dJ5_ensureCapacityInternal_d00df_23 : decode cJ5_ensureCapacityInternal_d00df 23 = .ok (.iload_n 1, 1) := by decide +kernel
theorem dJ5_ensureCapacityInternal_d00df_24 : decode cJ5_ensureCapacityInternal_d00df 24 = .ok (.invokevirtual 104, 3) := by decide +kernel
theorem dJ5_ensureCapacityInternal_d00df_27 : decode cJ5_ensureCapacityInternal_d00df 27 = .ok (.aload_n 0, 1) := by decide +kernel
theorem dJ5_ensureCapacityInternal_d00df_28 : decode cJ5_ensureCapacityInternal_d00df 28 = .ok (.getfield 22, 3) := by decide +kernel
theorem dJ5_ensureCapacityInternal_d00df_31 : decode cJ5_ensureCapacityInternal_d00df 31 = .ok (.ishl, 1) := by decide +kernel
theorem dJ5_ensureCapacityInternal_d00df_32 : decode cJ5_ensureCapacityInternal_d00df 32 = .ok (.invokestatic 108, 3) := by decide +kernel
theorem dJ5_ensureCapacityInternal_d00df_35 : decode cJ5_ensureCapacityInternal_d00df 35 = .ok (.putfield 15, 3) := by decide +kernel
theorem dJ5_ensureCapacityInternal_d00df_38 : decode cJ5_ensureCapacityInternal_d00df 38 = .ok (.return_, 1) := by decide +kernel
theorem dJ5_newCapacity_0f7a4_0 : decode cJ5_newCapacity_0f7a4 0 = .ok (.aload_n 0, 1) := by decide +kernel
theorem dJ5_newCapacity_0f7a4_1 : decode cJ5_newCapacity_0f7a4 1 = .ok (.getfield 15, 3) := by decide +kernel
theorem dJ5_newCapacity_0f7a4_4 : decode cJ5_newCapacity_0f7a4 4 = .ok (.arraylength, 1) := by decide +kernel
theorem dJ5_newCapacity_0f7a4_5 : decode cJ5_newCapacity_0f7a4 5 = .ok (.istore_n 2, 1) := by decide +kernel
theorem dJ5_newCapacity_0f7a4_6 : decode cJ5_newCapacity_0f7a4 6 = .ok (.iload_n 1, 1) := by decide +kernel
theorem dJ5_newCapacity_0f7a4_7 : decode cJ5_newCapacity_0f7a4 7 = .ok (.aload_n 0, 1) := by decide +kernel
theorem dJ5_newCapacity_0f7a4_8 : decode cJ5_newCapacity_0f7a4 8 = .ok (.getfield 22, 3) := by decide +kernel
theorem dJ5_newCapacity_0f7a4_11 : decode cJ5_newCapacity_0f7a4 11 = .ok (.ishl, 1) := by decide +kernel
theorem dJ5_newCapacity_0f7a4_12 : decode cJ5_newCapacity_0f7a4 12 = .ok (.istore_n 3, 1) := by decide +kernel
theorem dJ5_newCapacity_0f7a4_13 : decode cJ5_newCapacity_0f7a4 13 = .ok (.iload_n 3, 1) := by decide +kernel
theorem dJ5_newCapacity_0f7a4_14 : decode cJ5_newCapacity_0f7a4 14 = .ok (.iload_n 2, 1) := by decide +kernel
theorem dJ5_newCapacity_0f7a4_15 : decode cJ5_newCapacity_0f7a4 15 = .ok (.isub, 1) := by decide +kernel
theorem dJ5_newCapacity_0f7a4_16 : decode cJ5_newCapacity_0f7a4 16 = .ok (.istore 4, 2) := by decide +kernel
theorem dJ5_newCapacity_0f7a4_18 : decode cJ5_newCapacity_0f7a4 18 = .ok (.iload_n 2, 1) := by decide +kernel
theorem dJ5_newCapacity_0f7a4_19 : decode cJ5_newCapacity_0f7a4 19 = .ok (.iload 4, 2) := by decide +kernel
theorem dJ5_newCapacity_0f7a4_21 : decode cJ5_newCapacity_0f7a4 21 = .ok (.iload_n 2, 1) := by decide +kernel
theorem dJ5_newCapacity_0f7a4_22 : decode cJ5_newCapacity_0f7a4 22 = .ok (.iconst 2, 1) := by decide +kernel
theorem dJ5_newCapacity_0f7a4_23 : decode cJ5_newCapacity_0f7a4 23 = .ok (.aload_n 0, 1) := by decide +kernel
theorem dJ5_newCapacity_0f7a4_24 : decode cJ5_newCapacity_0f7a4 24 = .ok (.getfield 22, 3) := by decide +kernel
theorem dJ5_newCapacity_0f7a4_27 : decode cJ5_newCapacity_0f7a4 27 = .ok (.ishl, 1) := by decide +kernel
theorem dJ5_newCapacity_0f7a4_28 : decode cJ5_newCapacity_0f7a4 28 = .ok (.iadd, 1) := by decide +kernel
theorem dJ5_newCapacity_0f7a4_29 : decode cJ5_newCapacity_0f7a4 29 = .ok (.invokestatic 114, 3) := by decide +kernel
theorem dJ5_newCapacity_0f7a4_32 : decode cJ5_newCapacity_0f7a4 32 = .ok (.istore 5, 2) := by decide +kernel
theorem dJ5_newCapacity_0f7a4_34 : decode cJ5_newCapacity_0f7a4 34 = .ok (.iload 5, 2) := by decide +kernel
theorem dJ5_newCapacity_0f7a4_36 : decode cJ5_newCapacity_0f7a4 36 = .ok (.ldc 39, 2) := by decide +kernel
theorem dJ5_newCapacity_0f7a4_38 : decode cJ5_newCapacity_0f7a4 38 = .ok (.if_icmp .ne 13, 3) := by decide +kernel
theorem dJ5_newCapacity_0f7a4_41 : decode cJ5_newCapacity_0f7a4 41 = .ok (.new 120, 3) := by decide +kernel
theorem dJ5_newCapacity_0f7a4_44 : decode cJ5_newCapacity_0f7a4 44 = .ok (.dup, 1) := by decide +kernel
theorem dJ5_newCapacity_0f7a4_45 : decode cJ5_newCapacity_0f7a4 45 = .ok (.ldc 122, 2) := by decide +kernel
theorem dJ5_newCapacity_0f7a4_47 : decode cJ5_newCapacity_0f7a4 47 = .ok (.invokespecial 124, 3) := by decide +kernel
theorem dJ5_newCapacity_0f7a4_50 : decode cJ5_newCapacity_0f7a4 50 = .ok (.athrow, 1) := by decide +kernel
theorem dJ5_newCapacity_0f7a4_51 : decode cJ5_newCapacity_0f7a4 51 = .ok (.iload 5, 2) := by decide +kernel
theorem dJ5_newCapacity_0f7a4_53 : decode cJ5_newCapacity_0f7a4 53 = .ok (.aload_n 0, 1) := by decide +kernel
theorem dJ5_newCapacity_0f7a4_54 : decode cJ5_newCapacity_0f7a4 54 = .ok (.getfield 22, 3) := by decide +kernel
theorem dJ5_newCapacity_0f7a4_57 : decode cJ5_newCapacity_0f7a4 57 = .ok (.ishr, 1) := by decide +kernel
theorem dJ5_newCapacity_0f7a4_58 : decode cJ5_newCapacity_0f7a4 58 = .ok (.ireturn, 1) := by decide +kernel
theorem dJ5_inflate_da8c8_0 : decode cJ5_inflate_da8c8 0 = .ok (.aload_n 0, 1) := by decide +kernel
theorem dJ5_inflate_da8c8_1 : decode cJ5_inflate_da8c8 1 = .ok (.invokevirtual 83, 3) := by decide +kernel
theorem dJ5_inflate_da8c8_4 : decode cJ5_inflate_da8c8 4 = .ok (.ifCond .ne 4, 3) := by decide +kernel
theorem dJ5_inflate_da8c8_7 : decode cJ5_inflate_da8c8 7 = .ok (.return_, 1) := by decide +kernel
theorem dJ5_inflate_da8c8_8 : decode cJ5_inflate_da8c8 8 = .ok (.aload_n 0, 1) := by decide +kernel
theorem dJ5_inflate_da8c8_9 : decode cJ5_inflate_da8c8 9 = .ok (.getfield 15, 3) := by decide +kernel
theorem dJ5_inflate_da8c8_12 : decode cJ5_inflate_da8c8 12 = .ok (.arraylength, 1) := by decide +kernel
theorem dJ5_inflate_da8c8_13 : decode cJ5_inflate_da8c8 13 = .ok (.invokestatic 26, 3) := by decide +kernel
theorem dJ5_inflate_da8c8_16 : decode cJ5_inflate_da8c8 16 = .ok (.astore_n 1, 1) := by decide +kernel
theorem dJ5_inflate_da8c8_17 : decode cJ5_inflate_da8c8 17 = .ok (.aload_n 0, 1) := by decide +kernel
theorem dJ5_inflate_da8c8_18 : decode cJ5_inflate_da8c8 18 = .ok (.getfield 15, 3) := by decide +kernel
theorem dJ5_inflate_da8c8_21 : decode cJ5_inflate_da8c8 21 = .ok (.iconst 0, 1) := by decide +kernel
theorem dJ5_inflate_da8c8_22 : decode cJ5_inflate_da8c8 22 = .ok (.aload_n 1, 1) := by decide +kernel
theorem dJ5_inflate_da8c8_23 : decode cJ5_inflate_da8c8 23 = .ok (.iconst 0, 1) := by decide +kernel
theorem dJ5_inflate_da8c8_24 : decode cJ5_inflate_da8c8 24 = .ok (.aload_n 0, 1) := by decide +kernel
theorem dJ5_inflate_da8c8_25 : decode cJ5_inflate_da8c8 25 = .ok (.getfield 79, 3) := by decide +kernel
theorem dJ5_inflate_da8c8_28 : decode cJ5_inflate_da8c8 28 = .ok (.invokestatic 125, 3) := by decide +kernel
theorem dJ5_inflate_da8c8_31 : decode cJ5_inflate_da8c8 31 = .ok (.aload_n 0, 1) := by decide +kernel
theorem dJ5_inflate_da8c8_32 : decode cJ5_inflate_da8c8 32 = .ok (.aload_n 1, 1) := by decide +kernel
theorem dJ5_inflate_da8c8_33 : decode cJ5_inflate_da8c8 33 = .ok (.putfield 15, 3) := by decide +kernel
theorem dJ5_inflate_da8c8_36 : decode cJ5_inflate_da8c8 36 = .ok (.aload_n 0, 1) := by decide +kernel
theorem dJ5_inflate_da8c8_37 : decode cJ5_inflate_da8c8 37 = .ok (.iconst 1, 1) := by decide +kernel
theorem dJ5_inflate_da8c8_38 : decode cJ5_inflate_da8c8 38 = .ok (.putfield 22, 3) := by decide +kernel
theorem dJ5_inflate_da8c8_41 : decode cJ5_inflate_da8c8 41 = .ok (.return_, 1) := by decide +kernel
theorem dJ5_append_cf1ce_0 : decode cJ5_append_cf1ce 0 = .ok (.aload_n 1, 1) := by decide +kernel
theorem dJ5_append_cf1ce_1 : decode cJ5_append_cf1ce 1 = .ok (.ifnonnull 8, 3) := by decide +kernel
theorem dJ5_append_cf1ce_4 : decode cJ5_append_cf1ce 4 = .ok (.aload_n 0, 1) := by decide +kernel
theorem dJ5_append_cf1ce_5 : decode cJ5_append_cf1ce 5 = .ok (.invokevirtual 204, 3) := by decide +kernel
theorem dJ5_append_cf1ce_8 : decode cJ5_append_cf1ce 8 = .ok (.areturn, 1) := by decide +kernel
theorem dJ5_append_cf1ce_9 : decode cJ5_append_cf1ce 9 = .ok (.aload_n 1, 1) := by decide +kernel
theorem dJ5_append_cf1ce_10 : decode cJ5_append_cf1ce 10 = .ok (.invokevirtual 32, 3) := by decide +kernel
theorem dJ5_append_cf1ce_13 : decode cJ5_append_cf1ce 13 = .ok (.istore_n 2, 1) := by decide +kernel
theorem dJ5_append_cf1ce_14 : decode cJ5_append_cf1ce 14 = .ok (.aload_n 0, 1) := by decide +kernel
