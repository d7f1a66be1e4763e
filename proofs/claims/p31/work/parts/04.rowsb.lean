theorem dX3_pickColumn_44 : decode cX3_pickColumn 44 = .ok (.invokevirtual 108, 3) := by decide +kernel
theorem dX3_pickColumn_47 : decode cX3_pickColumn 47 = .ok (.goto 9, 3) := by decide +kernel
theorem dX3_pickColumn_50 : decode cX3_pickColumn 50 = .ok (.aload_n 0, 1) := by decide +kernel
theorem dX3_pickColumn_51 : decode cX3_pickColumn 51 = .ok (.iconst 5, 1) := by decide +kernel
theorem dX3_pickColumn_52 : decode cX3_pickColumn 52 = .ok (.iload_n 3, 1) := by decide +kernel
theorem dX3_pickColumn_53 : decode cX3_pickColumn 53 = .ok (.invokevirtual 63, 3) := by decide +kernel
theorem dX3_pickColumn_56 : decode cX3_pickColumn 56 = .ok (.return_, 1) := by decide +kernel
theorem dX3_addOtherColumns_0 : decode cX3_addOtherColumns 0 = .ok (.iconst 0, 1) := by decide +kernel
theorem dX3_addOtherColumns_1 : decode cX3_addOtherColumns 1 = .ok (.istore_n 1, 1) := by decide +kernel
theorem dX3_addOtherColumns_2 : decode cX3_addOtherColumns 2 = .ok (.iload_n 1, 1) := by decide +kernel
theorem dX3_addOtherColumns_3 : decode cX3_addOtherColumns 3 = .ok (.aload_n 0, 1) := by decide +kernel
theorem dX3_addOtherColumns_4 : decode cX3_addOtherColumns 4 = .ok (.getfield 32, 3) := by decide +kernel
theorem dX3_addOtherColumns_7 : decode cX3_addOtherColumns 7 = .ok (.getfield 181, 3) := by decide +kernel
theorem dX3_addOtherColumns_10 : decode cX3_addOtherColumns 10 = .ok (.if_icmp .ge 44, 3) := by decide +kernel
theorem dX3_addOtherColumns_13 : decode cX3_addOtherColumns 13 = .ok (.iload_n 1, 1) := by decide +kernel
theorem dX3_addOtherColumns_14 : decode cX3_addOtherColumns 14 = .ok (.aload_n 0, 1) := by decide +kernel
theorem dX3_addOtherColumns_15 : decode cX3_addOtherColumns 15 = .ok (.getfield 25, 3) := by decide +kernel
theorem dX3_addOtherColumns_18 : decode cX3_addOtherColumns 18 = .ok (.getfield 176, 3) := by decide +kernel
theorem dX3_addOtherColumns_21 : decode cX3_addOtherColumns 21 = .ok (.if_icmp .eq 27, 3) := by decide +kernel
theorem dX3_addOtherColumns_24 : decode cX3_addOtherColumns 24 = .ok (.aload_n 0, 1) := by decide +kernel
theorem dX3_addOtherColumns_25 : decode cX3_addOtherColumns 25 = .ok (.aload_n 0, 1) := by decide +kernel
theorem dX3_addOtherColumns_26 : decode cX3_addOtherColumns 26 = .ok (.getfield 32, 3) := by decide +kernel
theorem dX3_addOtherColumns_29 : decode cX3_addOtherColumns 29 = .ok (.iload_n 1, 1) := by decide +kernel
theorem dX3_addOtherColumns_30 : decode cX3_addOtherColumns 30 = .ok (.invokevirtual 182, 3) := by decide +kernel
theorem dX3_addOtherColumns_33 : decode cX3_addOtherColumns 33 = .ok (.invokevirtual 156, 3) := by decide +kernel
theorem dX3_addOtherColumns_36 : decode cX3_addOtherColumns 36 = .ok (.ifCond .ne 12, 3) := by decide +kernel
theorem dX3_addOtherColumns_39 : decode cX3_addOtherColumns 39 = .ok (.aload_n 0, 1) := by decide +kernel
theorem dX3_addOtherColumns_40 : decode cX3_addOtherColumns 40 = .ok (.iconst 5, 1) := by decide +kernel
theorem dX3_addOtherColumns_41 : decode cX3_addOtherColumns 41 = .ok (.aload_n 0, 1) := by decide +kernel
theorem dX3_addOtherColumns_42 : decode cX3_addOtherColumns 42 = .ok (.getfield 170, 3) := by decide +kernel
theorem dX3_addOtherColumns_45 : decode cX3_addOtherColumns 45 = .ok (.invokevirtual 63, 3) := by decide +kernel
theorem dX3_addOtherColumns_48 : decode cX3_addOtherColumns 48 = .ok (.iinc 1 1, 3) := by decide +kernel
theorem dX3_addOtherColumns_51 : decode cX3_addOtherColumns 51 = .ok (.goto (-49), 3) := by decide +kernel
theorem dX3_addOtherColumns_54 : decode cX3_addOtherColumns 54 = .ok (.return_, 1) := by decide +kernel
theorem dX3_report_0 : decode cX3_report 0 = .ok (.aload_n 0, 1) := by decide +kernel
theorem dX3_report_1 : decode cX3_report 1 = .ok (.getfield 53, 3) := by decide +kernel
theorem dX3_report_4 : decode cX3_report 4 = .ok (.ifCond .ne 13, 3) := by decide +kernel
theorem dX3_report_7 : decode cX3_report 7 = .ok (.aload_n 0, 1) := by decide +kernel
theorem dX3_report_8 : decode cX3_report 8 = .ok (.iload_n 1, 1) := by decide +kernel
theorem dX3_report_9 : decode cX3_report 9 = .ok (.putfield 53, 3) := by decide +kernel
theorem dX3_report_12 : decode cX3_report 12 = .ok (.aload_n 0, 1) := by decide +kernel
theorem dX3_report_13 : decode cX3_report 13 = .ok (.iload_n 2, 1) := by decide +kernel
theorem dX3_report_14 : decode cX3_report 14 = .ok (.putfield 56, 3) := by decide +kernel
theorem dX3_report_17 : decode cX3_report 17 = .ok (.return_, 1) := by decide +kernel
theorem dX4_init_0 : decode cX4_init 0 = .ok (.aload_n 0, 1) := by decide +kernel
theorem dX4_init_1 : decode cX4_init 1 = .ok (.invokespecial 3, 3) := by decide +kernel
theorem dX4_init_4 : decode cX4_init 4 = .ok (.aload_n 0, 1) := by decide +kernel
theorem dX4_init_5 : decode cX4_init 5 = .ok (.aload_n 1, 1) := by decide +kernel
theorem dX4_init_6 : decode cX4_init 6 = .ok (.putfield 9, 3) := by decide +kernel
theorem dX4_init_9 : decode cX4_init 9 = .ok (.aload_n 0, 1) := by decide +kernel
theorem dX4_init_10 : decode cX4_init 10 = .ok (.aload_n 2, 1) := by decide +kernel
theorem dX4_init_11 : decode cX4_init 11 = .ok (.putfield 15, 3) := by decide +kernel
theorem dX4_init_14 : decode cX4_init 14 = .ok (.return_, 1) := by decide +kernel
theorem dX4_parse_0 : decode cX4_parse 0 = .ok (.aload_n 0, 1) := by decide +kernel
theorem dX4_parse_1 : decode cX4_parse 1 = .ok (.iconst (-1), 1) := by decide +kernel
theorem dX4_parse_2 : decode cX4_parse 2 = .ok (.putfield 19, 3) := by decide +kernel
theorem dX4_parse_5 : decode cX4_parse 5 = .ok (.aload_n 0, 1) := by decide +kernel
theorem dX4_parse_6 : decode cX4_parse 6 = .ok (.iconst (-1), 1) := by decide +kernel
theorem dX4_parse_7 : decode cX4_parse 7 = .ok (.putfield 23, 3) := by decide +kernel
theorem dX4_parse_10 : decode cX4_parse 10 = .ok (.aload_n 0, 1) := by decide +kernel
theorem dX4_parse_11 : decode cX4_parse 11 = .ok (.invokevirtual 26, 3) := by decide +kernel
theorem dX4_parse_14 : decode cX4_parse 14 = .ok (.iconst 0, 1) := by decide +kernel
theorem dX4_parse_15 : decode cX4_parse 15 = .ok (.istore_n 1, 1) := by decide +kernel
theorem dX4_parse_16 : decode cX4_parse 16 = .ok (.iload_n 1, 1) := by decide +kernel
theorem dX4_parse_17 : decode cX4_parse 17 = .ok (.sipush 1500, 3) := by decide +kernel
theorem dX4_parse_20 : decode cX4_parse 20 = .ok (.if_icmp .ge 91, 3) := by decide +kernel
theorem dX4_parse_23 : decode cX4_parse 23 = .ok (.aload_n 0, 1) := by decide +kernel
theorem dX4_parse_24 : decode cX4_parse 24 = .ok (.getfield 19, 3) := by decide +kernel
theorem dX4_parse_27 : decode cX4_parse 27 = .ok (.ifCond .ge 84, 3) := by decide +kernel
theorem dX4_parse_30 : decode cX4_parse 30 = .ok (.iload_n 1, 1) := by decide +kernel
theorem dX4_parse_31 : decode cX4_parse 31 = .ok (.ifCond .eq 10, 3) := by decide +kernel
theorem dX4_parse_34 : decode cX4_parse 34 = .ok (.aload_n 0, 1) := by decide +kernel
theorem dX4_parse_35 : decode cX4_parse 35 = .ok (.getfield 29, 3) := by decide +kernel
theorem dX4_parse_38 : decode cX4_parse 38 = .ok (.ifCond .eq 73, 3) := by decide +kernel
theorem dX4_parse_41 : decode cX4_parse 41 = .ok (.aload_n 0, 1) := by decide +kernel
theorem dX4_parse_42 : decode cX4_parse 42 = .ok (.getfield 29, 3) := by decide +kernel
theorem dX4_parse_45 : decode cX4_parse 45 = .ok (.lookupswitch 56 #[(128, 35), (130, 42), (145, 49)], 35) := by decide +kernel
theorem dX4_parse_80 : decode cX4_parse 80 = .ok (.aload_n 0, 1) := by decide +kernel
theorem dX4_parse_81 : decode cX4_parse 81 = .ok (.invokevirtual 32, 3) := by decide +kernel
theorem dX4_parse_84 : decode cX4_parse 84 = .ok (.goto 21, 3) := by decide +kernel
theorem dX4_parse_87 : decode cX4_parse 87 = .ok (.aload_n 0, 1) := by decide +kernel
theorem dX4_parse_88 : decode cX4_parse 88 = .ok (.invokevirtual 35, 3) := by decide +kernel
theorem dX4_parse_91 : decode cX4_parse 91 = .ok (.goto 14, 3) := by decide +kernel
theorem dX4_parse_94 : decode cX4_parse 94 = .ok (.aload_n 0, 1) := by decide +kernel
theorem dX4_parse_95 : decode cX4_parse 95 = .ok (.invokevirtual 38, 3) := by decide +kernel
theorem dX4_parse_98 : decode cX4_parse 98 = .ok (.goto 7, 3) := by decide +kernel
theorem dX4_parse_101 : decode cX4_parse 101 = .ok (.aload_n 0, 1) := by decide +kernel
theorem dX4_parse_102 : decode cX4_parse 102 = .ok (.invokevirtual 41, 3) := by decide +kernel
theorem dX4_parse_105 : decode cX4_parse 105 = .ok (.iinc 1 1, 3) := by decide +kernel
theorem dX4_parse_108 : decode cX4_parse 108 = .ok (.goto (-92), 3) := by decide +kernel
theorem dX4_parse_111 : decode cX4_parse 111 = .ok (.aload_n 0, 1) := by decide +kernel
theorem dX4_parse_112 : decode cX4_parse 112 = .ok (.getfield 19, 3) := by decide +kernel
theorem dX4_parse_115 : decode cX4_parse 115 = .ok (.ireturn, 1) := by decide +kernel
theorem dX4_source_0 : decode cX4_source 0 = .ok (.aload_n 0, 1) := by decide +kernel
theorem dX4_source_1 : decode cX4_source 1 = .ok (.getfield 15, 3) := by decide +kernel
theorem dX4_source_4 : decode cX4_source 4 = .ok (.aload_n 0, 1) := by decide +kernel
theorem dX4_source_5 : decode cX4_source 5 = .ok (.getfield 44, 3) := by decide +kernel
theorem dX4_source_8 : decode cX4_source 8 = .ok (.invokevirtual 47, 3) := by decide +kernel
theorem dX4_source_11 : decode cX4_source 11 = .ok (.aload_n 0, 1) := by decide +kernel
theorem dX4_source_12 : decode cX4_source 12 = .ok (.getfield 15, 3) := by decide +kernel
theorem dX4_source_15 : decode cX4_source 15 = .ok (.iconst 0, 1) := by decide +kernel
theorem dX4_source_16 : decode cX4_source 16 = .ok (.aload_n 0, 1) := by decide +kernel
theorem dX4_source_17 : decode cX4_source 17 = .ok (.getfield 44, 3) := by decide +kernel
theorem dX4_source_20 : decode cX4_source 20 = .ok (.invokevirtual 53, 3) := by decide +kernel
theorem dX4_source_23 : decode cX4_source 23 = .ok (.aload_n 0, 1) := by decide +kernel
theorem dX4_source_24 : decode cX4_source 24 = .ok (.sipush 128, 3) := by decide +kernel
theorem dX4_source_27 : decode cX4_source 27 = .ok (.invokevirtual 57, 3) := by decide +kernel
theorem dX4_source_30 : decode cX4_source 30 = .ok (.aload_n 0, 1) := by decide +kernel
theorem dX4_source_31 : decode cX4_source 31 = .ok (.iconst 0, 1) := by decide +kernel
theorem dX4_source_32 : decode cX4_source 32 = .ok (.invokevirtual 60, 3) := by decide +kernel
theorem dX4_source_35 : decode cX4_source 35 = .ok (.aload_n 0, 1) := by decide +kernel
theorem dX4_source_36 : decode cX4_source 36 = .ok (.iconst 1, 1) := by decide +kernel
theorem dX4_source_37 : decode cX4_source 37 = .ok (.invokevirtual 63, 3) := by decide +kernel
theorem dX4_source_40 : decode cX4_source 40 = .ok (.aload_n 0, 1) := by decide +kernel
theorem dX4_source_41 : decode cX4_source 41 = .ok (.getfield 29, 3) := by decide +kernel
theorem dX4_source_44 : decode cX4_source 44 = .ok (.sipush 129, 3) := by decide +kernel
theorem dX4_source_47 : decode cX4_source 47 = .ok (.if_icmp .ne 10, 3) := by decide +kernel
theorem dX4_source_50 : decode cX4_source 50 = .ok (.aload_n 0, 1) := by decide +kernel
theorem dX4_source_51 : decode cX4_source 51 = .ok (.sipush 129, 3) := by decide +kernel
theorem dX4_source_54 : decode cX4_source 54 = .ok (.invokevirtual 66, 3) := by decide +kernel
theorem dX4_source_57 : decode cX4_source 57 = .ok (.aload_n 0, 1) := by decide +kernel
theorem dX4_source_58 : decode cX4_source 58 = .ok (.getfield 15, 3) := by decide +kernel
theorem dX4_source_61 : decode cX4_source 61 = .ok (.invokevirtual 69, 3) := by decide +kernel
theorem dX4_source_64 : decode cX4_source 64 = .ok (.return_, 1) := by decide +kernel
theorem dX4_check_0 : decode cX4_check 0 = .ok (.aload_n 0, 1) := by decide +kernel
theorem dX4_check_1 : decode cX4_check 1 = .ok (.getfield 15, 3) := by decide +kernel
theorem dX4_check_4 : decode cX4_check 4 = .ok (.aload_n 0, 1) := by decide +kernel
theorem dX4_check_5 : decode cX4_check 5 = .ok (.getfield 44, 3) := by decide +kernel
theorem dX4_check_8 : decode cX4_check 8 = .ok (.invokevirtual 72, 3) := by decide +kernel
theorem dX4_check_11 : decode cX4_check 11 = .ok (.aload_n 0, 1) := by decide +kernel
theorem dX4_check_12 : decode cX4_check 12 = .ok (.sipush 145, 3) := by decide +kernel
theorem dX4_check_15 : decode cX4_check 15 = .ok (.invokevirtual 57, 3) := by decide +kernel
theorem dX4_check_18 : decode cX4_check 18 = .ok (.aload_n 0, 1) := by decide +kernel
theorem dX4_check_19 : decode cX4_check 19 = .ok (.iconst 2, 1) := by decide +kernel
theorem dX4_check_20 : decode cX4_check 20 = .ok (.invokevirtual 60, 3) := by decide +kernel
theorem dX4_check_23 : decode cX4_check 23 = .ok (.aload_n 0, 1) := by decide +kernel
theorem dX4_check_24 : decode cX4_check 24 = .ok (.bipush 58, 2) := by decide +kernel
theorem dX4_check_26 : decode cX4_check 26 = .ok (.invokevirtual 57, 3) := by decide +kernel
theorem dX4_check_29 : decode cX4_check 29 = .ok (.aload_n 0, 1) := by decide +kernel
theorem dX4_check_30 : decode cX4_check 30 = .ok (.invokevirtual 75, 3) := by decide +kernel
theorem dX4_check_33 : decode cX4_check 33 = .ok (.aload_n 0, 1) := by decide +kernel
theorem dX4_check_34 : decode cX4_check 34 = .ok (.sipush 146, 3) := by decide +kernel
theorem dX4_check_37 : decode cX4_check 37 = .ok (.invokevirtual 57, 3) := by decide +kernel
theorem dX4_check_40 : decode cX4_check 40 = .ok (.aload_n 0, 1) := by decide +kernel
theorem dX4_check_41 : decode cX4_check 41 = .ok (.getfield 29, 3) := by decide +kernel
theorem dX4_check_44 : decode cX4_check 44 = .ok (.istore_n 1, 1) := by decide +kernel
theorem dX4_check_45 : decode cX4_check 45 = .ok (.iload_n 1, 1) := by decide +kernel
theorem dX4_check_46 : decode cX4_check 46 = .ok (.sipush 147, 3) := by decide +kernel
theorem dX4_check_49 : decode cX4_check 49 = .ok (.if_icmp .eq 17, 3) := by decide +kernel
theorem dX4_check_52 : decode cX4_check 52 = .ok (.iload_n 1, 1) := by decide +kernel
theorem dX4_check_53 : decode cX4_check 53 = .ok (.sipush 148, 3) := by decide +kernel
theorem dX4_check_56 : decode cX4_check 56 = .ok (.if_icmp .eq 10, 3) := by decide +kernel
theorem dX4_check_59 : decode cX4_check 59 = .ok (.iload_n 1, 1) := by decide +kernel
theorem dX4_check_60 : decode cX4_check 60 = .ok (.sipush 149, 3) := by decide +kernel
theorem dX4_check_63 : decode cX4_check 63 = .ok (.if_icmp .ne 19, 3) := by decide +kernel
theorem dX4_check_66 : decode cX4_check 66 = .ok (.aload_n 0, 1) := by decide +kernel
theorem dX4_check_67 : decode cX4_check 67 = .ok (.iload_n 1, 1) := by decide +kernel
theorem dX4_check_68 : decode cX4_check 68 = .ok (.invokevirtual 57, 3) := by decide +kernel
theorem dX4_check_71 : decode cX4_check 71 = .ok (.aload_n 0, 1) := by decide +kernel
theorem dX4_check_72 : decode cX4_check 72 = .ok (.getfield 15, 3) := by decide +kernel
theorem dX4_check_75 : decode cX4_check 75 = .ok (.iload_n 1, 1) := by decide +kernel
theorem dX4_check_76 : decode cX4_check 76 = .ok (.invokevirtual 78, 3) := by decide +kernel
theorem dX4_check_79 : decode cX4_check 79 = .ok (.goto 7, 3) := by decide +kernel
theorem dX4_check_82 : decode cX4_check 82 = .ok (.aload_n 0, 1) := by decide +kernel
theorem dX4_check_83 : decode cX4_check 83 = .ok (.invokevirtual 41, 3) := by decide +kernel
theorem dX4_check_86 : decode cX4_check 86 = .ok (.return_, 1) := by decide +kernel
theorem dX4_step_0 : decode cX4_step 0 = .ok (.aload_n 0, 1) := by decide +kernel
theorem dX4_step_1 : decode cX4_step 1 = .ok (.getfield 15, 3) := by decide +kernel
theorem dX4_step_4 : decode cX4_step 4 = .ok (.aload_n 0, 1) := by decide +kernel
theorem dX4_step_5 : decode cX4_step 5 = .ok (.getfield 44, 3) := by decide +kernel
theorem dX4_step_8 : decode cX4_step 8 = .ok (.invokevirtual 47, 3) := by decide +kernel
theorem dX4_step_11 : decode cX4_step 11 = .ok (.aload_n 0, 1) := by decide +kernel
theorem dX4_step_12 : decode cX4_step 12 = .ok (.sipush 130, 3) := by decide +kernel
theorem dX4_step_15 : decode cX4_step 15 = .ok (.invokevirtual 57, 3) := by decide +kernel
theorem dX4_step_18 : decode cX4_step 18 = .ok (.aload_n 0, 1) := by decide +kernel
theorem dX4_step_19 : decode cX4_step 19 = .ok (.iconst 0, 1) := by decide +kernel
theorem dX4_step_20 : decode cX4_step 20 = .ok (.invokevirtual 60, 3) := by decide +kernel
theorem dX4_step_23 : decode cX4_step 23 = .ok (.aload_n 0, 1) := by decide +kernel
theorem dX4_step_24 : decode cX4_step 24 = .ok (.bipush 61, 2) := by decide +kernel
theorem dX4_step_26 : decode cX4_step 26 = .ok (.invokevirtual 57, 3) := by decide +kernel
theorem dX4_step_29 : decode cX4_step 29 = .ok (.aload_n 0, 1) := by decide +kernel
theorem dX4_step_30 : decode cX4_step 30 = .ok (.getfield 29, 3) := by decide +kernel
theorem dX4_step_33 : decode cX4_step 33 = .ok (.istore_n 1, 1) := by decide +kernel
theorem dX4_step_34 : decode cX4_step 34 = .ok (.iload_n 1, 1) := by decide +kernel
theorem dX4_step_35 : decode cX4_step 35 = .ok (.invokestatic 81, 3) := by decide +kernel
theorem dX4_step_38 : decode cX4_step 38 = .ok (.ifCond .ne 7, 3) := by decide +kernel
theorem dX4_step_41 : decode cX4_step 41 = .ok (.aload_n 0, 1) := by decide +kernel
theorem dX4_step_42 : decode cX4_step 42 = .ok (.invokevirtual 41, 3) := by decide +kernel
theorem dX4_step_45 : decode cX4_step 45 = .ok (.aload_n 0, 1) := by decide +kernel
theorem dX4_step_46 : decode cX4_step 46 = .ok (.getfield 15, 3) := by decide +kernel
theorem dX4_step_49 : decode cX4_step 49 = .ok (.iload_n 1, 1) := by decide +kernel
theorem dX4_step_50 : decode cX4_step 50 = .ok (.invokestatic 81, 3) := by decide +kernel
theorem dX4_step_53 : decode cX4_step 53 = .ok (.aload_n 0, 1) := by decide +kernel
theorem dX4_step_54 : decode cX4_step 54 = .ok (.getfield 44, 3) := by decide +kernel
theorem dX4_step_57 : decode cX4_step 57 = .ok (.invokevirtual 53, 3) := by decide +kernel
theorem dX4_step_60 : decode cX4_step 60 = .ok (.aload_n 0, 1) := by decide +kernel
theorem dX4_step_61 : decode cX4_step 61 = .ok (.iload_n 1, 1) := by decide +kernel
theorem dX4_step_62 : decode cX4_step 62 = .ok (.invokevirtual 57, 3) := by decide +kernel
theorem dX4_step_65 : decode cX4_step 65 = .ok (.aload_n 0, 1) := by decide +kernel
theorem dX4_step_66 : decode cX4_step 66 = .ok (.iconst 2, 1) := by decide +kernel
theorem dX4_step_67 : decode cX4_step 67 = .ok (.invokevirtual 60, 3) := by decide +kernel
theorem dX4_step_70 : decode cX4_step 70 = .ok (.iload_n 1, 1) := by decide +kernel
theorem dX4_step_71 : decode cX4_step 71 = .ok (.tableswitch 152 131 142 #[61, 152, 75, 152, 82, 90, 97, 152, 152, 123, 152, 145], 61) := by decide +kernel
theorem dX4_step_132 : decode cX4_step 132 = .ok (.aload_n 0, 1) := by decide +kernel
theorem dX4_step_133 : decode cX4_step 133 = .ok (.sipush 132, 3) := by decide +kernel
theorem dX4_step_136 : decode cX4_step 136 = .ok (.invokevirtual 57, 3) := by decide +kernel
theorem dX4_step_139 : decode cX4_step 139 = .ok (.aload_n 0, 1) := by decide +kernel
theorem dX4_step_140 : decode cX4_step 140 = .ok (.invokevirtual 75, 3) := by decide +kernel
theorem dX4_step_143 : decode cX4_step 143 = .ok (.goto 80, 3) := by decide +kernel
theorem dX4_step_146 : decode cX4_step 146 = .ok (.aload_n 0, 1) := by decide +kernel
theorem dX4_step_147 : decode cX4_step 147 = .ok (.invokevirtual 85, 3) := by decide +kernel
theorem dX4_step_150 : decode cX4_step 150 = .ok (.goto 73, 3) := by decide +kernel
theorem dX4_step_153 : decode cX4_step 153 = .ok (.aload_n 0, 1) := by decide +kernel
theorem dX4_step_154 : decode cX4_step 154 = .ok (.iconst 5, 1) := by decide +kernel
theorem dX4_step_155 : decode cX4_step 155 = .ok (.invokevirtual 63, 3) := by decide +kernel
theorem dX4_step_158 : decode cX4_step 158 = .ok (.goto 65, 3) := by decide +kernel
theorem dX4_step_161 : decode cX4_step 161 = .ok (.aload_n 0, 1) := by decide +kernel
theorem dX4_step_162 : decode cX4_step 162 = .ok (.invokevirtual 88, 3) := by decide +kernel
theorem dX4_step_165 : decode cX4_step 165 = .ok (.goto 58, 3) := by decide +kernel
theorem dX4_step_168 : decode cX4_step 168 = .ok (.aload_n 0, 1) := by decide +kernel
theorem dX4_step_169 : decode cX4_step 169 = .ok (.invokevirtual 88, 3) := by decide +kernel
theorem dX4_step_172 : decode cX4_step 172 = .ok (.aload_n 0, 1) := by decide +kernel
theorem dX4_step_173 : decode cX4_step 173 = .ok (.sipush 138, 3) := by decide +kernel
theorem dX4_step_176 : decode cX4_step 176 = .ok (.invokevirtual 57, 3) := by decide +kernel
theorem dX4_step_179 : decode cX4_step 179 = .ok (.aload_n 0, 1) := by decide +kernel
theorem dX4_step_180 : decode cX4_step 180 = .ok (.iconst 4, 1) := by decide +kernel
theorem dX4_step_181 : decode cX4_step 181 = .ok (.invokevirtual 60, 3) := by decide +kernel
theorem dX4_step_184 : decode cX4_step 184 = .ok (.aload_n 0, 1) := by decide +kernel
theorem dX4_step_185 : decode cX4_step 185 = .ok (.sipush 139, 3) := by decide +kernel
theorem dX4_step_188 : decode cX4_step 188 = .ok (.invokevirtual 66, 3) := by decide +kernel
theorem dX4_step_191 : decode cX4_step 191 = .ok (.goto 32, 3) := by decide +kernel
theorem dX4_step_194 : decode cX4_step 194 = .ok (.aload_n 0, 1) := by decide +kernel
theorem dX4_step_195 : decode cX4_step 195 = .ok (.sipush 141, 3) := by decide +kernel
theorem dX4_step_198 : decode cX4_step 198 = .ok (.invokevirtual 57, 3) := by decide +kernel
theorem dX4_step_201 : decode cX4_step 201 = .ok (.aload_n 0, 1) := by decide +kernel
theorem dX4_step_202 : decode cX4_step 202 = .ok (.iconst 4, 1) := by decide +kernel
theorem dX4_step_203 : decode cX4_step 203 = .ok (.invokevirtual 60, 3) := by decide +kernel
theorem dX4_step_206 : decode cX4_step 206 = .ok (.aload_n 0, 1) := by decide +kernel
theorem dX4_step_207 : decode cX4_step 207 = .ok (.sipush 139, 3) := by decide +kernel
theorem dX4_step_210 : decode cX4_step 210 = .ok (.invokevirtual 66, 3) := by decide +kernel
theorem dX4_step_213 : decode cX4_step 213 = .ok (.goto 10, 3) := by decide +kernel
theorem dX4_step_216 : decode cX4_step 216 = .ok (.aload_n 0, 1) := by decide +kernel
theorem dX4_step_217 : decode cX4_step 217 = .ok (.invokevirtual 91, 3) := by decide +kernel
theorem dX4_step_220 : decode cX4_step 220 = .ok (.goto 3, 3) := by decide +kernel
theorem dX4_step_223 : decode cX4_step 223 = .ok (.aload_n 0, 1) := by decide +kernel
theorem dX4_step_224 : decode cX4_step 224 = .ok (.getfield 15, 3) := by decide +kernel
theorem dX4_step_227 : decode cX4_step 227 = .ok (.invokevirtual 69, 3) := by decide +kernel
theorem dX4_step_230 : decode cX4_step 230 = .ok (.return_, 1) := by decide +kernel
theorem dX4_kindOfWork_0 : decode cX4_kindOfWork 0 = .ok (.iload_n 0, 1) := by decide +kernel
theorem dX4_kindOfWork_1 : decode cX4_kindOfWork 1 = .ok (.tableswitch 79 131 142 #[63, 79, 65, 79, 67, 69, 71, 79, 79, 73, 79, 76], 63) := by decide +kernel
theorem dX4_kindOfWork_64 : decode cX4_kindOfWork 64 = .ok (.iconst 1, 1) := by decide +kernel
theorem dX4_kindOfWork_65 : decode cX4_kindOfWork 65 = .ok (.ireturn, 1) := by decide +kernel
theorem dX4_kindOfWork_66 : decode cX4_kindOfWork 66 = .ok (.iconst 2, 1) := by decide +kernel
theorem dX4_kindOfWork_67 : decode cX4_kindOfWork 67 = .ok (.ireturn, 1) := by decide +kernel
theorem dX4_kindOfWork_68 : decode cX4_kindOfWork 68 = .ok (.iconst 3, 1) := by decide +kernel
theorem dX4_kindOfWork_69 : decode cX4_kindOfWork 69 = .ok (.ireturn, 1) := by decide +kernel
theorem dX4_kindOfWork_70 : decode cX4_kindOfWork 70 = .ok (.iconst 4, 1) := by decide +kernel
theorem dX4_kindOfWork_71 : decode cX4_kindOfWork 71 = .ok (.ireturn, 1) := by decide +kernel
theorem dX4_kindOfWork_72 : decode cX4_kindOfWork 72 = .ok (.iconst 5, 1) := by decide +kernel
theorem dX4_kindOfWork_73 : decode cX4_kindOfWork 73 = .ok (.ireturn, 1) := by decide +kernel
theorem dX4_kindOfWork_74 : decode cX4_kindOfWork 74 = .ok (.bipush 6, 2) := by decide +kernel
theorem dX4_kindOfWork_76 : decode cX4_kindOfWork 76 = .ok (.ireturn, 1) := by decide +kernel
theorem dX4_kindOfWork_77 : decode cX4_kindOfWork 77 = .ok (.bipush 7, 2) := by decide +kernel
theorem dX4_kindOfWork_79 : decode cX4_kindOfWork 79 = .ok (.ireturn, 1) := by decide +kernel
theorem dX4_kindOfWork_80 : decode cX4_kindOfWork 80 = .ok (.iconst 0, 1) := by decide +kernel
theorem dX4_kindOfWork_81 : decode cX4_kindOfWork 81 = .ok (.ireturn, 1) := by decide +kernel
theorem dX4_newColumns_0 : decode cX4_newColumns 0 = .ok (.aload_n 0, 1) := by decide +kernel
theorem dX4_newColumns_1 : decode cX4_newColumns 1 = .ok (.sipush 134, 3) := by decide +kernel
theorem dX4_newColumns_4 : decode cX4_newColumns 4 = .ok (.invokevirtual 57, 3) := by decide +kernel
theorem dX4_newColumns_7 : decode cX4_newColumns 7 = .ok (.iconst 0, 1) := by decide +kernel
theorem dX4_newColumns_8 : decode cX4_newColumns 8 = .ok (.istore_n 1, 1) := by decide +kernel
theorem dX4_newColumns_9 : decode cX4_newColumns 9 = .ok (.iload_n 1, 1) := by decide +kernel
theorem dX4_newColumns_10 : decode cX4_newColumns 10 = .ok (.sipush 1500, 3) := by decide +kernel
theorem dX4_newColumns_13 : decode cX4_newColumns 13 = .ok (.if_icmp .ge 42, 3) := by decide +kernel
theorem dX4_newColumns_16 : decode cX4_newColumns 16 = .ok (.iload_n 1, 1) := by decide +kernel
theorem dX4_newColumns_17 : decode cX4_newColumns 17 = .ok (.ifCond .eq 12, 3) := by decide +kernel
theorem dX4_newColumns_20 : decode cX4_newColumns 20 = .ok (.aload_n 0, 1) := by decide +kernel
theorem dX4_newColumns_21 : decode cX4_newColumns 21 = .ok (.getfield 29, 3) := by decide +kernel
theorem dX4_newColumns_24 : decode cX4_newColumns 24 = .ok (.bipush 44, 2) := by decide +kernel
theorem dX4_newColumns_26 : decode cX4_newColumns 26 = .ok (.if_icmp .ne 29, 3) := by decide +kernel
theorem dX4_newColumns_29 : decode cX4_newColumns 29 = .ok (.aload_n 0, 1) := by decide +kernel
theorem dX4_newColumns_30 : decode cX4_newColumns 30 = .ok (.iload_n 1, 1) := by decide +kernel
theorem dX4_newColumns_31 : decode cX4_newColumns 31 = .ok (.invokevirtual 94, 3) := by decide +kernel
theorem dX4_newColumns_34 : decode cX4_newColumns 34 = .ok (.aload_n 0, 1) := by decide +kernel
theorem dX4_newColumns_35 : decode cX4_newColumns 35 = .ok (.iconst 1, 1) := by decide +kernel
theorem dX4_newColumns_36 : decode cX4_newColumns 36 = .ok (.invokevirtual 60, 3) := by decide +kernel
theorem dX4_newColumns_39 : decode cX4_newColumns 39 = .ok (.aload_n 0, 1) := by decide +kernel
theorem dX4_newColumns_40 : decode cX4_newColumns 40 = .ok (.bipush 61, 2) := by decide +kernel
theorem dX4_newColumns_42 : decode cX4_newColumns 42 = .ok (.invokevirtual 57, 3) := by decide +kernel
theorem dX4_newColumns_45 : decode cX4_newColumns 45 = .ok (.aload_n 0, 1) := by decide +kernel
theorem dX4_newColumns_46 : decode cX4_newColumns 46 = .ok (.invokevirtual 75, 3) := by decide +kernel
theorem dX4_newColumns_49 : decode cX4_newColumns 49 = .ok (.iinc 1 1, 3) := by decide +kernel
theorem dX4_newColumns_52 : decode cX4_newColumns 52 = .ok (.goto (-43), 3) := by decide +kernel
theorem dX4_newColumns_55 : decode cX4_newColumns 55 = .ok (.return_, 1) := by decide +kernel
theorem dX4_secondInput_0 : decode cX4_secondInput 0 = .ok (.aload_n 0, 1) := by decide +kernel
theorem dX4_secondInput_1 : decode cX4_secondInput 1 = .ok (.bipush 44, 2) := by decide +kernel
theorem dX4_secondInput_3 : decode cX4_secondInput 3 = .ok (.invokevirtual 57, 3) := by decide +kernel
theorem dX4_secondInput_6 : decode cX4_secondInput 6 = .ok (.aload_n 0, 1) := by decide +kernel
theorem dX4_secondInput_7 : decode cX4_secondInput 7 = .ok (.iconst 3, 1) := by decide +kernel
theorem dX4_secondInput_8 : decode cX4_secondInput 8 = .ok (.invokevirtual 60, 3) := by decide +kernel
theorem dX4_secondInput_11 : decode cX4_secondInput 11 = .ok (.return_, 1) := by decide +kernel
theorem dX4_window_0 : decode cX4_window 0 = .ok (.aload_n 0, 1) := by decide +kernel
theorem dX4_window_1 : decode cX4_window 1 = .ok (.sipush 141, 3) := by decide +kernel
theorem dX4_window_4 : decode cX4_window 4 = .ok (.invokevirtual 57, 3) := by decide +kernel
theorem dX4_window_7 : decode cX4_window 7 = .ok (.aload_n 0, 1) := by decide +kernel
theorem dX4_window_8 : decode cX4_window 8 = .ok (.iconst 4, 1) := by decide +kernel
theorem dX4_window_9 : decode cX4_window 9 = .ok (.invokevirtual 60, 3) := by decide +kernel
theorem dX4_window_12 : decode cX4_window 12 = .ok (.aload_n 0, 1) := by decide +kernel
theorem dX4_window_13 : decode cX4_window 13 = .ok (.sipush 143, 3) := by decide +kernel
theorem dX4_window_16 : decode cX4_window 16 = .ok (.invokevirtual 66, 3) := by decide +kernel
theorem dX4_window_19 : decode cX4_window 19 = .ok (.aload_n 0, 1) := by decide +kernel
theorem dX4_window_20 : decode cX4_window 20 = .ok (.getfield 29, 3) := by decide +kernel
theorem dX4_window_23 : decode cX4_window 23 = .ok (.sipush 144, 3) := by decide +kernel
theorem dX4_window_26 : decode cX4_window 26 = .ok (.if_icmp .ne 10, 3) := by decide +kernel
theorem dX4_window_29 : decode cX4_window 29 = .ok (.aload_n 0, 1) := by decide +kernel
theorem dX4_window_30 : decode cX4_window 30 = .ok (.sipush 144, 3) := by decide +kernel
theorem dX4_window_33 : decode cX4_window 33 = .ok (.invokevirtual 66, 3) := by decide +kernel
theorem dX4_window_36 : decode cX4_window 36 = .ok (.aload_n 0, 1) := by decide +kernel
theorem dX4_window_37 : decode cX4_window 37 = .ok (.bipush 40, 2) := by decide +kernel
theorem dX4_window_39 : decode cX4_window 39 = .ok (.invokevirtual 57, 3) := by decide +kernel
theorem dX4_window_42 : decode cX4_window 42 = .ok (.iconst 0, 1) := by decide +kernel
theorem dX4_window_43 : decode cX4_window 43 = .ok (.istore_n 1, 1) := by decide +kernel
theorem dX4_window_44 : decode cX4_window 44 = .ok (.iload_n 1, 1) := by decide +kernel
theorem dX4_window_45 : decode cX4_window 45 = .ok (.sipush 1500, 3) := by decide +kernel
theorem dX4_window_48 : decode cX4_window 48 = .ok (.if_icmp .ge 52, 3) := by decide +kernel
theorem dX4_window_51 : decode cX4_window 51 = .ok (.iload_n 1, 1) := by decide +kernel
theorem dX4_window_52 : decode cX4_window 52 = .ok (.ifCond .eq 12, 3) := by decide +kernel
theorem dX4_window_55 : decode cX4_window 55 = .ok (.aload_n 0, 1) := by decide +kernel
theorem dX4_window_56 : decode cX4_window 56 = .ok (.getfield 29, 3) := by decide +kernel
theorem dX4_window_59 : decode cX4_window 59 = .ok (.bipush 44, 2) := by decide +kernel
theorem dX4_window_61 : decode cX4_window 61 = .ok (.if_icmp .ne 39, 3) := by decide +kernel
theorem dX4_window_64 : decode cX4_window 64 = .ok (.aload_n 0, 1) := by decide +kernel
theorem dX4_window_65 : decode cX4_window 65 = .ok (.iload_n 1, 1) := by decide +kernel
theorem dX4_window_66 : decode cX4_window 66 = .ok (.invokevirtual 94, 3) := by decide +kernel
theorem dX4_window_69 : decode cX4_window 69 = .ok (.aload_n 0, 1) := by decide +kernel
theorem dX4_window_70 : decode cX4_window 70 = .ok (.iconst 1, 1) := by decide +kernel
theorem dX4_window_71 : decode cX4_window 71 = .ok (.invokevirtual 60, 3) := by decide +kernel
theorem dX4_window_74 : decode cX4_window 74 = .ok (.aload_n 0, 1) := by decide +kernel
theorem dX4_window_75 : decode cX4_window 75 = .ok (.bipush 61, 2) := by decide +kernel
theorem dX4_window_77 : decode cX4_window 77 = .ok (.invokevirtual 57, 3) := by decide +kernel
theorem dX4_window_80 : decode cX4_window 80 = .ok (.aload_n 0, 1) := by decide +kernel
theorem dX4_window_81 : decode cX4_window 81 = .ok (.invokevirtual 97, 3) := by decide +kernel
theorem dX4_window_84 : decode cX4_window 84 = .ok (.sipush 151, 3) := by decide +kernel
theorem dX4_window_87 : decode cX4_window 87 = .ok (.if_icmp .eq 7, 3) := by decide +kernel
theorem dX4_window_90 : decode cX4_window 90 = .ok (.aload_n 0, 1) := by decide +kernel
theorem dX4_window_91 : decode cX4_window 91 = .ok (.invokevirtual 75, 3) := by decide +kernel
theorem dX4_window_94 : decode cX4_window 94 = .ok (.iinc 1 1, 3) := by decide +kernel
theorem dX4_window_97 : decode cX4_window 97 = .ok (.goto (-53), 3) := by decide +kernel
theorem dX4_window_100 : decode cX4_window 100 = .ok (.aload_n 0, 1) := by decide +kernel
theorem dX4_window_101 : decode cX4_window 101 = .ok (.bipush 41, 2) := by decide +kernel
theorem dX4_window_103 : decode cX4_window 103 = .ok (.invokevirtual 57, 3) := by decide +kernel
theorem dX4_window_106 : decode cX4_window 106 = .ok (.return_, 1) := by decide +kernel
theorem dX4_takeTotal_0 : decode cX4_takeTotal 0 = .ok (.aload_n 0, 1) := by decide +kernel
theorem dX4_takeTotal_1 : decode cX4_takeTotal 1 = .ok (.getfield 29, 3) := by decide +kernel
theorem dX4_takeTotal_4 : decode cX4_takeTotal 4 = .ok (.istore_n 1, 1) := by decide +kernel
theorem dX4_takeTotal_5 : decode cX4_takeTotal 5 = .ok (.iload_n 1, 1) := by decide +kernel
theorem dX4_takeTotal_6 : decode cX4_takeTotal 6 = .ok (.sipush 151, 3) := by decide +kernel
theorem dX4_takeTotal_9 : decode cX4_takeTotal 9 = .ok (.if_icmp .eq 31, 3) := by decide +kernel
theorem dX4_takeTotal_12 : decode cX4_takeTotal 12 = .ok (.iload_n 1, 1) := by decide +kernel
theorem dX4_takeTotal_13 : decode cX4_takeTotal 13 = .ok (.sipush 150, 3) := by decide +kernel
theorem dX4_takeTotal_16 : decode cX4_takeTotal 16 = .ok (.if_icmp .eq 24, 3) := by decide +kernel
theorem dX4_takeTotal_19 : decode cX4_takeTotal 19 = .ok (.iload_n 1, 1) := by decide +kernel
theorem dX4_takeTotal_20 : decode cX4_takeTotal 20 = .ok (.sipush 152, 3) := by decide +kernel
theorem dX4_takeTotal_23 : decode cX4_takeTotal 23 = .ok (.if_icmp .eq 17, 3) := by decide +kernel
theorem dX4_takeTotal_26 : decode cX4_takeTotal 26 = .ok (.iload_n 1, 1) := by decide +kernel
theorem dX4_takeTotal_27 : decode cX4_takeTotal 27 = .ok (.sipush 153, 3) := by decide +kernel
theorem dX4_takeTotal_30 : decode cX4_takeTotal 30 = .ok (.if_icmp .eq 10, 3) := by decide +kernel
theorem dX4_takeTotal_33 : decode cX4_takeTotal 33 = .ok (.iload_n 1, 1) := by decide +kernel
theorem dX4_takeTotal_34 : decode cX4_takeTotal 34 = .ok (.sipush 154, 3) := by decide +kernel
theorem dX4_takeTotal_37 : decode cX4_takeTotal 37 = .ok (.if_icmp .ne 19, 3) := by decide +kernel
theorem dX4_takeTotal_40 : decode cX4_takeTotal 40 = .ok (.aload_n 0, 1) := by decide +kernel
theorem dX4_takeTotal_41 : decode cX4_takeTotal 41 = .ok (.getfield 15, 3) := by decide +kernel
theorem dX4_takeTotal_44 : decode cX4_takeTotal 44 = .ok (.iload_n 1, 1) := by decide +kernel
theorem dX4_takeTotal_45 : decode cX4_takeTotal 45 = .ok (.invokevirtual 101, 3) := by decide +kernel
theorem dX4_takeTotal_48 : decode cX4_takeTotal 48 = .ok (.aload_n 0, 1) := by decide +kernel
theorem dX4_takeTotal_49 : decode cX4_takeTotal 49 = .ok (.iload_n 1, 1) := by decide +kernel
theorem dX4_takeTotal_50 : decode cX4_takeTotal 50 = .ok (.invokevirtual 57, 3) := by decide +kernel
theorem dX4_takeTotal_53 : decode cX4_takeTotal 53 = .ok (.goto 7, 3) := by decide +kernel
theorem dX4_takeTotal_56 : decode cX4_takeTotal 56 = .ok (.aload_n 0, 1) := by decide +kernel
theorem dX4_takeTotal_57 : decode cX4_takeTotal 57 = .ok (.invokevirtual 41, 3) := by decide +kernel
theorem dX4_takeTotal_60 : decode cX4_takeTotal 60 = .ok (.iload_n 1, 1) := by decide +kernel
theorem dX4_takeTotal_61 : decode cX4_takeTotal 61 = .ok (.ireturn, 1) := by decide +kernel
theorem dX4_wholeExpression_0 : decode cX4_wholeExpression 0 = .ok (.aload_n 0, 1) := by decide +kernel
theorem dX4_wholeExpression_1 : decode cX4_wholeExpression 1 = .ok (.iconst 0, 1) := by decide +kernel
theorem dX4_wholeExpression_2 : decode cX4_wholeExpression 2 = .ok (.putfield 104, 3) := by decide +kernel
theorem dX4_wholeExpression_5 : decode cX4_wholeExpression 5 = .ok (.aload_n 0, 1) := by decide +kernel
theorem dX4_wholeExpression_6 : decode cX4_wholeExpression 6 = .ok (.getfield 15, 3) := by decide +kernel
theorem dX4_wholeExpression_9 : decode cX4_wholeExpression 9 = .ok (.invokevirtual 107, 3) := by decide +kernel
theorem dX4_wholeExpression_12 : decode cX4_wholeExpression 12 = .ok (.aload_n 0, 1) := by decide +kernel
theorem dX4_wholeExpression_13 : decode cX4_wholeExpression 13 = .ok (.iconst 0, 1) := by decide +kernel
theorem dX4_wholeExpression_14 : decode cX4_wholeExpression 14 = .ok (.invokevirtual 110, 3) := by decide +kernel
theorem dX4_wholeExpression_17 : decode cX4_wholeExpression 17 = .ok (.aload_n 0, 1) := by decide +kernel
theorem dX4_wholeExpression_18 : decode cX4_wholeExpression 18 = .ok (.getfield 15, 3) := by decide +kernel
theorem dX4_wholeExpression_21 : decode cX4_wholeExpression 21 = .ok (.invokevirtual 113, 3) := by decide +kernel
theorem dX4_wholeExpression_24 : decode cX4_wholeExpression 24 = .ok (.return_, 1) := by decide +kernel
theorem dX4_expression_0 : decode cX4_expression 0 = .ok (.aload_n 0, 1) := by decide +kernel
theorem dX4_expression_1 : decode cX4_expression 1 = .ok (.iload_n 1, 1) := by decide +kernel
theorem dX4_expression_2 : decode cX4_expression 2 = .ok (.invokevirtual 116, 3) := by decide +kernel
theorem dX4_expression_5 : decode cX4_expression 5 = .ok (.iconst 0, 1) := by decide +kernel
theorem dX4_expression_6 : decode cX4_expression 6 = .ok (.istore_n 2, 1) := by decide +kernel
theorem dX4_expression_7 : decode cX4_expression 7 = .ok (.iload_n 2, 1) := by decide +kernel
theorem dX4_expression_8 : decode cX4_expression 8 = .ok (.bipush 60, 2) := by decide +kernel
theorem dX4_expression_10 : decode cX4_expression 10 = .ok (.if_icmp .ge 44, 3) := by decide +kernel
theorem dX4_expression_13 : decode cX4_expression 13 = .ok (.aload_n 0, 1) := by decide +kernel
theorem dX4_expression_14 : decode cX4_expression 14 = .ok (.getfield 29, 3) := by decide +kernel
theorem dX4_expression_17 : decode cX4_expression 17 = .ok (.sipush 157, 3) := by decide +kernel
theorem dX4_expression_20 : decode cX4_expression 20 = .ok (.if_icmp .ne 34, 3) := by decide +kernel
theorem dX4_expression_23 : decode cX4_expression 23 = .ok (.aload_n 0, 1) := by decide +kernel
theorem dX4_expression_24 : decode cX4_expression 24 = .ok (.sipush 157, 3) := by decide +kernel
theorem dX4_expression_27 : decode cX4_expression 27 = .ok (.iload_n 1, 1) := by decide +kernel
theorem dX4_expression_28 : decode cX4_expression 28 = .ok (.invokevirtual 119, 3) := by decide +kernel
theorem dX4_expression_31 : decode cX4_expression 31 = .ok (.pop, 1) := by decide +kernel
theorem dX4_expression_32 : decode cX4_expression 32 = .ok (.aload_n 0, 1) := by decide +kernel
theorem dX4_expression_33 : decode cX4_expression 33 = .ok (.iload_n 1, 1) := by decide +kernel
theorem dX4_expression_34 : decode cX4_expression 34 = .ok (.invokevirtual 116, 3) := by decide +kernel
theorem dX4_expression_37 : decode cX4_expression 37 = .ok (.aload_n 0, 1) := by decide +kernel
theorem dX4_expression_38 : decode cX4_expression 38 = .ok (.getfield 15, 3) := by decide +kernel
theorem dX4_expression_41 : decode cX4_expression 41 = .ok (.sipush 157, 3) := by decide +kernel
theorem dX4_expression_44 : decode cX4_expression 44 = .ok (.lconst 0, 1) := by decide +kernel
theorem dX4_expression_45 : decode cX4_expression 45 = .ok (.invokevirtual 123, 3) := by decide +kernel
theorem dX4_expression_48 : decode cX4_expression 48 = .ok (.iinc 2 1, 3) := by decide +kernel
theorem dX4_expression_51 : decode cX4_expression 51 = .ok (.goto (-44), 3) := by decide +kernel
theorem dX4_expression_54 : decode cX4_expression 54 = .ok (.return_, 1) := by decide +kernel
theorem dX4_both_0 : decode cX4_both 0 = .ok (.aload_n 0, 1) := by decide +kernel
theorem dX4_both_1 : decode cX4_both 1 = .ok (.iload_n 1, 1) := by decide +kernel
theorem dX4_both_2 : decode cX4_both 2 = .ok (.invokevirtual 127, 3) := by decide +kernel
theorem dX4_both_5 : decode cX4_both 5 = .ok (.iconst 0, 1) := by decide +kernel
theorem dX4_both_6 : decode cX4_both 6 = .ok (.istore_n 2, 1) := by decide +kernel
theorem dX4_both_7 : decode cX4_both 7 = .ok (.iload_n 2, 1) := by decide +kernel
theorem dX4_both_8 : decode cX4_both 8 = .ok (.bipush 60, 2) := by decide +kernel
theorem dX4_both_10 : decode cX4_both 10 = .ok (.if_icmp .ge 44, 3) := by decide +kernel
theorem dX4_both_13 : decode cX4_both 13 = .ok (.aload_n 0, 1) := by decide +kernel
theorem dX4_both_14 : decode cX4_both 14 = .ok (.getfield 29, 3) := by decide +kernel
theorem dX4_both_17 : decode cX4_both 17 = .ok (.sipush 156, 3) := by decide +kernel
theorem dX4_both_20 : decode cX4_both 20 = .ok (.if_icmp .ne 34, 3) := by decide +kernel
theorem dX4_both_23 : decode cX4_both 23 = .ok (.aload_n 0, 1) := by decide +kernel
theorem dX4_both_24 : decode cX4_both 24 = .ok (.sipush 156, 3) := by decide +kernel
theorem dX4_both_27 : decode cX4_both 27 = .ok (.iload_n 1, 1) := by decide +kernel
theorem dX4_both_28 : decode cX4_both 28 = .ok (.invokevirtual 119, 3) := by decide +kernel
theorem dX4_both_31 : decode cX4_both 31 = .ok (.pop, 1) := by decide +kernel
theorem dX4_both_32 : decode cX4_both 32 = .ok (.aload_n 0, 1) := by decide +kernel
theorem dX4_both_33 : decode cX4_both 33 = .ok (.iload_n 1, 1) := by decide +kernel
theorem dX4_both_34 : decode cX4_both 34 = .ok (.invokevirtual 127, 3) := by decide +kernel
theorem dX4_both_37 : decode cX4_both 37 = .ok (.aload_n 0, 1) := by decide +kernel
theorem dX4_both_38 : decode cX4_both 38 = .ok (.getfield 15, 3) := by decide +kernel
theorem dX4_both_41 : decode cX4_both 41 = .ok (.sipush 156, 3) := by decide +kernel
theorem dX4_both_44 : decode cX4_both 44 = .ok (.lconst 0, 1) := by decide +kernel
theorem dX4_both_45 : decode cX4_both 45 = .ok (.invokevirtual 123, 3) := by decide +kernel
theorem dX4_both_48 : decode cX4_both 48 = .ok (.iinc 2 1, 3) := by decide +kernel
theorem dX4_both_51 : decode cX4_both 51 = .ok (.goto (-44), 3) := by decide +kernel
theorem dX4_both_54 : decode cX4_both 54 = .ok (.return_, 1) := by decide +kernel
theorem dX4_relation_0 : decode cX4_relation 0 = .ok (.aload_n 0, 1) := by decide +kernel
theorem dX4_relation_1 : decode cX4_relation 1 = .ok (.iload_n 1, 1) := by decide +kernel
theorem dX4_relation_2 : decode cX4_relation 2 = .ok (.invokevirtual 130, 3) := by decide +kernel
theorem dX4_relation_5 : decode cX4_relation 5 = .ok (.aload_n 0, 1) := by decide +kernel
theorem dX4_relation_6 : decode cX4_relation 6 = .ok (.getfield 29, 3) := by decide +kernel
theorem dX4_relation_9 : decode cX4_relation 9 = .ok (.istore_n 2, 1) := by decide +kernel
theorem dX4_relation_10 : decode cX4_relation 10 = .ok (.iload_n 2, 1) := by decide +kernel
theorem dX4_relation_11 : decode cX4_relation 11 = .ok (.bipush 61, 2) := by decide +kernel
theorem dX4_relation_13 : decode cX4_relation 13 = .ok (.if_icmp .eq 36, 3) := by decide +kernel
theorem dX4_relation_16 : decode cX4_relation 16 = .ok (.iload_n 2, 1) := by decide +kernel
theorem dX4_relation_17 : decode cX4_relation 17 = .ok (.bipush 60, 2) := by decide +kernel
theorem dX4_relation_19 : decode cX4_relation 19 = .ok (.if_icmp .eq 30, 3) := by decide +kernel
theorem dX4_relation_22 : decode cX4_relation 22 = .ok (.iload_n 2, 1) := by decide +kernel
theorem dX4_relation_23 : decode cX4_relation 23 = .ok (.bipush 62, 2) := by decide +kernel
theorem dX4_relation_25 : decode cX4_relation 25 = .ok (.if_icmp .eq 24, 3) := by decide +kernel
theorem dX4_relation_28 : decode cX4_relation 28 = .ok (.iload_n 2, 1) := by decide +kernel
theorem dX4_relation_29 : decode cX4_relation 29 = .ok (.sipush 15422, 3) := by decide +kernel
theorem dX4_relation_32 : decode cX4_relation 32 = .ok (.if_icmp .eq 17, 3) := by decide +kernel
theorem dX4_relation_35 : decode cX4_relation 35 = .ok (.iload_n 2, 1) := by decide +kernel
theorem dX4_relation_36 : decode cX4_relation 36 = .ok (.sipush 15421, 3) := by decide +kernel
theorem dX4_relation_39 : decode cX4_relation 39 = .ok (.if_icmp .eq 10, 3) := by decide +kernel
theorem dX4_relation_42 : decode cX4_relation 42 = .ok (.iload_n 2, 1) := by decide +kernel
theorem dX4_relation_43 : decode cX4_relation 43 = .ok (.sipush 15933, 3) := by decide +kernel
theorem dX4_relation_46 : decode cX4_relation 46 = .ok (.if_icmp .ne 24, 3) := by decide +kernel
theorem dX4_relation_49 : decode cX4_relation 49 = .ok (.aload_n 0, 1) := by decide +kernel
theorem dX4_relation_50 : decode cX4_relation 50 = .ok (.iload_n 2, 1) := by decide +kernel
theorem dX4_relation_51 : decode cX4_relation 51 = .ok (.iload_n 1, 1) := by decide +kernel
theorem dX4_relation_52 : decode cX4_relation 52 = .ok (.invokevirtual 119, 3) := by decide +kernel
theorem dX4_relation_55 : decode cX4_relation 55 = .ok (.pop, 1) := by decide +kernel
theorem dX4_relation_56 : decode cX4_relation 56 = .ok (.aload_n 0, 1) := by decide +kernel
theorem dX4_relation_57 : decode cX4_relation 57 = .ok (.iload_n 1, 1) := by decide +kernel
theorem dX4_relation_58 : decode cX4_relation 58 = .ok (.invokevirtual 130, 3) := by decide +kernel
theorem dX4_relation_61 : decode cX4_relation 61 = .ok (.aload_n 0, 1) := by decide +kernel
theorem dX4_relation_62 : decode cX4_relation 62 = .ok (.getfield 15, 3) := by decide +kernel
theorem dX4_relation_65 : decode cX4_relation 65 = .ok (.iload_n 2, 1) := by decide +kernel
theorem dX4_relation_66 : decode cX4_relation 66 = .ok (.lconst 0, 1) := by decide +kernel
theorem dX4_relation_67 : decode cX4_relation 67 = .ok (.invokevirtual 123, 3) := by decide +kernel
theorem dX4_relation_70 : decode cX4_relation 70 = .ok (.return_, 1) := by decide +kernel
theorem dX4_sum_0 : decode cX4_sum 0 = .ok (.aload_n 0, 1) := by decide +kernel
theorem dX4_sum_1 : decode cX4_sum 1 = .ok (.iload_n 1, 1) := by decide +kernel
theorem dX4_sum_2 : decode cX4_sum 2 = .ok (.invokevirtual 133, 3) := by decide +kernel
theorem dX4_sum_5 : decode cX4_sum 5 = .ok (.iconst 0, 1) := by decide +kernel
theorem dX4_sum_6 : decode cX4_sum 6 = .ok (.istore_n 2, 1) := by decide +kernel
theorem dX4_sum_7 : decode cX4_sum 7 = .ok (.iload_n 2, 1) := by decide +kernel
theorem dX4_sum_8 : decode cX4_sum 8 = .ok (.bipush 60, 2) := by decide +kernel
theorem dX4_sum_10 : decode cX4_sum 10 = .ok (.if_icmp .ge 53, 3) := by decide +kernel
theorem dX4_sum_13 : decode cX4_sum 13 = .ok (.aload_n 0, 1) := by decide +kernel
theorem dX4_sum_14 : decode cX4_sum 14 = .ok (.getfield 29, 3) := by decide +kernel
theorem dX4_sum_17 : decode cX4_sum 17 = .ok (.bipush 43, 2) := by decide +kernel
theorem dX4_sum_19 : decode cX4_sum 19 = .ok (.if_icmp .eq 12, 3) := by decide +kernel
theorem dX4_sum_22 : decode cX4_sum 22 = .ok (.aload_n 0, 1) := by decide +kernel
theorem dX4_sum_23 : decode cX4_sum 23 = .ok (.getfield 29, 3) := by decide +kernel
theorem dX4_sum_26 : decode cX4_sum 26 = .ok (.bipush 45, 2) := by decide +kernel
theorem dX4_sum_28 : decode cX4_sum 28 = .ok (.if_icmp .ne 35, 3) := by decide +kernel
theorem dX4_sum_31 : decode cX4_sum 31 = .ok (.aload_n 0, 1) := by decide +kernel
theorem dX4_sum_32 : decode cX4_sum 32 = .ok (.getfield 29, 3) := by decide +kernel
theorem dX4_sum_35 : decode cX4_sum 35 = .ok (.istore_n 3, 1) := by decide +kernel
theorem dX4_sum_36 : decode cX4_sum 36 = .ok (.aload_n 0, 1) := by decide +kernel
theorem dX4_sum_37 : decode cX4_sum 37 = .ok (.iload_n 3, 1) := by decide +kernel
theorem dX4_sum_38 : decode cX4_sum 38 = .ok (.iload_n 1, 1) := by decide +kernel
theorem dX4_sum_39 : decode cX4_sum 39 = .ok (.invokevirtual 119, 3) := by decide +kernel
theorem dX4_sum_42 : decode cX4_sum 42 = .ok (.pop, 1) := by decide +kernel
theorem dX4_sum_43 : decode cX4_sum 43 = .ok (.aload_n 0, 1) := by decide +kernel
theorem dX4_sum_44 : decode cX4_sum 44 = .ok (.iload_n 1, 1) := by decide +kernel
theorem dX4_sum_45 : decode cX4_sum 45 = .ok (.invokevirtual 133, 3) := by decide +kernel
theorem dX4_sum_48 : decode cX4_sum 48 = .ok (.aload_n 0, 1) := by decide +kernel
theorem dX4_sum_49 : decode cX4_sum 49 = .ok (.getfield 15, 3) := by decide +kernel
theorem dX4_sum_52 : decode cX4_sum 52 = .ok (.iload_n 3, 1) := by decide +kernel
theorem dX4_sum_53 : decode cX4_sum 53 = .ok (.lconst 0, 1) := by decide +kernel
theorem dX4_sum_54 : decode cX4_sum 54 = .ok (.invokevirtual 123, 3) := by decide +kernel
theorem dX4_sum_57 : decode cX4_sum 57 = .ok (.iinc 2 1, 3) := by decide +kernel
theorem dX4_sum_60 : decode cX4_sum 60 = .ok (.goto (-53), 3) := by decide +kernel
theorem dX4_sum_63 : decode cX4_sum 63 = .ok (.return_, 1) := by decide +kernel
theorem dX4_product_0 : decode cX4_product 0 = .ok (.aload_n 0, 1) := by decide +kernel
theorem dX4_product_1 : decode cX4_product 1 = .ok (.iload_n 1, 1) := by decide +kernel
theorem dX4_product_2 : decode cX4_product 2 = .ok (.invokevirtual 136, 3) := by decide +kernel
theorem dX4_product_5 : decode cX4_product 5 = .ok (.iconst 0, 1) := by decide +kernel
theorem dX4_product_6 : decode cX4_product 6 = .ok (.istore_n 2, 1) := by decide +kernel
theorem dX4_product_7 : decode cX4_product 7 = .ok (.iload_n 2, 1) := by decide +kernel
theorem dX4_product_8 : decode cX4_product 8 = .ok (.bipush 60, 2) := by decide +kernel
theorem dX4_product_10 : decode cX4_product 10 = .ok (.if_icmp .ge 62, 3) := by decide +kernel
theorem dX4_product_13 : decode cX4_product 13 = .ok (.aload_n 0, 1) := by decide +kernel
theorem dX4_product_14 : decode cX4_product 14 = .ok (.getfield 29, 3) := by decide +kernel
theorem dX4_product_17 : decode cX4_product 17 = .ok (.bipush 42, 2) := by decide +kernel
theorem dX4_product_19 : decode cX4_product 19 = .ok (.if_icmp .eq 21, 3) := by decide +kernel
theorem dX4_product_22 : decode cX4_product 22 = .ok (.aload_n 0, 1) := by decide +kernel
theorem dX4_product_23 : decode cX4_product 23 = .ok (.getfield 29, 3) := by decide +kernel
theorem dX4_product_26 : decode cX4_product 26 = .ok (.bipush 47, 2) := by decide +kernel
theorem dX4_product_28 : decode cX4_product 28 = .ok (.if_icmp .eq 12, 3) := by decide +kernel
theorem dX4_product_31 : decode cX4_product 31 = .ok (.aload_n 0, 1) := by decide +kernel
theorem dX4_product_32 : decode cX4_product 32 = .ok (.getfield 29, 3) := by decide +kernel
theorem dX4_product_35 : decode cX4_product 35 = .ok (.bipush 37, 2) := by decide +kernel
theorem dX4_product_37 : decode cX4_product 37 = .ok (.if_icmp .ne 35, 3) := by decide +kernel
theorem dX4_product_40 : decode cX4_product 40 = .ok (.aload_n 0, 1) := by decide +kernel
theorem dX4_product_41 : decode cX4_product 41 = .ok (.getfield 29, 3) := by decide +kernel
theorem dX4_product_44 : decode cX4_product 44 = .ok (.istore_n 3, 1) := by decide +kernel
theorem dX4_product_45 : decode cX4_product 45 = .ok (.aload_n 0, 1) := by decide +kernel
theorem dX4_product_46 : decode cX4_product 46 = .ok (.iload_n 3, 1) := by decide +kernel
theorem dX4_product_47 : decode cX4_product 47 = .ok (.iload_n 1, 1) := by decide +kernel
theorem dX4_product_48 : decode cX4_product 48 = .ok (.invokevirtual 119, 3) := by decide +kernel
theorem dX4_product_51 : decode cX4_product 51 = .ok (.pop, 1) := by decide +kernel
theorem dX4_product_52 : decode cX4_product 52 = .ok (.aload_n 0, 1) := by decide +kernel
theorem dX4_product_53 : decode cX4_product 53 = .ok (.iload_n 1, 1) := by decide +kernel
theorem dX4_product_54 : decode cX4_product 54 = .ok (.invokevirtual 136, 3) := by decide +kernel
theorem dX4_product_57 : decode cX4_product 57 = .ok (.aload_n 0, 1) := by decide +kernel
theorem dX4_product_58 : decode cX4_product 58 = .ok (.getfield 15, 3) := by decide +kernel
theorem dX4_product_61 : decode cX4_product 61 = .ok (.iload_n 3, 1) := by decide +kernel
theorem dX4_product_62 : decode cX4_product 62 = .ok (.lconst 0, 1) := by decide +kernel
theorem dX4_product_63 : decode cX4_product 63 = .ok (.invokevirtual 123, 3) := by decide +kernel
theorem dX4_product_66 : decode cX4_product 66 = .ok (.iinc 2 1, 3) := by decide +kernel
theorem dX4_product_69 : decode cX4_product 69 = .ok (.goto (-62), 3) := by decide +kernel
theorem dX4_product_72 : decode cX4_product 72 = .ok (.return_, 1) := by decide +kernel
theorem dX4_factor_0 : decode cX4_factor 0 = .ok (.aload_n 0, 1) := by decide +kernel
theorem dX4_factor_1 : decode cX4_factor 1 = .ok (.getfield 29, 3) := by decide +kernel
theorem dX4_factor_4 : decode cX4_factor 4 = .ok (.istore_n 2, 1) := by decide +kernel
theorem dX4_factor_5 : decode cX4_factor 5 = .ok (.iload_n 2, 1) := by decide +kernel
theorem dX4_factor_6 : decode cX4_factor 6 = .ok (.lookupswitch 212 #[(2, 104), (3, 82), (40, 129), (45, 159), (152, 203), (153, 203), (155, 82), (158, 159), (159, 203)], 82) := by decide +kernel
theorem dX4_factor_88 : decode cX4_factor 88 = .ok (.aload_n 0, 1) := by decide +kernel
theorem dX4_factor_89 : decode cX4_factor 89 = .ok (.getfield 15, 3) := by decide +kernel
theorem dX4_factor_92 : decode cX4_factor 92 = .ok (.iload_n 2, 1) := by decide +kernel
theorem dX4_factor_93 : decode cX4_factor 93 = .ok (.aload_n 0, 1) := by decide +kernel
theorem dX4_factor_94 : decode cX4_factor 94 = .ok (.getfield 139, 3) := by decide +kernel
theorem dX4_factor_97 : decode cX4_factor 97 = .ok (.invokevirtual 123, 3) := by decide +kernel
theorem dX4_factor_100 : decode cX4_factor 100 = .ok (.aload_n 0, 1) := by decide +kernel
theorem dX4_factor_101 : decode cX4_factor 101 = .ok (.iload_n 2, 1) := by decide +kernel
theorem dX4_factor_102 : decode cX4_factor 102 = .ok (.iload_n 1, 1) := by decide +kernel
theorem dX4_factor_103 : decode cX4_factor 103 = .ok (.invokevirtual 119, 3) := by decide +kernel
theorem dX4_factor_106 : decode cX4_factor 106 = .ok (.pop, 1) := by decide +kernel
theorem dX4_factor_107 : decode cX4_factor 107 = .ok (.goto 115, 3) := by decide +kernel
theorem dX4_factor_110 : decode cX4_factor 110 = .ok (.aload_n 0, 1) := by decide +kernel
theorem dX4_factor_111 : decode cX4_factor 111 = .ok (.getfield 15, 3) := by decide +kernel
theorem dX4_factor_114 : decode cX4_factor 114 = .ok (.aload_n 0, 1) := by decide +kernel
theorem dX4_factor_115 : decode cX4_factor 115 = .ok (.getfield 139, 3) := by decide +kernel
theorem dX4_factor_118 : decode cX4_factor 118 = .ok (.aload_n 0, 1) := by decide +kernel
theorem dX4_factor_119 : decode cX4_factor 119 = .ok (.getfield 44, 3) := by decide +kernel
theorem dX4_factor_122 : decode cX4_factor 122 = .ok (.invokevirtual 143, 3) := by decide +kernel
theorem dX4_factor_125 : decode cX4_factor 125 = .ok (.aload_n 0, 1) := by decide +kernel
theorem dX4_factor_126 : decode cX4_factor 126 = .ok (.iload_n 2, 1) := by decide +kernel
theorem dX4_factor_127 : decode cX4_factor 127 = .ok (.iload_n 1, 1) := by decide +kernel
theorem dX4_factor_128 : decode cX4_factor 128 = .ok (.invokevirtual 119, 3) := by decide +kernel
theorem dX4_factor_131 : decode cX4_factor 131 = .ok (.pop, 1) := by decide +kernel
theorem dX4_factor_132 : decode cX4_factor 132 = .ok (.goto 90, 3) := by decide +kernel
theorem dX4_factor_135 : decode cX4_factor 135 = .ok (.aload_n 0, 1) := by decide +kernel
theorem dX4_factor_136 : decode cX4_factor 136 = .ok (.bipush 40, 2) := by decide +kernel
theorem dX4_factor_138 : decode cX4_factor 138 = .ok (.iload_n 1, 1) := by decide +kernel
theorem dX4_factor_139 : decode cX4_factor 139 = .ok (.iconst 1, 1) := by decide +kernel
theorem dX4_factor_140 : decode cX4_factor 140 = .ok (.iadd, 1) := by decide +kernel
theorem dX4_factor_141 : decode cX4_factor 141 = .ok (.invokevirtual 119, 3) := by decide +kernel
theorem dX4_factor_144 : decode cX4_factor 144 = .ok (.ifCond .eq 78, 3) := by decide +kernel
theorem dX4_factor_147 : decode cX4_factor 147 = .ok (.aload_n 0, 1) := by decide +kernel
theorem dX4_factor_148 : decode cX4_factor 148 = .ok (.iload_n 1, 1) := by decide +kernel
theorem dX4_factor_149 : decode cX4_factor 149 = .ok (.iconst 1, 1) := by decide +kernel
theorem dX4_factor_150 : decode cX4_factor 150 = .ok (.iadd, 1) := by decide +kernel
theorem dX4_factor_151 : decode cX4_factor 151 = .ok (.invokevirtual 110, 3) := by decide +kernel
theorem dX4_factor_154 : decode cX4_factor 154 = .ok (.aload_n 0, 1) := by decide +kernel
theorem dX4_factor_155 : decode cX4_factor 155 = .ok (.bipush 41, 2) := by decide +kernel
theorem dX4_factor_157 : decode cX4_factor 157 = .ok (.iload_n 1, 1) := by decide +kernel
theorem dX4_factor_158 : decode cX4_factor 158 = .ok (.invokevirtual 119, 3) := by decide +kernel
theorem dX4_factor_161 : decode cX4_factor 161 = .ok (.pop, 1) := by decide +kernel
theorem dX4_factor_162 : decode cX4_factor 162 = .ok (.goto 60, 3) := by decide +kernel
theorem dX4_factor_165 : decode cX4_factor 165 = .ok (.aload_n 0, 1) := by decide +kernel
theorem dX4_factor_166 : decode cX4_factor 166 = .ok (.iload_n 2, 1) := by decide +kernel
theorem dX4_factor_167 : decode cX4_factor 167 = .ok (.iload_n 1, 1) := by decide +kernel
theorem dX4_factor_168 : decode cX4_factor 168 = .ok (.iconst 1, 1) := by decide +kernel
theorem dX4_factor_169 : decode cX4_factor 169 = .ok (.iadd, 1) := by decide +kernel
theorem dX4_factor_170 : decode cX4_factor 170 = .ok (.invokevirtual 119, 3) := by decide +kernel
theorem dX4_factor_173 : decode cX4_factor 173 = .ok (.ifCond .eq 49, 3) := by decide +kernel
theorem dX4_factor_176 : decode cX4_factor 176 = .ok (.aload_n 0, 1) := by decide +kernel
theorem dX4_factor_177 : decode cX4_factor 177 = .ok (.iload_n 1, 1) := by decide +kernel
theorem dX4_factor_178 : decode cX4_factor 178 = .ok (.iconst 1, 1) := by decide +kernel
theorem dX4_factor_179 : decode cX4_factor 179 = .ok (.iadd, 1) := by decide +kernel
theorem dX4_factor_180 : decode cX4_factor 180 = .ok (.invokevirtual 136, 3) := by decide +kernel
theorem dX4_factor_183 : decode cX4_factor 183 = .ok (.aload_n 0, 1) := by decide +kernel
theorem dX4_factor_184 : decode cX4_factor 184 = .ok (.getfield 15, 3) := by decide +kernel
theorem dX4_factor_187 : decode cX4_factor 187 = .ok (.iload_n 2, 1) := by decide +kernel
theorem dX4_factor_188 : decode cX4_factor 188 = .ok (.bipush 45, 2) := by decide +kernel
theorem dX4_factor_190 : decode cX4_factor 190 = .ok (.if_icmp .ne 9, 3) := by decide +kernel
theorem dX4_factor_193 : decode cX4_factor 193 = .ok (.sipush 160, 3) := by decide +kernel
theorem dX4_factor_196 : decode cX4_factor 196 = .ok (.goto 6, 3) := by decide +kernel
theorem dX4_factor_199 : decode cX4_factor 199 = .ok (.sipush 158, 3) := by decide +kernel
theorem dX4_factor_202 : decode cX4_factor 202 = .ok (.lconst 0, 1) := by decide +kernel
theorem dX4_factor_203 : decode cX4_factor 203 = .ok (.invokevirtual 123, 3) := by decide +kernel
theorem dX4_factor_206 : decode cX4_factor 206 = .ok (.goto 16, 3) := by decide +kernel
theorem dX4_factor_209 : decode cX4_factor 209 = .ok (.aload_n 0, 1) := by decide +kernel
theorem dX4_factor_210 : decode cX4_factor 210 = .ok (.iload_n 2, 1) := by decide +kernel
theorem dX4_factor_211 : decode cX4_factor 211 = .ok (.iload_n 1, 1) := by decide +kernel
theorem dX4_factor_212 : decode cX4_factor 212 = .ok (.invokevirtual 147, 3) := by decide +kernel
theorem dX4_factor_215 : decode cX4_factor 215 = .ok (.goto 7, 3) := by decide +kernel
theorem dX4_factor_218 : decode cX4_factor 218 = .ok (.aload_n 0, 1) := by decide +kernel
theorem dX4_factor_219 : decode cX4_factor 219 = .ok (.invokevirtual 41, 3) := by decide +kernel
theorem dX4_factor_222 : decode cX4_factor 222 = .ok (.return_, 1) := by decide +kernel
theorem dX4_function_0 : decode cX4_function 0 = .ok (.aload_n 0, 1) := by decide +kernel
theorem dX4_function_1 : decode cX4_function 1 = .ok (.getfield 44, 3) := by decide +kernel
theorem dX4_function_4 : decode cX4_function 4 = .ok (.istore_n 3, 1) := by decide +kernel
theorem dX4_function_5 : decode cX4_function 5 = .ok (.aload_n 0, 1) := by decide +kernel
theorem dX4_function_6 : decode cX4_function 6 = .ok (.iload_n 1, 1) := by decide +kernel
theorem dX4_function_7 : decode cX4_function 7 = .ok (.iload_n 2, 1) := by decide +kernel
theorem dX4_function_8 : decode cX4_function 8 = .ok (.invokevirtual 119, 3) := by decide +kernel
theorem dX4_function_11 : decode cX4_function 11 = .ok (.pop, 1) := by decide +kernel
theorem dX4_function_12 : decode cX4_function 12 = .ok (.aload_n 0, 1) := by decide +kernel
theorem dX4_function_13 : decode cX4_function 13 = .ok (.bipush 40, 2) := by decide +kernel
theorem dX4_function_15 : decode cX4_function 15 = .ok (.iload_n 2, 1) := by decide +kernel
theorem dX4_function_16 : decode cX4_function 16 = .ok (.iconst 1, 1) := by decide +kernel
theorem dX4_function_17 : decode cX4_function 17 = .ok (.iadd, 1) := by decide +kernel
theorem dX4_function_18 : decode cX4_function 18 = .ok (.invokevirtual 119, 3) := by decide +kernel
theorem dX4_function_21 : decode cX4_function 21 = .ok (.ifCond .ne 4, 3) := by decide +kernel
theorem dX4_function_24 : decode cX4_function 24 = .ok (.return_, 1) := by decide +kernel
theorem dX4_function_25 : decode cX4_function 25 = .ok (.aload_n 0, 1) := by decide +kernel
theorem dX4_function_26 : decode cX4_function 26 = .ok (.iload_n 2, 1) := by decide +kernel
theorem dX4_function_27 : decode cX4_function 27 = .ok (.iconst 1, 1) := by decide +kernel
theorem dX4_function_28 : decode cX4_function 28 = .ok (.iadd, 1) := by decide +kernel
theorem dX4_function_29 : decode cX4_function 29 = .ok (.invokevirtual 110, 3) := by decide +kernel
theorem dX4_function_32 : decode cX4_function 32 = .ok (.iconst 1, 1) := by decide +kernel
theorem dX4_function_33 : decode cX4_function 33 = .ok (.istore 4, 2) := by decide +kernel
theorem dX4_function_35 : decode cX4_function 35 = .ok (.iconst 0, 1) := by decide +kernel
theorem dX4_function_36 : decode cX4_function 36 = .ok (.istore 5, 2) := by decide +kernel
theorem dX4_function_38 : decode cX4_function 38 = .ok (.iload 5, 2) := by decide +kernel
theorem dX4_function_40 : decode cX4_function 40 = .ok (.bipush 60, 2) := by decide +kernel
theorem dX4_function_42 : decode cX4_function 42 = .ok (.if_icmp .ge 38, 3) := by decide +kernel
theorem dX4_function_45 : decode cX4_function 45 = .ok (.aload_n 0, 1) := by decide +kernel
theorem dX4_function_46 : decode cX4_function 46 = .ok (.getfield 29, 3) := by decide +kernel
theorem dX4_function_49 : decode cX4_function 49 = .ok (.bipush 44, 2) := by decide +kernel
theorem dX4_function_51 : decode cX4_function 51 = .ok (.if_icmp .ne 29, 3) := by decide +kernel
theorem dX4_function_54 : decode cX4_function 54 = .ok (.aload_n 0, 1) := by decide +kernel
theorem dX4_function_55 : decode cX4_function 55 = .ok (.bipush 44, 2) := by decide +kernel
theorem dX4_function_57 : decode cX4_function 57 = .ok (.iload_n 2, 1) := by decide +kernel
theorem dX4_function_58 : decode cX4_function 58 = .ok (.iconst 1, 1) := by decide +kernel
theorem dX4_function_59 : decode cX4_function 59 = .ok (.iadd, 1) := by decide +kernel
theorem dX4_function_60 : decode cX4_function 60 = .ok (.invokevirtual 119, 3) := by decide +kernel
theorem dX4_function_63 : decode cX4_function 63 = .ok (.pop, 1) := by decide +kernel
theorem dX4_function_64 : decode cX4_function 64 = .ok (.aload_n 0, 1) := by decide +kernel
theorem dX4_function_65 : decode cX4_function 65 = .ok (.iload_n 2, 1) := by decide +kernel
theorem dX4_function_66 : decode cX4_function 66 = .ok (.iconst 1, 1) := by decide +kernel
theorem dX4_function_67 : decode cX4_function 67 = .ok (.iadd, 1) := by decide +kernel
theorem dX4_function_68 : decode cX4_function 68 = .ok (.invokevirtual 110, 3) := by decide +kernel
theorem dX4_function_71 : decode cX4_function 71 = .ok (.iinc 4 1, 3) := by decide +kernel
theorem dX4_function_74 : decode cX4_function 74 = .ok (.iinc 5 1, 3) := by decide +kernel
theorem dX4_function_77 : decode cX4_function 77 = .ok (.goto (-39), 3) := by decide +kernel
theorem dX4_function_80 : decode cX4_function 80 = .ok (.aload_n 0, 1) := by decide +kernel
theorem dX4_function_81 : decode cX4_function 81 = .ok (.bipush 41, 2) := by decide +kernel
theorem dX4_function_83 : decode cX4_function 83 = .ok (.iload_n 2, 1) := by decide +kernel
theorem dX4_function_84 : decode cX4_function 84 = .ok (.invokevirtual 119, 3) := by decide +kernel
theorem dX4_function_87 : decode cX4_function 87 = .ok (.pop, 1) := by decide +kernel
theorem dX4_function_88 : decode cX4_function 88 = .ok (.aload_n 0, 1) := by decide +kernel
theorem dX4_function_89 : decode cX4_function 89 = .ok (.getfield 15, 3) := by decide +kernel
theorem dX4_function_92 : decode cX4_function 92 = .ok (.iload_n 1, 1) := by decide +kernel
theorem dX4_function_93 : decode cX4_function 93 = .ok (.iload 4, 2) := by decide +kernel
theorem dX4_function_95 : decode cX4_function 95 = .ok (.iload_n 3, 1) := by decide +kernel
theorem dX4_function_96 : decode cX4_function 96 = .ok (.invokevirtual 150, 3) := by decide +kernel
theorem dX4_function_99 : decode cX4_function 99 = .ok (.return_, 1) := by decide +kernel
theorem dX4_takeInExpression_0 : decode cX4_takeInExpression 0 = .ok (.aload_n 0, 1) := by decide +kernel
theorem dX4_takeInExpression_1 : decode cX4_takeInExpression 1 = .ok (.getfield 29, 3) := by decide +kernel
theorem dX4_takeInExpression_4 : decode cX4_takeInExpression 4 = .ok (.iload_n 1, 1) := by decide +kernel
theorem dX4_takeInExpression_5 : decode cX4_takeInExpression 5 = .ok (.if_icmp .ne 18, 3) := by decide +kernel
theorem dX4_takeInExpression_8 : decode cX4_takeInExpression 8 = .ok (.aload_n 0, 1) := by decide +kernel
theorem dX4_takeInExpression_9 : decode cX4_takeInExpression 9 = .ok (.getfield 104, 3) := by decide +kernel
theorem dX4_takeInExpression_12 : decode cX4_takeInExpression 12 = .ok (.bipush 60, 2) := by decide +kernel
theorem dX4_takeInExpression_14 : decode cX4_takeInExpression 14 = .ok (.if_icmp .ge 9, 3) := by decide +kernel
theorem dX4_takeInExpression_17 : decode cX4_takeInExpression 17 = .ok (.iload_n 2, 1) := by decide +kernel
theorem dX4_takeInExpression_18 : decode cX4_takeInExpression 18 = .ok (.bipush 8, 2) := by decide +kernel
theorem dX4_takeInExpression_20 : decode cX4_takeInExpression 20 = .ok (.if_icmp .le 9, 3) := by decide +kernel
theorem dX4_takeInExpression_23 : decode cX4_takeInExpression 23 = .ok (.aload_n 0, 1) := by decide +kernel
theorem dX4_takeInExpression_24 : decode cX4_takeInExpression 24 = .ok (.invokevirtual 41, 3) := by decide +kernel
theorem dX4_takeInExpression_27 : decode cX4_takeInExpression 27 = .ok (.iconst 0, 1) := by decide +kernel
theorem dX4_takeInExpression_28 : decode cX4_takeInExpression 28 = .ok (.ireturn, 1) := by decide +kernel
theorem dX4_takeInExpression_29 : decode cX4_takeInExpression 29 = .ok (.aload_n 0, 1) := by decide +kernel
theorem dX4_takeInExpression_30 : decode cX4_takeInExpression 30 = .ok (.dup, 1) := by decide +kernel
theorem dX4_takeInExpression_31 : decode cX4_takeInExpression 31 = .ok (.getfield 104, 3) := by decide +kernel
theorem dX4_takeInExpression_34 : decode cX4_takeInExpression 34 = .ok (.iconst 1, 1) := by decide +kernel
theorem dX4_takeInExpression_35 : decode cX4_takeInExpression 35 = .ok (.iadd, 1) := by decide +kernel
theorem dX4_takeInExpression_36 : decode cX4_takeInExpression 36 = .ok (.putfield 104, 3) := by decide +kernel
theorem dX4_takeInExpression_39 : decode cX4_takeInExpression 39 = .ok (.aload_n 0, 1) := by decide +kernel
theorem dX4_takeInExpression_40 : decode cX4_takeInExpression 40 = .ok (.invokevirtual 26, 3) := by decide +kernel
theorem dX4_takeInExpression_43 : decode cX4_takeInExpression 43 = .ok (.iconst 1, 1) := by decide +kernel
theorem dX4_takeInExpression_44 : decode cX4_takeInExpression 44 = .ok (.ireturn, 1) := by decide +kernel
theorem dX4_takeNames_0 : decode cX4_takeNames 0 = .ok (.aload_n 0, 1) := by decide +kernel
theorem dX4_takeNames_1 : decode cX4_takeNames 1 = .ok (.bipush 40, 2) := by decide +kernel
theorem dX4_takeNames_3 : decode cX4_takeNames 3 = .ok (.invokevirtual 57, 3) := by decide +kernel
theorem dX4_takeNames_6 : decode cX4_takeNames 6 = .ok (.iconst 0, 1) := by decide +kernel
theorem dX4_takeNames_7 : decode cX4_takeNames 7 = .ok (.istore_n 2, 1) := by decide +kernel
theorem dX4_takeNames_8 : decode cX4_takeNames 8 = .ok (.iload_n 2, 1) := by decide +kernel
theorem dX4_takeNames_9 : decode cX4_takeNames 9 = .ok (.sipush 1500, 3) := by decide +kernel
theorem dX4_takeNames_12 : decode cX4_takeNames 12 = .ok (.if_icmp .ge 32, 3) := by decide +kernel
theorem dX4_takeNames_15 : decode cX4_takeNames 15 = .ok (.iload_n 2, 1) := by decide +kernel
theorem dX4_takeNames_16 : decode cX4_takeNames 16 = .ok (.ifCond .eq 12, 3) := by decide +kernel
theorem dX4_takeNames_19 : decode cX4_takeNames 19 = .ok (.aload_n 0, 1) := by decide +kernel
theorem dX4_takeNames_20 : decode cX4_takeNames 20 = .ok (.getfield 29, 3) := by decide +kernel
theorem dX4_takeNames_23 : decode cX4_takeNames 23 = .ok (.bipush 44, 2) := by decide +kernel
theorem dX4_takeNames_25 : decode cX4_takeNames 25 = .ok (.if_icmp .ne 19, 3) := by decide +kernel
theorem dX4_takeNames_28 : decode cX4_takeNames 28 = .ok (.aload_n 0, 1) := by decide +kernel
theorem dX4_takeNames_29 : decode cX4_takeNames 29 = .ok (.iload_n 2, 1) := by decide +kernel
theorem dX4_takeNames_30 : decode cX4_takeNames 30 = .ok (.invokevirtual 94, 3) := by decide +kernel
theorem dX4_takeNames_33 : decode cX4_takeNames 33 = .ok (.aload_n 0, 1) := by decide +kernel
theorem dX4_takeNames_34 : decode cX4_takeNames 34 = .ok (.iload_n 1, 1) := by decide +kernel
theorem dX4_takeNames_35 : decode cX4_takeNames 35 = .ok (.invokevirtual 60, 3) := by decide +kernel
theorem dX4_takeNames_38 : decode cX4_takeNames 38 = .ok (.iinc 2 1, 3) := by decide +kernel
theorem dX4_takeNames_41 : decode cX4_takeNames 41 = .ok (.goto (-33), 3) := by decide +kernel
theorem dX4_takeNames_44 : decode cX4_takeNames 44 = .ok (.aload_n 0, 1) := by decide +kernel
theorem dX4_takeNames_45 : decode cX4_takeNames 45 = .ok (.bipush 41, 2) := by decide +kernel
theorem dX4_takeNames_47 : decode cX4_takeNames 47 = .ok (.invokevirtual 57, 3) := by decide +kernel
theorem dX4_takeNames_50 : decode cX4_takeNames 50 = .ok (.return_, 1) := by decide +kernel
theorem dX4_takeComma_0 : decode cX4_takeComma 0 = .ok (.iload_n 1, 1) := by decide +kernel
theorem dX4_takeComma_1 : decode cX4_takeComma 1 = .ok (.ifCond .le 9, 3) := by decide +kernel
theorem dX4_takeComma_4 : decode cX4_takeComma 4 = .ok (.aload_n 0, 1) := by decide +kernel
theorem dX4_takeComma_5 : decode cX4_takeComma 5 = .ok (.bipush 44, 2) := by decide +kernel
theorem dX4_takeComma_7 : decode cX4_takeComma 7 = .ok (.invokevirtual 57, 3) := by decide +kernel
theorem dX4_takeComma_10 : decode cX4_takeComma 10 = .ok (.return_, 1) := by decide +kernel
theorem dX4_takeName_0 : decode cX4_takeName 0 = .ok (.aload_n 0, 1) := by decide +kernel
theorem dX4_takeName_1 : decode cX4_takeName 1 = .ok (.getfield 29, 3) := by decide +kernel
theorem dX4_takeName_4 : decode cX4_takeName 4 = .ok (.iconst 2, 1) := by decide +kernel
theorem dX4_takeName_5 : decode cX4_takeName 5 = .ok (.if_icmp .ne 19, 3) := by decide +kernel
theorem dX4_takeName_8 : decode cX4_takeName 8 = .ok (.aload_n 0, 1) := by decide +kernel
theorem dX4_takeName_9 : decode cX4_takeName 9 = .ok (.getfield 15, 3) := by decide +kernel
theorem dX4_takeName_12 : decode cX4_takeName 12 = .ok (.iload_n 1, 1) := by decide +kernel
theorem dX4_takeName_13 : decode cX4_takeName 13 = .ok (.aload_n 0, 1) := by decide +kernel
theorem dX4_takeName_14 : decode cX4_takeName 14 = .ok (.getfield 139, 3) := by decide +kernel
theorem dX4_takeName_17 : decode cX4_takeName 17 = .ok (.aload_n 0, 1) := by decide +kernel
theorem dX4_takeName_18 : decode cX4_takeName 18 = .ok (.getfield 44, 3) := by decide +kernel
theorem dX4_takeName_21 : decode cX4_takeName 21 = .ok (.invokevirtual 154, 3) := by decide +kernel
theorem dX4_takeName_24 : decode cX4_takeName 24 = .ok (.aload_n 0, 1) := by decide +kernel
theorem dX4_takeName_25 : decode cX4_takeName 25 = .ok (.iconst 2, 1) := by decide +kernel
theorem dX4_takeName_26 : decode cX4_takeName 26 = .ok (.invokevirtual 57, 3) := by decide +kernel
theorem dX4_takeName_29 : decode cX4_takeName 29 = .ok (.return_, 1) := by decide +kernel
theorem dX4_takeRange_0 : decode cX4_takeRange 0 = .ok (.aload_n 0, 1) := by decide +kernel
theorem dX4_takeRange_1 : decode cX4_takeRange 1 = .ok (.iload_n 1, 1) := by decide +kernel
theorem dX4_takeRange_2 : decode cX4_takeRange 2 = .ok (.invokevirtual 57, 3) := by decide +kernel
theorem dX4_takeRange_5 : decode cX4_takeRange 5 = .ok (.aload_n 0, 1) := by decide +kernel
theorem dX4_takeRange_6 : decode cX4_takeRange 6 = .ok (.getfield 29, 3) := by decide +kernel
theorem dX4_takeRange_9 : decode cX4_takeRange 9 = .ok (.iconst 3, 1) := by decide +kernel
theorem dX4_takeRange_10 : decode cX4_takeRange 10 = .ok (.if_icmp .ne 19, 3) := by decide +kernel
theorem dX4_takeRange_13 : decode cX4_takeRange 13 = .ok (.aload_n 0, 1) := by decide +kernel
theorem dX4_takeRange_14 : decode cX4_takeRange 14 = .ok (.getfield 15, 3) := by decide +kernel
theorem dX4_takeRange_17 : decode cX4_takeRange 17 = .ok (.iload_n 1, 1) := by decide +kernel
theorem dX4_takeRange_18 : decode cX4_takeRange 18 = .ok (.aload_n 0, 1) := by decide +kernel
theorem dX4_takeRange_19 : decode cX4_takeRange 19 = .ok (.getfield 139, 3) := by decide +kernel
theorem dX4_takeRange_22 : decode cX4_takeRange 22 = .ok (.aload_n 0, 1) := by decide +kernel
theorem dX4_takeRange_23 : decode cX4_takeRange 23 = .ok (.getfield 44, 3) := by decide +kernel
theorem dX4_takeRange_26 : decode cX4_takeRange 26 = .ok (.invokevirtual 158, 3) := by decide +kernel
theorem dX4_takeRange_29 : decode cX4_takeRange 29 = .ok (.aload_n 0, 1) := by decide +kernel
theorem dX4_takeRange_30 : decode cX4_takeRange 30 = .ok (.iconst 3, 1) := by decide +kernel
theorem dX4_takeRange_31 : decode cX4_takeRange 31 = .ok (.invokevirtual 57, 3) := by decide +kernel
theorem dX4_takeRange_34 : decode cX4_takeRange 34 = .ok (.return_, 1) := by decide +kernel
theorem dX4_take_0 : decode cX4_take 0 = .ok (.aload_n 0, 1) := by decide +kernel
theorem dX4_take_1 : decode cX4_take 1 = .ok (.getfield 29, 3) := by decide +kernel
theorem dX4_take_4 : decode cX4_take 4 = .ok (.iload_n 1, 1) := by decide +kernel
theorem dX4_take_5 : decode cX4_take 5 = .ok (.if_icmp .ne 10, 3) := by decide +kernel
theorem dX4_take_8 : decode cX4_take 8 = .ok (.aload_n 0, 1) := by decide +kernel
theorem dX4_take_9 : decode cX4_take 9 = .ok (.invokevirtual 26, 3) := by decide +kernel
theorem dX4_take_12 : decode cX4_take 12 = .ok (.goto 7, 3) := by decide +kernel
theorem dX4_take_15 : decode cX4_take 15 = .ok (.aload_n 0, 1) := by decide +kernel
theorem dX4_take_16 : decode cX4_take 16 = .ok (.invokevirtual 41, 3) := by decide +kernel
theorem dX4_take_19 : decode cX4_take 19 = .ok (.return_, 1) := by decide +kernel
theorem dX4_advance_0 : decode cX4_advance 0 = .ok (.aload_n 0, 1) := by decide +kernel
theorem dX4_advance_1 : decode cX4_advance 1 = .ok (.getfield 23, 3) := by decide +kernel
theorem dX4_advance_4 : decode cX4_advance 4 = .ok (.iconst 1, 1) := by decide +kernel
theorem dX4_advance_5 : decode cX4_advance 5 = .ok (.iadd, 1) := by decide +kernel
theorem dX4_advance_6 : decode cX4_advance 6 = .ok (.istore_n 1, 1) := by decide +kernel
theorem dX4_advance_7 : decode cX4_advance 7 = .ok (.aload_n 0, 1) := by decide +kernel
theorem dX4_advance_8 : decode cX4_advance 8 = .ok (.getfield 19, 3) := by decide +kernel
theorem dX4_advance_11 : decode cX4_advance 11 = .ok (.ifCond .ge 18, 3) := by decide +kernel
theorem dX4_advance_14 : decode cX4_advance 14 = .ok (.iload_n 1, 1) := by decide +kernel
theorem dX4_advance_15 : decode cX4_advance 15 = .ok (.ifCond .lt 14, 3) := by decide +kernel
theorem dX4_advance_18 : decode cX4_advance 18 = .ok (.iload_n 1, 1) := by decide +kernel
theorem dX4_advance_19 : decode cX4_advance 19 = .ok (.aload_n 0, 1) := by decide +kernel
theorem dX4_advance_20 : decode cX4_advance 20 = .ok (.getfield 9, 3) := by decide +kernel
theorem dX4_advance_23 : decode cX4_advance 23 = .ok (.getfield 161, 3) := by decide +kernel
theorem dX4_advance_26 : decode cX4_advance 26 = .ok (.if_icmp .lt 4, 3) := by decide +kernel
theorem dX4_advance_29 : decode cX4_advance 29 = .ok (.return_, 1) := by decide +kernel
theorem dX4_advance_30 : decode cX4_advance 30 = .ok (.aload_n 0, 1) := by decide +kernel
theorem dX4_advance_31 : decode cX4_advance 31 = .ok (.iload_n 1, 1) := by decide +kernel
theorem dX4_advance_32 : decode cX4_advance 32 = .ok (.putfield 23, 3) := by decide +kernel
theorem dX4_advance_35 : decode cX4_advance 35 = .ok (.aload_n 0, 1) := by decide +kernel
theorem dX4_advance_36 : decode cX4_advance 36 = .ok (.aload_n 0, 1) := by decide +kernel
theorem dX4_advance_37 : decode cX4_advance 37 = .ok (.getfield 9, 3) := by decide +kernel
theorem dX4_advance_40 : decode cX4_advance 40 = .ok (.getfield 166, 3) := by decide +kernel
theorem dX4_advance_43 : decode cX4_advance 43 = .ok (.aload_n 0, 1) := by decide +kernel
theorem dX4_advance_44 : decode cX4_advance 44 = .ok (.getfield 23, 3) := by decide +kernel
theorem dX4_advance_47 : decode cX4_advance 47 = .ok (.iaload, 1) := by decide +kernel
theorem dX4_advance_48 : decode cX4_advance 48 = .ok (.putfield 29, 3) := by decide +kernel
theorem dX4_advance_51 : decode cX4_advance 51 = .ok (.aload_n 0, 1) := by decide +kernel
theorem dX4_advance_52 : decode cX4_advance 52 = .ok (.aload_n 0, 1) := by decide +kernel
theorem dX4_advance_53 : decode cX4_advance 53 = .ok (.getfield 9, 3) := by decide +kernel
theorem dX4_advance_56 : decode cX4_advance 56 = .ok (.getfield 170, 3) := by decide +kernel
theorem dX4_advance_59 : decode cX4_advance 59 = .ok (.aload_n 0, 1) := by decide +kernel
theorem dX4_advance_60 : decode cX4_advance 60 = .ok (.getfield 23, 3) := by decide +kernel
theorem dX4_advance_63 : decode cX4_advance 63 = .ok (.iaload, 1) := by decide +kernel
theorem dX4_advance_64 : decode cX4_advance 64 = .ok (.putfield 44, 3) := by decide +kernel
theorem dX4_advance_67 : decode cX4_advance 67 = .ok (.aload_n 0, 1) := by decide +kernel
theorem dX4_advance_68 : decode cX4_advance 68 = .ok (.aload_n 0, 1) := by decide +kernel
theorem dX4_advance_69 : decode cX4_advance 69 = .ok (.getfield 9, 3) := by decide +kernel
theorem dX4_advance_72 : decode cX4_advance 72 = .ok (.getfield 173, 3) := by decide +kernel
theorem dX4_advance_75 : decode cX4_advance 75 = .ok (.aload_n 0, 1) := by decide +kernel
theorem dX4_advance_76 : decode cX4_advance 76 = .ok (.getfield 23, 3) := by decide +kernel
theorem dX4_advance_79 : decode cX4_advance 79 = .ok (.laload, 1) := by decide +kernel
theorem dX4_advance_80 : decode cX4_advance 80 = .ok (.putfield 139, 3) := by decide +kernel
theorem dX4_advance_83 : decode cX4_advance 83 = .ok (.return_, 1) := by decide +kernel
theorem dX4_fail_0 : decode cX4_fail 0 = .ok (.aload_n 0, 1) := by decide +kernel
theorem dX4_fail_1 : decode cX4_fail 1 = .ok (.getfield 19, 3) := by decide +kernel
theorem dX4_fail_4 : decode cX4_fail 4 = .ok (.ifCond .ge 11, 3) := by decide +kernel
theorem dX4_fail_7 : decode cX4_fail 7 = .ok (.aload_n 0, 1) := by decide +kernel
theorem dX4_fail_8 : decode cX4_fail 8 = .ok (.aload_n 0, 1) := by decide +kernel
theorem dX4_fail_9 : decode cX4_fail 9 = .ok (.getfield 44, 3) := by decide +kernel
theorem dX4_fail_12 : decode cX4_fail 12 = .ok (.putfield 19, 3) := by decide +kernel
theorem dX4_fail_15 : decode cX4_fail 15 = .ok (.aload_n 0, 1) := by decide +kernel
theorem dX4_fail_16 : decode cX4_fail 16 = .ok (.iconst 1, 1) := by decide +kernel
theorem dX4_fail_17 : decode cX4_fail 17 = .ok (.putfield 29, 3) := by decide +kernel
theorem dX4_fail_20 : decode cX4_fail 20 = .ok (.return_, 1) := by decide +kernel
theorem dX5_init_0 : decode cX5_init 0 = .ok (.aload_n 0, 1) := by decide +kernel
theorem dX5_init_1 : decode cX5_init 1 = .ok (.invokespecial 3, 3) := by decide +kernel
theorem dX5_init_4 : decode cX5_init 4 = .ok (.aload_n 0, 1) := by decide +kernel
theorem dX5_init_5 : decode cX5_init 5 = .ok (.bipush 12, 2) := by decide +kernel
theorem dX5_init_7 : decode cX5_init 7 = .ok (.anewarray 9, 3) := by decide +kernel
theorem dX5_init_10 : decode cX5_init 10 = .ok (.putfield 11, 3) := by decide +kernel
theorem dX5_init_13 : decode cX5_init 13 = .ok (.aload_n 0, 1) := by decide +kernel
theorem dX5_init_14 : decode cX5_init 14 = .ok (.bipush 8, 2) := by decide +kernel
theorem dX5_init_16 : decode cX5_init 16 = .ok (.anewarray 17, 3) := by decide +kernel
theorem dX5_init_19 : decode cX5_init 19 = .ok (.putfield 19, 3) := by decide +kernel
theorem dX5_init_22 : decode cX5_init 22 = .ok (.aload_n 0, 1) := by decide +kernel
theorem dX5_init_23 : decode cX5_init 23 = .ok (.sipush 1500, 3) := by decide +kernel
theorem dX5_init_26 : decode cX5_init 26 = .ok (.newarray .int, 2) := by decide +kernel
theorem dX5_init_28 : decode cX5_init 28 = .ok (.putfield 23, 3) := by decide +kernel
theorem dX5_init_31 : decode cX5_init 31 = .ok (.aload_n 0, 1) := by decide +kernel
theorem dX5_init_32 : decode cX5_init 32 = .ok (.sipush 1500, 3) := by decide +kernel
theorem dX5_init_35 : decode cX5_init 35 = .ok (.newarray .long, 2) := by decide +kernel
theorem dX5_init_37 : decode cX5_init 37 = .ok (.putfield 27, 3) := by decide +kernel
theorem dX5_init_40 : decode cX5_init 40 = .ok (.aload_n 0, 1) := by decide +kernel
theorem dX5_init_41 : decode cX5_init 41 = .ok (.bipush 60, 2) := by decide +kernel
theorem dX5_init_43 : decode cX5_init 43 = .ok (.newarray .long, 2) := by decide +kernel
theorem dX5_init_45 : decode cX5_init 45 = .ok (.putfield 31, 3) := by decide +kernel
theorem dX5_init_48 : decode cX5_init 48 = .ok (.iconst 0, 1) := by decide +kernel
theorem dX5_init_49 : decode cX5_init 49 = .ok (.istore_n 1, 1) := by decide +kernel
theorem dX5_init_50 : decode cX5_init 50 = .ok (.iload_n 1, 1) := by decide +kernel
theorem dX5_init_51 : decode cX5_init 51 = .ok (.aload_n 0, 1) := by decide +kernel
theorem dX5_init_52 : decode cX5_init 52 = .ok (.getfield 11, 3) := by decide +kernel
theorem dX5_init_55 : decode cX5_init 55 = .ok (.arraylength, 1) := by decide +kernel
theorem dX5_init_56 : decode cX5_init 56 = .ok (.if_icmp .ge 22, 3) := by decide +kernel
theorem dX5_init_59 : decode cX5_init 59 = .ok (.aload_n 0, 1) := by decide +kernel
theorem dX5_init_60 : decode cX5_init 60 = .ok (.getfield 11, 3) := by decide +kernel
theorem dX5_init_63 : decode cX5_init 63 = .ok (.iload_n 1, 1) := by decide +kernel
theorem dX5_init_64 : decode cX5_init 64 = .ok (.new 9, 3) := by decide +kernel
theorem dX5_init_67 : decode cX5_init 67 = .ok (.dup, 1) := by decide +kernel
theorem dX5_init_68 : decode cX5_init 68 = .ok (.invokespecial 34, 3) := by decide +kernel
theorem dX5_init_71 : decode cX5_init 71 = .ok (.aastore, 1) := by decide +kernel
theorem dX5_init_72 : decode cX5_init 72 = .ok (.iinc 1 1, 3) := by decide +kernel
theorem dX5_init_75 : decode cX5_init 75 = .ok (.goto (-25), 3) := by decide +kernel
theorem dX5_init_78 : decode cX5_init 78 = .ok (.iconst 0, 1) := by decide +kernel
theorem dX5_init_79 : decode cX5_init 79 = .ok (.istore_n 1, 1) := by decide +kernel
theorem dX5_init_80 : decode cX5_init 80 = .ok (.iload_n 1, 1) := by decide +kernel
theorem dX5_init_81 : decode cX5_init 81 = .ok (.aload_n 0, 1) := by decide +kernel
theorem dX5_init_82 : decode cX5_init 82 = .ok (.getfield 19, 3) := by decide +kernel
theorem dX5_init_85 : decode cX5_init 85 = .ok (.arraylength, 1) := by decide +kernel
theorem dX5_init_86 : decode cX5_init 86 = .ok (.if_icmp .ge 22, 3) := by decide +kernel
theorem dX5_init_89 : decode cX5_init 89 = .ok (.aload_n 0, 1) := by decide +kernel
theorem dX5_init_90 : decode cX5_init 90 = .ok (.getfield 19, 3) := by decide +kernel
theorem dX5_init_93 : decode cX5_init 93 = .ok (.iload_n 1, 1) := by decide +kernel
theorem dX5_init_94 : decode cX5_init 94 = .ok (.new 17, 3) := by decide +kernel
theorem dX5_init_97 : decode cX5_init 97 = .ok (.dup, 1) := by decide +kernel
theorem dX5_init_98 : decode cX5_init 98 = .ok (.invokespecial 35, 3) := by decide +kernel
theorem dX5_init_101 : decode cX5_init 101 = .ok (.aastore, 1) := by decide +kernel
theorem dX5_init_102 : decode cX5_init 102 = .ok (.iinc 1 1, 3) := by decide +kernel
theorem dX5_init_105 : decode cX5_init 105 = .ok (.goto (-25), 3) := by decide +kernel
theorem dX5_init_108 : decode cX5_init 108 = .ok (.return_, 1) := by decide +kernel
theorem dX5_streamNamed_0 : decode cX5_streamNamed 0 = .ok (.iconst 0, 1) := by decide +kernel
theorem dX5_streamNamed_1 : decode cX5_streamNamed 1 = .ok (.istore_n 3, 1) := by decide +kernel
theorem dX5_streamNamed_2 : decode cX5_streamNamed 2 = .ok (.iload_n 3, 1) := by decide +kernel
theorem dX5_streamNamed_3 : decode cX5_streamNamed 3 = .ok (.aload_n 0, 1) := by decide +kernel
theorem dX5_streamNamed_4 : decode cX5_streamNamed 4 = .ok (.getfield 36, 3) := by decide +kernel
theorem dX5_streamNamed_7 : decode cX5_streamNamed 7 = .ok (.if_icmp .ge 34, 3) := by decide +kernel
theorem dX5_streamNamed_10 : decode cX5_streamNamed 10 = .ok (.iload_n 3, 1) := by decide +kernel
theorem dX5_streamNamed_11 : decode cX5_streamNamed 11 = .ok (.aload_n 0, 1) := by decide +kernel
theorem dX5_streamNamed_12 : decode cX5_streamNamed 12 = .ok (.getfield 11, 3) := by decide +kernel
theorem dX5_streamNamed_15 : decode cX5_streamNamed 15 = .ok (.arraylength, 1) := by decide +kernel
theorem dX5_streamNamed_16 : decode cX5_streamNamed 16 = .ok (.if_icmp .ge 25, 3) := by decide +kernel
theorem dX5_streamNamed_19 : decode cX5_streamNamed 19 = .ok (.aload_n 0, 1) := by decide +kernel
theorem dX5_streamNamed_20 : decode cX5_streamNamed 20 = .ok (.getfield 11, 3) := by decide +kernel
theorem dX5_streamNamed_23 : decode cX5_streamNamed 23 = .ok (.iload_n 3, 1) := by decide +kernel
theorem dX5_streamNamed_24 : decode cX5_streamNamed 24 = .ok (.aaload, 1) := by decide +kernel
theorem dX5_streamNamed_25 : decode cX5_streamNamed 25 = .ok (.getfield 40, 3) := by decide +kernel
theorem dX5_streamNamed_28 : decode cX5_streamNamed 28 = .ok (.lload_n 1, 1) := by decide +kernel
theorem dX5_streamNamed_29 : decode cX5_streamNamed 29 = .ok (.lcmp, 1) := by decide +kernel
theorem dX5_streamNamed_30 : decode cX5_streamNamed 30 = .ok (.ifCond .ne 5, 3) := by decide +kernel
theorem dX5_streamNamed_33 : decode cX5_streamNamed 33 = .ok (.iload_n 3, 1) := by decide +kernel
theorem dX5_streamNamed_34 : decode cX5_streamNamed 34 = .ok (.ireturn, 1) := by decide +kernel
theorem dX5_streamNamed_35 : decode cX5_streamNamed 35 = .ok (.iinc 3 1, 3) := by decide +kernel
theorem dX5_streamNamed_38 : decode cX5_streamNamed 38 = .ok (.goto (-36), 3) := by decide +kernel
theorem dX5_streamNamed_41 : decode cX5_streamNamed 41 = .ok (.iconst (-1), 1) := by decide +kernel
theorem dX5_streamNamed_42 : decode cX5_streamNamed 42 = .ok (.ireturn, 1) := by decide +kernel
theorem dX5_emit_0 : decode cX5_emit 0 = .ok (.aload_n 0, 1) := by decide +kernel
theorem dX5_emit_1 : decode cX5_emit 1 = .ok (.getfield 44, 3) := by decide +kernel
theorem dX5_emit_4 : decode cX5_emit 4 = .ok (.aload_n 0, 1) := by decide +kernel
theorem dX5_emit_5 : decode cX5_emit 5 = .ok (.getfield 23, 3) := by decide +kernel
theorem dX5_emit_8 : decode cX5_emit 8 = .ok (.arraylength, 1) := by decide +kernel
theorem dX5_emit_9 : decode cX5_emit 9 = .ok (.if_icmp .ge 33, 3) := by decide +kernel
theorem dX5_emit_12 : decode cX5_emit 12 = .ok (.aload_n 0, 1) := by decide +kernel
theorem dX5_emit_13 : decode cX5_emit 13 = .ok (.getfield 23, 3) := by decide +kernel
theorem dX5_emit_16 : decode cX5_emit 16 = .ok (.aload_n 0, 1) := by decide +kernel
theorem dX5_emit_17 : decode cX5_emit 17 = .ok (.getfield 44, 3) := by decide +kernel
theorem dX5_emit_20 : decode cX5_emit 20 = .ok (.iload_n 1, 1) := by decide +kernel
theorem dX5_emit_21 : decode cX5_emit 21 = .ok (.iastore, 1) := by decide +kernel
theorem dX5_emit_22 : decode cX5_emit 22 = .ok (.aload_n 0, 1) := by decide +kernel
theorem dX5_emit_23 : decode cX5_emit 23 = .ok (.getfield 27, 3) := by decide +kernel
theorem dX5_emit_26 : decode cX5_emit 26 = .ok (.aload_n 0, 1) := by decide +kernel
theorem dX5_emit_27 : decode cX5_emit 27 = .ok (.getfield 44, 3) := by decide +kernel
theorem dX5_emit_30 : decode cX5_emit 30 = .ok (.lload_n 2, 1) := by decide +kernel
theorem dX5_emit_31 : decode cX5_emit 31 = .ok (.lastore, 1) := by decide +kernel
theorem dX5_emit_32 : decode cX5_emit 32 = .ok (.aload_n 0, 1) := by decide +kernel
theorem dX5_emit_33 : decode cX5_emit 33 = .ok (.dup, 1) := by decide +kernel
theorem dX5_emit_34 : decode cX5_emit 34 = .ok (.getfield 44, 3) := by decide +kernel
theorem dX5_emit_37 : decode cX5_emit 37 = .ok (.iconst 1, 1) := by decide +kernel
theorem dX5_emit_38 : decode cX5_emit 38 = .ok (.iadd, 1) := by decide +kernel
theorem dX5_emit_39 : decode cX5_emit 39 = .ok (.putfield 44, 3) := by decide +kernel
theorem dX5_emit_42 : decode cX5_emit 42 = .ok (.return_, 1) := by decide +kernel
theorem dX5_reckon_0 : decode cX5_reckon 0 = .ok (.iconst 0, 1) := by decide +kernel
theorem dX5_reckon_1 : decode cX5_reckon 1 = .ok (.istore 4, 2) := by decide +kernel
theorem dX5_reckon_3 : decode cX5_reckon 3 = .ok (.iload_n 1, 1) := by decide +kernel
theorem dX5_reckon_4 : decode cX5_reckon 4 = .ok (.istore 5, 2) := by decide +kernel
theorem dX5_reckon_6 : decode cX5_reckon 6 = .ok (.iload 5, 2) := by decide +kernel
theorem dX5_reckon_8 : decode cX5_reckon 8 = .ok (.ifCond .lt 214, 3) := by decide +kernel
theorem dX5_reckon_11 : decode cX5_reckon 11 = .ok (.iload 5, 2) := by decide +kernel
theorem dX5_reckon_13 : decode cX5_reckon 13 = .ok (.iload_n 2, 1) := by decide +kernel
theorem dX5_reckon_14 : decode cX5_reckon 14 = .ok (.if_icmp .ge 208, 3) := by decide +kernel
theorem dX5_reckon_17 : decode cX5_reckon 17 = .ok (.iload 5, 2) := by decide +kernel
theorem dX5_reckon_19 : decode cX5_reckon 19 = .ok (.aload_n 0, 1) := by decide +kernel
theorem dX5_reckon_20 : decode cX5_reckon 20 = .ok (.getfield 44, 3) := by decide +kernel
theorem dX5_reckon_23 : decode cX5_reckon 23 = .ok (.if_icmp .ge 199, 3) := by decide +kernel
theorem dX5_reckon_26 : decode cX5_reckon 26 = .ok (.aload_n 0, 1) := by decide +kernel
theorem dX5_reckon_27 : decode cX5_reckon 27 = .ok (.getfield 23, 3) := by decide +kernel
theorem dX5_reckon_30 : decode cX5_reckon 30 = .ok (.iload 5, 2) := by decide +kernel
theorem dX5_reckon_32 : decode cX5_reckon 32 = .ok (.iaload, 1) := by decide +kernel
theorem dX5_reckon_33 : decode cX5_reckon 33 = .ok (.istore 6, 2) := by decide +kernel
theorem dX5_reckon_35 : decode cX5_reckon 35 = .ok (.iload 6, 2) := by decide +kernel
theorem dX5_reckon_37 : decode cX5_reckon 37 = .ok (.iconst 3, 1) := by decide +kernel
theorem dX5_reckon_38 : decode cX5_reckon 38 = .ok (.if_icmp .eq 17, 3) := by decide +kernel
theorem dX5_reckon_41 : decode cX5_reckon 41 = .ok (.iload 6, 2) := by decide +kernel
theorem dX5_reckon_43 : decode cX5_reckon 43 = .ok (.iconst 2, 1) := by decide +kernel
theorem dX5_reckon_44 : decode cX5_reckon 44 = .ok (.if_icmp .eq 11, 3) := by decide +kernel
theorem dX5_reckon_47 : decode cX5_reckon 47 = .ok (.iload 6, 2) := by decide +kernel
theorem dX5_reckon_49 : decode cX5_reckon 49 = .ok (.sipush 155, 3) := by decide +kernel
theorem dX5_reckon_52 : decode cX5_reckon 52 = .ok (.if_icmp .ne 70, 3) := by decide +kernel
theorem dX5_reckon_55 : decode cX5_reckon 55 = .ok (.iload 4, 2) := by decide +kernel
theorem dX5_reckon_57 : decode cX5_reckon 57 = .ok (.aload_n 0, 1) := by decide +kernel
theorem dX5_reckon_58 : decode cX5_reckon 58 = .ok (.getfield 31, 3) := by decide +kernel
theorem dX5_reckon_61 : decode cX5_reckon 61 = .ok (.arraylength, 1) := by decide +kernel
theorem dX5_reckon_62 : decode cX5_reckon 62 = .ok (.if_icmp .ge 154, 3) := by decide +kernel
theorem dX5_reckon_65 : decode cX5_reckon 65 = .ok (.aload_n 0, 1) := by decide +kernel
theorem dX5_reckon_66 : decode cX5_reckon 66 = .ok (.getfield 31, 3) := by decide +kernel
theorem dX5_reckon_69 : decode cX5_reckon 69 = .ok (.iload 4, 2) := by decide +kernel
theorem dX5_reckon_71 : decode cX5_reckon 71 = .ok (.iload 6, 2) := by decide +kernel
theorem dX5_reckon_73 : decode cX5_reckon 73 = .ok (.iconst 2, 1) := by decide +kernel
theorem dX5_reckon_74 : decode cX5_reckon 74 = .ok (.if_icmp .ne 18, 3) := by decide +kernel
theorem dX5_reckon_77 : decode cX5_reckon 77 = .ok (.aload_n 3, 1) := by decide +kernel
theorem dX5_reckon_78 : decode cX5_reckon 78 = .ok (.aload_n 0, 1) := by decide +kernel
theorem dX5_reckon_79 : decode cX5_reckon 79 = .ok (.getfield 27, 3) := by decide +kernel
theorem dX5_reckon_82 : decode cX5_reckon 82 = .ok (.iload 5, 2) := by decide +kernel
theorem dX5_reckon_84 : decode cX5_reckon 84 = .ok (.laload, 1) := by decide +kernel
theorem dX5_reckon_85 : decode cX5_reckon 85 = .ok (.l2i, 1) := by decide +kernel
theorem dX5_reckon_86 : decode cX5_reckon 86 = .ok (.invokevirtual 47, 3) := by decide +kernel
theorem dX5_reckon_89 : decode cX5_reckon 89 = .ok (.goto 26, 3) := by decide +kernel
theorem dX5_reckon_92 : decode cX5_reckon 92 = .ok (.iload 6, 2) := by decide +kernel
theorem dX5_reckon_94 : decode cX5_reckon 94 = .ok (.sipush 155, 3) := by decide +kernel
theorem dX5_reckon_97 : decode cX5_reckon 97 = .ok (.if_icmp .ne 11, 3) := by decide +kernel
theorem dX5_reckon_100 : decode cX5_reckon 100 = .ok (.aload_n 3, 1) := by decide +kernel
theorem dX5_reckon_101 : decode cX5_reckon 101 = .ok (.getfield 53, 3) := by decide +kernel
theorem dX5_reckon_104 : decode cX5_reckon 104 = .ok (.i2l, 1) := by decide +kernel
theorem dX5_reckon_105 : decode cX5_reckon 105 = .ok (.goto 10, 3) := by decide +kernel
theorem dX5_reckon_108 : decode cX5_reckon 108 = .ok (.aload_n 0, 1) := by decide +kernel
theorem dX5_reckon_109 : decode cX5_reckon 109 = .ok (.getfield 27, 3) := by decide +kernel
theorem dX5_reckon_112 : decode cX5_reckon 112 = .ok (.iload 5, 2) := by decide +kernel
theorem dX5_reckon_114 : decode cX5_reckon 114 = .ok (.laload, 1) := by decide +kernel
theorem dX5_reckon_115 : decode cX5_reckon 115 = .ok (.lastore, 1) := by decide +kernel
theorem dX5_reckon_116 : decode cX5_reckon 116 = .ok (.iinc 4 1, 3) := by decide +kernel
theorem dX5_reckon_119 : decode cX5_reckon 119 = .ok (.goto 97, 3) := by decide +kernel
theorem dX5_reckon_122 : decode cX5_reckon 122 = .ok (.iload 6, 2) := by decide +kernel
theorem dX5_reckon_124 : decode cX5_reckon 124 = .ok (.sipush 160, 3) := by decide +kernel
theorem dX5_reckon_127 : decode cX5_reckon 127 = .ok (.if_icmp .eq 19, 3) := by decide +kernel
theorem dX5_reckon_130 : decode cX5_reckon 130 = .ok (.iload 6, 2) := by decide +kernel
theorem dX5_reckon_132 : decode cX5_reckon 132 = .ok (.sipush 158, 3) := by decide +kernel
theorem dX5_reckon_135 : decode cX5_reckon 135 = .ok (.if_icmp .eq 11, 3) := by decide +kernel
theorem dX5_reckon_138 : decode cX5_reckon 138 = .ok (.iload 6, 2) := by decide +kernel
theorem dX5_reckon_140 : decode cX5_reckon 140 = .ok (.sipush 159, 3) := by decide +kernel
theorem dX5_reckon_143 : decode cX5_reckon 143 = .ok (.if_icmp .ne 34, 3) := by decide +kernel
theorem dX5_reckon_146 : decode cX5_reckon 146 = .ok (.iload 4, 2) := by decide +kernel
theorem dX5_reckon_148 : decode cX5_reckon 148 = .ok (.ifCond .le 68, 3) := by decide +kernel
theorem dX5_reckon_151 : decode cX5_reckon 151 = .ok (.aload_n 0, 1) := by decide +kernel
theorem dX5_reckon_152 : decode cX5_reckon 152 = .ok (.getfield 31, 3) := by decide +kernel
theorem dX5_reckon_155 : decode cX5_reckon 155 = .ok (.iload 4, 2) := by decide +kernel
theorem dX5_reckon_157 : decode cX5_reckon 157 = .ok (.iconst 1, 1) := by decide +kernel
theorem dX5_reckon_158 : decode cX5_reckon 158 = .ok (.isub, 1) := by decide +kernel
theorem dX5_reckon_159 : decode cX5_reckon 159 = .ok (.iload 6, 2) := by decide +kernel
theorem dX5_reckon_161 : decode cX5_reckon 161 = .ok (.aload_n 0, 1) := by decide +kernel
theorem dX5_reckon_162 : decode cX5_reckon 162 = .ok (.getfield 31, 3) := by decide +kernel
theorem dX5_reckon_165 : decode cX5_reckon 165 = .ok (.iload 4, 2) := by decide +kernel
theorem dX5_reckon_167 : decode cX5_reckon 167 = .ok (.iconst 1, 1) := by decide +kernel
theorem dX5_reckon_168 : decode cX5_reckon 168 = .ok (.isub, 1) := by decide +kernel
theorem dX5_reckon_169 : decode cX5_reckon 169 = .ok (.laload, 1) := by decide +kernel
theorem dX5_reckon_170 : decode cX5_reckon 170 = .ok (.invokestatic 56, 3) := by decide +kernel
theorem dX5_reckon_173 : decode cX5_reckon 173 = .ok (.lastore, 1) := by decide +kernel
theorem dX5_reckon_174 : decode cX5_reckon 174 = .ok (.goto 42, 3) := by decide +kernel
theorem dX5_reckon_177 : decode cX5_reckon 177 = .ok (.iload 4, 2) := by decide +kernel
theorem dX5_reckon_179 : decode cX5_reckon 179 = .ok (.iconst 1, 1) := by decide +kernel
theorem dX5_reckon_180 : decode cX5_reckon 180 = .ok (.if_icmp .le 36, 3) := by decide +kernel
theorem dX5_reckon_183 : decode cX5_reckon 183 = .ok (.iinc 4 (-1), 3) := by decide +kernel
theorem dX5_reckon_186 : decode cX5_reckon 186 = .ok (.aload_n 0, 1) := by decide +kernel
theorem dX5_reckon_187 : decode cX5_reckon 187 = .ok (.getfield 31, 3) := by decide +kernel
theorem dX5_reckon_190 : decode cX5_reckon 190 = .ok (.iload 4, 2) := by decide +kernel
theorem dX5_reckon_192 : decode cX5_reckon 192 = .ok (.iconst 1, 1) := by decide +kernel
theorem dX5_reckon_193 : decode cX5_reckon 193 = .ok (.isub, 1) := by decide +kernel
theorem dX5_reckon_194 : decode cX5_reckon 194 = .ok (.iload 6, 2) := by decide +kernel
theorem dX5_reckon_196 : decode cX5_reckon 196 = .ok (.aload_n 0, 1) := by decide +kernel
theorem dX5_reckon_197 : decode cX5_reckon 197 = .ok (.getfield 31, 3) := by decide +kernel
theorem dX5_reckon_200 : decode cX5_reckon 200 = .ok (.iload 4, 2) := by decide +kernel
theorem dX5_reckon_202 : decode cX5_reckon 202 = .ok (.iconst 1, 1) := by decide +kernel
theorem dX5_reckon_203 : decode cX5_reckon 203 = .ok (.isub, 1) := by decide +kernel
theorem dX5_reckon_204 : decode cX5_reckon 204 = .ok (.laload, 1) := by decide +kernel
theorem dX5_reckon_205 : decode cX5_reckon 205 = .ok (.aload_n 0, 1) := by decide +kernel
theorem dX5_reckon_206 : decode cX5_reckon 206 = .ok (.getfield 31, 3) := by decide +kernel
theorem dX5_reckon_209 : decode cX5_reckon 209 = .ok (.iload 4, 2) := by decide +kernel
theorem dX5_reckon_211 : decode cX5_reckon 211 = .ok (.laload, 1) := by decide +kernel
theorem dX5_reckon_212 : decode cX5_reckon 212 = .ok (.invokestatic 60, 3) := by decide +kernel
theorem dX5_reckon_215 : decode cX5_reckon 215 = .ok (.lastore, 1) := by decide +kernel
theorem dX5_reckon_216 : decode cX5_reckon 216 = .ok (.iinc 5 1, 3) := by decide +kernel
theorem dX5_reckon_219 : decode cX5_reckon 219 = .ok (.goto (-213), 3) := by decide +kernel
theorem dX5_reckon_222 : decode cX5_reckon 222 = .ok (.iload 4, 2) := by decide +kernel
theorem dX5_reckon_224 : decode cX5_reckon 224 = .ok (.ifCond .le 12, 3) := by decide +kernel
theorem dX5_reckon_227 : decode cX5_reckon 227 = .ok (.aload_n 0, 1) := by decide +kernel
theorem dX5_reckon_228 : decode cX5_reckon 228 = .ok (.getfield 31, 3) := by decide +kernel
theorem dX5_reckon_231 : decode cX5_reckon 231 = .ok (.iconst 0, 1) := by decide +kernel
theorem dX5_reckon_232 : decode cX5_reckon 232 = .ok (.laload, 1) := by decide +kernel
theorem dX5_reckon_233 : decode cX5_reckon 233 = .ok (.goto 4, 3) := by decide +kernel
theorem dX5_reckon_236 : decode cX5_reckon 236 = .ok (.lconst 0, 1) := by decide +kernel
theorem dX5_reckon_237 : decode cX5_reckon 237 = .ok (.lreturn, 1) := by decide +kernel
theorem dX5_unary_0 : decode cX5_unary 0 = .ok (.iload_n 0, 1) := by decide +kernel
theorem dX5_unary_1 : decode cX5_unary 1 = .ok (.lookupswitch 42 #[(158, 30), (160, 27)], 27) := by decide +kernel
theorem dX5_unary_28 : decode cX5_unary 28 = .ok (.lload_n 1, 1) := by decide +kernel
theorem dX5_unary_29 : decode cX5_unary 29 = .ok (.lneg, 1) := by decide +kernel
theorem dX5_unary_30 : decode cX5_unary 30 = .ok (.lreturn, 1) := by decide +kernel
theorem dX5_unary_31 : decode cX5_unary 31 = .ok (.lload_n 1, 1) := by decide +kernel
theorem dX5_unary_32 : decode cX5_unary 32 = .ok (.lconst 0, 1) := by decide +kernel
theorem dX5_unary_33 : decode cX5_unary 33 = .ok (.lcmp, 1) := by decide +kernel
theorem dX5_unary_34 : decode cX5_unary 34 = .ok (.ifCond .ne 7, 3) := by decide +kernel
theorem dX5_unary_37 : decode cX5_unary 37 = .ok (.lconst 1, 1) := by decide +kernel
theorem dX5_unary_38 : decode cX5_unary 38 = .ok (.goto 4, 3) := by decide +kernel
theorem dX5_unary_41 : decode cX5_unary 41 = .ok (.lconst 0, 1) := by decide +kernel
theorem dX5_unary_42 : decode cX5_unary 42 = .ok (.lreturn, 1) := by decide +kernel
theorem dX5_unary_43 : decode cX5_unary 43 = .ok (.lload_n 1, 1) := by decide +kernel
theorem dX5_unary_44 : decode cX5_unary 44 = .ok (.lconst 0, 1) := by decide +kernel
theorem dX5_unary_45 : decode cX5_unary 45 = .ok (.lcmp, 1) := by decide +kernel
theorem dX5_unary_46 : decode cX5_unary 46 = .ok (.ifCond .ge 8, 3) := by decide +kernel
theorem dX5_unary_49 : decode cX5_unary 49 = .ok (.lload_n 1, 1) := by decide +kernel
theorem dX5_unary_50 : decode cX5_unary 50 = .ok (.lneg, 1) := by decide +kernel
theorem dX5_unary_51 : decode cX5_unary 51 = .ok (.goto 4, 3) := by decide +kernel
theorem dX5_unary_54 : decode cX5_unary 54 = .ok (.lload_n 1, 1) := by decide +kernel
theorem dX5_unary_55 : decode cX5_unary 55 = .ok (.lreturn, 1) := by decide +kernel
theorem dX5_binary_0 : decode cX5_binary 0 = .ok (.iload_n 0, 1) := by decide +kernel
theorem dX5_binary_1 : decode cX5_binary 1 = .ok (.lookupswitch 303 #[(37, 157), (42, 139), (43, 131), (45, 135), (47, 143), (60, 195), (61, 171), (62, 207), (152, 279), (153, 291), (156, 243), (157, 261), (15421, 219), (15422, 183), (15933, 231)], 131) := by decide +kernel
theorem dX5_binary_132 : decode cX5_binary 132 = .ok (.lload_n 1, 1) := by decide +kernel
theorem dX5_binary_133 : decode cX5_binary 133 = .ok (.lload_n 3, 1) := by decide +kernel
theorem dX5_binary_134 : decode cX5_binary 134 = .ok (.ladd, 1) := by decide +kernel
theorem dX5_binary_135 : decode cX5_binary 135 = .ok (.lreturn, 1) := by decide +kernel
theorem dX5_binary_136 : decode cX5_binary 136 = .ok (.lload_n 1, 1) := by decide +kernel
theorem dX5_binary_137 : decode cX5_binary 137 = .ok (.lload_n 3, 1) := by decide +kernel
theorem dX5_binary_138 : decode cX5_binary 138 = .ok (.lsub, 1) := by decide +kernel
theorem dX5_binary_139 : decode cX5_binary 139 = .ok (.lreturn, 1) := by decide +kernel
theorem dX5_binary_140 : decode cX5_binary 140 = .ok (.lload_n 1, 1) := by decide +kernel
theorem dX5_binary_141 : decode cX5_binary 141 = .ok (.lload_n 3, 1) := by decide +kernel
theorem dX5_binary_142 : decode cX5_binary 142 = .ok (.lmul, 1) := by decide +kernel
theorem dX5_binary_143 : decode cX5_binary 143 = .ok (.lreturn, 1) := by decide +kernel
theorem dX5_binary_144 : decode cX5_binary 144 = .ok (.lload_n 3, 1) := by decide +kernel
theorem dX5_binary_145 : decode cX5_binary 145 = .ok (.lconst 0, 1) := by decide +kernel
theorem dX5_binary_146 : decode cX5_binary 146 = .ok (.lcmp, 1) := by decide +kernel
theorem dX5_binary_147 : decode cX5_binary 147 = .ok (.ifCond .ne 7, 3) := by decide +kernel
theorem dX5_binary_150 : decode cX5_binary 150 = .ok (.lconst 0, 1) := by decide +kernel
theorem dX5_binary_151 : decode cX5_binary 151 = .ok (.goto 6, 3) := by decide +kernel
theorem dX5_binary_154 : decode cX5_binary 154 = .ok (.lload_n 1, 1) := by decide +kernel
theorem dX5_binary_155 : decode cX5_binary 155 = .ok (.lload_n 3, 1) := by decide +kernel
theorem dX5_binary_156 : decode cX5_binary 156 = .ok (.ldiv, 1) := by decide +kernel
theorem dX5_binary_157 : decode cX5_binary 157 = .ok (.lreturn, 1) := by decide +kernel
theorem dX5_binary_158 : decode cX5_binary 158 = .ok (.lload_n 3, 1) := by decide +kernel
theorem dX5_binary_159 : decode cX5_binary 159 = .ok (.lconst 0, 1) := by decide +kernel
theorem dX5_binary_160 : decode cX5_binary 160 = .ok (.lcmp, 1) := by decide +kernel
theorem dX5_binary_161 : decode cX5_binary 161 = .ok (.ifCond .ne 7, 3) := by decide +kernel
theorem dX5_binary_164 : decode cX5_binary 164 = .ok (.lconst 0, 1) := by decide +kernel
theorem dX5_binary_165 : decode cX5_binary 165 = .ok (.goto 6, 3) := by decide +kernel
theorem dX5_binary_168 : decode cX5_binary 168 = .ok (.lload_n 1, 1) := by decide +kernel
theorem dX5_binary_169 : decode cX5_binary 169 = .ok (.lload_n 3, 1) := by decide +kernel
theorem dX5_binary_170 : decode cX5_binary 170 = .ok (.lrem, 1) := by decide +kernel
theorem dX5_binary_171 : decode cX5_binary 171 = .ok (.lreturn, 1) := by decide +kernel
theorem dX5_binary_172 : decode cX5_binary 172 = .ok (.lload_n 1, 1) := by decide +kernel
theorem dX5_binary_173 : decode cX5_binary 173 = .ok (.lload_n 3, 1) := by decide +kernel
theorem dX5_binary_174 : decode cX5_binary 174 = .ok (.lcmp, 1) := by decide +kernel
theorem dX5_binary_175 : decode cX5_binary 175 = .ok (.ifCond .ne 7, 3) := by decide +kernel
theorem dX5_binary_178 : decode cX5_binary 178 = .ok (.lconst 1, 1) := by decide +kernel
theorem dX5_binary_179 : decode cX5_binary 179 = .ok (.goto 4, 3) := by decide +kernel
theorem dX5_binary_182 : decode cX5_binary 182 = .ok (.lconst 0, 1) := by decide +kernel
theorem dX5_binary_183 : decode cX5_binary 183 = .ok (.lreturn, 1) := by decide +kernel
theorem dX5_binary_184 : decode cX5_binary 184 = .ok (.lload_n 1, 1) := by decide +kernel
theorem dX5_binary_185 : decode cX5_binary 185 = .ok (.lload_n 3, 1) := by decide +kernel
theorem dX5_binary_186 : decode cX5_binary 186 = .ok (.lcmp, 1) := by decide +kernel
theorem dX5_binary_187 : decode cX5_binary 187 = .ok (.ifCond .eq 7, 3) := by decide +kernel
theorem dX5_binary_190 : decode cX5_binary 190 = .ok (.lconst 1, 1) := by decide +kernel
theorem dX5_binary_191 : decode cX5_binary 191 = .ok (.goto 4, 3) := by decide +kernel
theorem dX5_binary_194 : decode cX5_binary 194 = .ok (.lconst 0, 1) := by decide +kernel
theorem dX5_binary_195 : decode cX5_binary 195 = .ok (.lreturn, 1) := by decide +kernel
theorem dX5_binary_196 : decode cX5_binary 196 = .ok (.lload_n 1, 1) := by decide +kernel
theorem dX5_binary_197 : decode cX5_binary 197 = .ok (.lload_n 3, 1) := by decide +kernel
theorem dX5_binary_198 : decode cX5_binary 198 = .ok (.lcmp, 1) := by decide +kernel
theorem dX5_binary_199 : decode cX5_binary 199 = .ok (.ifCond .ge 7, 3) := by decide +kernel
theorem dX5_binary_202 : decode cX5_binary 202 = .ok (.lconst 1, 1) := by decide +kernel
theorem dX5_binary_203 : decode cX5_binary 203 = .ok (.goto 4, 3) := by decide +kernel
theorem dX5_binary_206 : decode cX5_binary 206 = .ok (.lconst 0, 1) := by decide +kernel
theorem dX5_binary_207 : decode cX5_binary 207 = .ok (.lreturn, 1) := by decide +kernel
theorem dX5_binary_208 : decode cX5_binary 208 = .ok (.lload_n 1, 1) := by decide +kernel
theorem dX5_binary_209 : decode cX5_binary 209 = .ok (.lload_n 3, 1) := by decide +kernel
theorem dX5_binary_210 : decode cX5_binary 210 = .ok (.lcmp, 1) := by decide +kernel
theorem dX5_binary_211 : decode cX5_binary 211 = .ok (.ifCond .le 7, 3) := by decide +kernel
theorem dX5_binary_214 : decode cX5_binary 214 = .ok (.lconst 1, 1) := by decide +kernel
theorem dX5_binary_215 : decode cX5_binary 215 = .ok (.goto 4, 3) := by decide +kernel
theorem dX5_binary_218 : decode cX5_binary 218 = .ok (.lconst 0, 1) := by decide +kernel
theorem dX5_binary_219 : decode cX5_binary 219 = .ok (.lreturn, 1) := by decide +kernel
theorem dX5_binary_220 : decode cX5_binary 220 = .ok (.lload_n 1, 1) := by decide +kernel
theorem dX5_binary_221 : decode cX5_binary 221 = .ok (.lload_n 3, 1) := by decide +kernel
theorem dX5_binary_222 : decode cX5_binary 222 = .ok (.lcmp, 1) := by decide +kernel
theorem dX5_binary_223 : decode cX5_binary 223 = .ok (.ifCond .gt 7, 3) := by decide +kernel
theorem dX5_binary_226 : decode cX5_binary 226 = .ok (.lconst 1, 1) := by decide +kernel
theorem dX5_binary_227 : decode cX5_binary 227 = .ok (.goto 4, 3) := by decide +kernel
theorem dX5_binary_230 : decode cX5_binary 230 = .ok (.lconst 0, 1) := by decide +kernel
theorem dX5_binary_231 : decode cX5_binary 231 = .ok (.lreturn, 1) := by decide +kernel
theorem dX5_binary_232 : decode cX5_binary 232 = .ok (.lload_n 1, 1) := by decide +kernel
theorem dX5_binary_233 : decode cX5_binary 233 = .ok (.lload_n 3, 1) := by decide +kernel
theorem dX5_binary_234 : decode cX5_binary 234 = .ok (.lcmp, 1) := by decide +kernel
theorem dX5_binary_235 : decode cX5_binary 235 = .ok (.ifCond .lt 7, 3) := by decide +kernel
theorem dX5_binary_238 : decode cX5_binary 238 = .ok (.lconst 1, 1) := by decide +kernel
theorem dX5_binary_239 : decode cX5_binary 239 = .ok (.goto 4, 3) := by decide +kernel
theorem dX5_binary_242 : decode cX5_binary 242 = .ok (.lconst 0, 1) := by decide +kernel
theorem dX5_binary_243 : decode cX5_binary 243 = .ok (.lreturn, 1) := by decide +kernel
theorem dX5_binary_244 : decode cX5_binary 244 = .ok (.lload_n 1, 1) := by decide +kernel
theorem dX5_binary_245 : decode cX5_binary 245 = .ok (.lconst 0, 1) := by decide +kernel
theorem dX5_binary_246 : decode cX5_binary 246 = .ok (.lcmp, 1) := by decide +kernel
theorem dX5_binary_247 : decode cX5_binary 247 = .ok (.ifCond .eq 13, 3) := by decide +kernel
theorem dX5_binary_250 : decode cX5_binary 250 = .ok (.lload_n 3, 1) := by decide +kernel
theorem dX5_binary_251 : decode cX5_binary 251 = .ok (.lconst 0, 1) := by decide +kernel
theorem dX5_binary_252 : decode cX5_binary 252 = .ok (.lcmp, 1) := by decide +kernel
theorem dX5_binary_253 : decode cX5_binary 253 = .ok (.ifCond .eq 7, 3) := by decide +kernel
theorem dX5_binary_256 : decode cX5_binary 256 = .ok (.lconst 1, 1) := by decide +kernel
theorem dX5_binary_257 : decode cX5_binary 257 = .ok (.goto 4, 3) := by decide +kernel
theorem dX5_binary_260 : decode cX5_binary 260 = .ok (.lconst 0, 1) := by decide +kernel
theorem dX5_binary_261 : decode cX5_binary 261 = .ok (.lreturn, 1) := by decide +kernel
theorem dX5_binary_262 : decode cX5_binary 262 = .ok (.lload_n 1, 1) := by decide +kernel
theorem dX5_binary_263 : decode cX5_binary 263 = .ok (.lconst 0, 1) := by decide +kernel
theorem dX5_binary_264 : decode cX5_binary 264 = .ok (.lcmp, 1) := by decide +kernel
theorem dX5_binary_265 : decode cX5_binary 265 = .ok (.ifCond .ne 9, 3) := by decide +kernel
theorem dX5_binary_268 : decode cX5_binary 268 = .ok (.lload_n 3, 1) := by decide +kernel
theorem dX5_binary_269 : decode cX5_binary 269 = .ok (.lconst 0, 1) := by decide +kernel
theorem dX5_binary_270 : decode cX5_binary 270 = .ok (.lcmp, 1) := by decide +kernel
theorem dX5_binary_271 : decode cX5_binary 271 = .ok (.ifCond .eq 7, 3) := by decide +kernel
theorem dX5_binary_274 : decode cX5_binary 274 = .ok (.lconst 1, 1) := by decide +kernel
theorem dX5_binary_275 : decode cX5_binary 275 = .ok (.goto 4, 3) := by decide +kernel
theorem dX5_binary_278 : decode cX5_binary 278 = .ok (.lconst 0, 1) := by decide +kernel
theorem dX5_binary_279 : decode cX5_binary 279 = .ok (.lreturn, 1) := by decide +kernel
theorem dX5_binary_280 : decode cX5_binary 280 = .ok (.lload_n 1, 1) := by decide +kernel
theorem dX5_binary_281 : decode cX5_binary 281 = .ok (.lload_n 3, 1) := by decide +kernel
theorem dX5_binary_282 : decode cX5_binary 282 = .ok (.lcmp, 1) := by decide +kernel
theorem dX5_binary_283 : decode cX5_binary 283 = .ok (.ifCond .ge 7, 3) := by decide +kernel
theorem dX5_binary_286 : decode cX5_binary 286 = .ok (.lload_n 1, 1) := by decide +kernel
theorem dX5_binary_287 : decode cX5_binary 287 = .ok (.goto 4, 3) := by decide +kernel
theorem dX5_binary_290 : decode cX5_binary 290 = .ok (.lload_n 3, 1) := by decide +kernel
theorem dX5_binary_291 : decode cX5_binary 291 = .ok (.lreturn, 1) := by decide +kernel
theorem dX5_binary_292 : decode cX5_binary 292 = .ok (.lload_n 1, 1) := by decide +kernel
theorem dX5_binary_293 : decode cX5_binary 293 = .ok (.lload_n 3, 1) := by decide +kernel
theorem dX5_binary_294 : decode cX5_binary 294 = .ok (.lcmp, 1) := by decide +kernel
theorem dX5_binary_295 : decode cX5_binary 295 = .ok (.ifCond .le 7, 3) := by decide +kernel
theorem dX5_binary_298 : decode cX5_binary 298 = .ok (.lload_n 1, 1) := by decide +kernel
theorem dX5_binary_299 : decode cX5_binary 299 = .ok (.goto 4, 3) := by decide +kernel
theorem dX5_binary_302 : decode cX5_binary 302 = .ok (.lload_n 3, 1) := by decide +kernel
theorem dX5_binary_303 : decode cX5_binary 303 = .ok (.lreturn, 1) := by decide +kernel
theorem dX5_binary_304 : decode cX5_binary 304 = .ok (.lconst 0, 1) := by decide +kernel
theorem dX5_binary_305 : decode cX5_binary 305 = .ok (.lreturn, 1) := by decide +kernel
theorem dX6_init_0 : decode cX6_init 0 = .ok (.aload_n 0, 1) := by decide +kernel
theorem dX6_init_1 : decode cX6_init 1 = .ok (.invokespecial 3, 3) := by decide +kernel
theorem dX6_init_4 : decode cX6_init 4 = .ok (.aload_n 0, 1) := by decide +kernel
theorem dX6_init_5 : decode cX6_init 5 = .ok (.bipush 6, 2) := by decide +kernel
theorem dX6_init_7 : decode cX6_init 7 = .ok (.newarray .long, 2) := by decide +kernel
theorem dX6_init_9 : decode cX6_init 9 = .ok (.putfield 9, 3) := by decide +kernel
theorem dX6_init_12 : decode cX6_init 12 = .ok (.return_, 1) := by decide +kernel
theorem dX6_startAt_0 : decode cX6_startAt 0 = .ok (.aload_n 0, 1) := by decide +kernel
theorem dX6_startAt_1 : decode cX6_startAt 1 = .ok (.iload_n 1, 1) := by decide +kernel
theorem dX6_startAt_2 : decode cX6_startAt 2 = .ok (.putfield 15, 3) := by decide +kernel
theorem dX6_startAt_5 : decode cX6_startAt 5 = .ok (.aload_n 0, 1) := by decide +kernel
theorem dX6_startAt_6 : decode cX6_startAt 6 = .ok (.iconst 0, 1) := by decide +kernel
theorem dX6_startAt_7 : decode cX6_startAt 7 = .ok (.putfield 19, 3) := by decide +kernel
theorem dX6_startAt_10 : decode cX6_startAt 10 = .ok (.return_, 1) := by decide +kernel
theorem dX6_append_0 : decode cX6_append 0 = .ok (.aload_n 0, 1) := by decide +kernel
theorem dX6_append_1 : decode cX6_append 1 = .ok (.getfield 19, 3) := by decide +kernel
theorem dX6_append_4 : decode cX6_append 4 = .ok (.ifCond .lt 35, 3) := by decide +kernel
theorem dX6_append_7 : decode cX6_append 7 = .ok (.aload_n 0, 1) := by decide +kernel
theorem dX6_append_8 : decode cX6_append 8 = .ok (.getfield 19, 3) := by decide +kernel
theorem dX6_append_11 : decode cX6_append 11 = .ok (.aload_n 0, 1) := by decide +kernel
theorem dX6_append_12 : decode cX6_append 12 = .ok (.getfield 9, 3) := by decide +kernel
theorem dX6_append_15 : decode cX6_append 15 = .ok (.arraylength, 1) := by decide +kernel
theorem dX6_append_16 : decode cX6_append 16 = .ok (.if_icmp .ge 23, 3) := by decide +kernel
theorem dX6_append_19 : decode cX6_append 19 = .ok (.aload_n 0, 1) := by decide +kernel
theorem dX6_append_20 : decode cX6_append 20 = .ok (.getfield 9, 3) := by decide +kernel
theorem dX6_append_23 : decode cX6_append 23 = .ok (.aload_n 0, 1) := by decide +kernel
theorem dX6_append_24 : decode cX6_append 24 = .ok (.getfield 19, 3) := by decide +kernel
theorem dX6_append_27 : decode cX6_append 27 = .ok (.lload_n 1, 1) := by decide +kernel
theorem dX6_append_28 : decode cX6_append 28 = .ok (.lastore, 1) := by decide +kernel
theorem dX6_append_29 : decode cX6_append 29 = .ok (.aload_n 0, 1) := by decide +kernel
theorem dX6_append_30 : decode cX6_append 30 = .ok (.dup, 1) := by decide +kernel
theorem dX6_append_31 : decode cX6_append 31 = .ok (.getfield 19, 3) := by decide +kernel
theorem dX6_append_34 : decode cX6_append 34 = .ok (.iconst 1, 1) := by decide +kernel
theorem dX6_append_35 : decode cX6_append 35 = .ok (.iadd, 1) := by decide +kernel
theorem dX6_append_36 : decode cX6_append 36 = .ok (.putfield 19, 3) := by decide +kernel
theorem dX6_append_39 : decode cX6_append 39 = .ok (.return_, 1) := by decide +kernel
theorem dX6_numberAt_0 : decode cX6_numberAt 0 = .ok (.iload_n 1, 1) := by decide +kernel
theorem dX6_numberAt_1 : decode cX6_numberAt 1 = .ok (.ifCond .lt 21, 3) := by decide +kernel
theorem dX6_numberAt_4 : decode cX6_numberAt 4 = .ok (.iload_n 1, 1) := by decide +kernel
theorem dX6_numberAt_5 : decode cX6_numberAt 5 = .ok (.aload_n 0, 1) := by decide +kernel
theorem dX6_numberAt_6 : decode cX6_numberAt 6 = .ok (.getfield 9, 3) := by decide +kernel
theorem dX6_numberAt_9 : decode cX6_numberAt 9 = .ok (.arraylength, 1) := by decide +kernel
theorem dX6_numberAt_10 : decode cX6_numberAt 10 = .ok (.if_icmp .ge 12, 3) := by decide +kernel
theorem dX6_numberAt_13 : decode cX6_numberAt 13 = .ok (.aload_n 0, 1) := by decide +kernel
theorem dX6_numberAt_14 : decode cX6_numberAt 14 = .ok (.getfield 9, 3) := by decide +kernel
theorem dX6_numberAt_17 : decode cX6_numberAt 17 = .ok (.iload_n 1, 1) := by decide +kernel
theorem dX6_numberAt_18 : decode cX6_numberAt 18 = .ok (.laload, 1) := by decide +kernel
theorem dX6_numberAt_19 : decode cX6_numberAt 19 = .ok (.goto 4, 3) := by decide +kernel
theorem dX6_numberAt_22 : decode cX6_numberAt 22 = .ok (.lconst 0, 1) := by decide +kernel
theorem dX6_numberAt_23 : decode cX6_numberAt 23 = .ok (.lreturn, 1) := by decide +kernel
theorem dX6_copyFrom_0 : decode cX6_copyFrom 0 = .ok (.aload_n 0, 1) := by decide +kernel
theorem dX6_copyFrom_1 : decode cX6_copyFrom 1 = .ok (.aload_n 1, 1) := by decide +kernel
theorem dX6_copyFrom_2 : decode cX6_copyFrom 2 = .ok (.getfield 15, 3) := by decide +kernel
theorem dX6_copyFrom_5 : decode cX6_copyFrom 5 = .ok (.putfield 15, 3) := by decide +kernel
theorem dX6_copyFrom_8 : decode cX6_copyFrom 8 = .ok (.aload_n 0, 1) := by decide +kernel
theorem dX6_copyFrom_9 : decode cX6_copyFrom 9 = .ok (.aload_n 1, 1) := by decide +kernel
theorem dX6_copyFrom_10 : decode cX6_copyFrom 10 = .ok (.getfield 19, 3) := by decide +kernel
theorem dX6_copyFrom_13 : decode cX6_copyFrom 13 = .ok (.putfield 19, 3) := by decide +kernel
theorem dX6_copyFrom_16 : decode cX6_copyFrom 16 = .ok (.iconst 0, 1) := by decide +kernel
theorem dX6_copyFrom_17 : decode cX6_copyFrom 17 = .ok (.istore_n 2, 1) := by decide +kernel
theorem dX6_copyFrom_18 : decode cX6_copyFrom 18 = .ok (.iload_n 2, 1) := by decide +kernel
theorem dX6_copyFrom_19 : decode cX6_copyFrom 19 = .ok (.aload_n 0, 1) := by decide +kernel
theorem dX6_copyFrom_20 : decode cX6_copyFrom 20 = .ok (.getfield 9, 3) := by decide +kernel
theorem dX6_copyFrom_23 : decode cX6_copyFrom 23 = .ok (.arraylength, 1) := by decide +kernel
theorem dX6_copyFrom_24 : decode cX6_copyFrom 24 = .ok (.if_icmp .ge 30, 3) := by decide +kernel
theorem dX6_copyFrom_27 : decode cX6_copyFrom 27 = .ok (.iload_n 2, 1) := by decide +kernel
theorem dX6_copyFrom_28 : decode cX6_copyFrom 28 = .ok (.aload_n 1, 1) := by decide +kernel
theorem dX6_copyFrom_29 : decode cX6_copyFrom 29 = .ok (.getfield 9, 3) := by decide +kernel
theorem dX6_copyFrom_32 : decode cX6_copyFrom 32 = .ok (.arraylength, 1) := by decide +kernel
theorem dX6_copyFrom_33 : decode cX6_copyFrom 33 = .ok (.if_icmp .ge 21, 3) := by decide +kernel
theorem dX6_copyFrom_36 : decode cX6_copyFrom 36 = .ok (.aload_n 0, 1) := by decide +kernel
theorem dX6_copyFrom_37 : decode cX6_copyFrom 37 = .ok (.getfield 9, 3) := by decide +kernel
theorem dX6_copyFrom_40 : decode cX6_copyFrom 40 = .ok (.iload_n 2, 1) := by decide +kernel
theorem dX6_copyFrom_41 : decode cX6_copyFrom 41 = .ok (.aload_n 1, 1) := by decide +kernel
theorem dX6_copyFrom_42 : decode cX6_copyFrom 42 = .ok (.getfield 9, 3) := by decide +kernel
theorem dX6_copyFrom_45 : decode cX6_copyFrom 45 = .ok (.iload_n 2, 1) := by decide +kernel
theorem dX6_copyFrom_46 : decode cX6_copyFrom 46 = .ok (.laload, 1) := by decide +kernel
theorem dX6_copyFrom_47 : decode cX6_copyFrom 47 = .ok (.lastore, 1) := by decide +kernel
theorem dX6_copyFrom_48 : decode cX6_copyFrom 48 = .ok (.iinc 2 1, 3) := by decide +kernel
theorem dX6_copyFrom_51 : decode cX6_copyFrom 51 = .ok (.goto (-33), 3) := by decide +kernel
theorem dX6_copyFrom_54 : decode cX6_copyFrom 54 = .ok (.return_, 1) := by decide +kernel
theorem dX6_mixedInto_0 : decode cX6_mixedInto 0 = .ok (.lload_n 1, 1) := by decide +kernel
theorem dX6_mixedInto_1 : decode cX6_mixedInto 1 = .ok (.ldc2_w 22, 3) := by decide +kernel
theorem dX6_mixedInto_4 : decode cX6_mixedInto 4 = .ok (.lmul, 1) := by decide +kernel
theorem dX6_mixedInto_5 : decode cX6_mixedInto 5 = .ok (.aload_n 0, 1) := by decide +kernel
theorem dX6_mixedInto_6 : decode cX6_mixedInto 6 = .ok (.getfield 24, 3) := by decide +kernel
theorem dX6_mixedInto_9 : decode cX6_mixedInto 9 = .ok (.i2l, 1) := by decide +kernel
theorem dX6_mixedInto_10 : decode cX6_mixedInto 10 = .ok (.ladd, 1) := by decide +kernel
theorem dX6_mixedInto_11 : decode cX6_mixedInto 11 = .ok (.ldc2_w 22, 3) := by decide +kernel
theorem dX6_mixedInto_14 : decode cX6_mixedInto 14 = .ok (.lmul, 1) := by decide +kernel
theorem dX6_mixedInto_15 : decode cX6_mixedInto 15 = .ok (.aload_n 0, 1) := by decide +kernel
theorem dX6_mixedInto_16 : decode cX6_mixedInto 16 = .ok (.getfield 27, 3) := by decide +kernel
theorem dX6_mixedInto_19 : decode cX6_mixedInto 19 = .ok (.i2l, 1) := by decide +kernel
theorem dX6_mixedInto_20 : decode cX6_mixedInto 20 = .ok (.ladd, 1) := by decide +kernel
theorem dX6_mixedInto_21 : decode cX6_mixedInto 21 = .ok (.lstore_n 3, 1) := by decide +kernel
theorem dX6_mixedInto_22 : decode cX6_mixedInto 22 = .ok (.lload_n 3, 1) := by decide +kernel
theorem dX6_mixedInto_23 : decode cX6_mixedInto 23 = .ok (.ldc2_w 22, 3) := by decide +kernel
theorem dX6_mixedInto_26 : decode cX6_mixedInto 26 = .ok (.lmul, 1) := by decide +kernel
theorem dX6_mixedInto_27 : decode cX6_mixedInto 27 = .ok (.aload_n 0, 1) := by decide +kernel
theorem dX6_mixedInto_28 : decode cX6_mixedInto 28 = .ok (.getfield 15, 3) := by decide +kernel
theorem dX6_mixedInto_31 : decode cX6_mixedInto 31 = .ok (.i2l, 1) := by decide +kernel
theorem dX6_mixedInto_32 : decode cX6_mixedInto 32 = .ok (.ladd, 1) := by decide +kernel
theorem dX6_mixedInto_33 : decode cX6_mixedInto 33 = .ok (.lstore_n 3, 1) := by decide +kernel
theorem dX6_mixedInto_34 : decode cX6_mixedInto 34 = .ok (.iconst 0, 1) := by decide +kernel
theorem dX6_mixedInto_35 : decode cX6_mixedInto 35 = .ok (.istore 5, 2) := by decide +kernel
theorem dX6_mixedInto_37 : decode cX6_mixedInto 37 = .ok (.iload 5, 2) := by decide +kernel
theorem dX6_mixedInto_39 : decode cX6_mixedInto 39 = .ok (.aload_n 0, 1) := by decide +kernel
theorem dX6_mixedInto_40 : decode cX6_mixedInto 40 = .ok (.getfield 19, 3) := by decide +kernel
theorem dX6_mixedInto_43 : decode cX6_mixedInto 43 = .ok (.if_icmp .ge 22, 3) := by decide +kernel
theorem dX6_mixedInto_46 : decode cX6_mixedInto 46 = .ok (.lload_n 3, 1) := by decide +kernel
theorem dX6_mixedInto_47 : decode cX6_mixedInto 47 = .ok (.ldc2_w 22, 3) := by decide +kernel
theorem dX6_mixedInto_50 : decode cX6_mixedInto 50 = .ok (.lmul, 1) := by decide +kernel
theorem dX6_mixedInto_51 : decode cX6_mixedInto 51 = .ok (.aload_n 0, 1) := by decide +kernel
theorem dX6_mixedInto_52 : decode cX6_mixedInto 52 = .ok (.iload 5, 2) := by decide +kernel
theorem dX6_mixedInto_54 : decode cX6_mixedInto 54 = .ok (.invokevirtual 30, 3) := by decide +kernel
theorem dX6_mixedInto_57 : decode cX6_mixedInto 57 = .ok (.ladd, 1) := by decide +kernel
theorem dX6_mixedInto_58 : decode cX6_mixedInto 58 = .ok (.lstore_n 3, 1) := by decide +kernel
theorem dX6_mixedInto_59 : decode cX6_mixedInto 59 = .ok (.iinc 5 1, 3) := by decide +kernel
theorem dX6_mixedInto_62 : decode cX6_mixedInto 62 = .ok (.goto (-25), 3) := by decide +kernel
theorem dX6_mixedInto_65 : decode cX6_mixedInto 65 = .ok (.lload_n 3, 1) := by decide +kernel
theorem dX6_mixedInto_66 : decode cX6_mixedInto 66 = .ok (.lreturn, 1) := by decide +kernel
theorem dX7_init_0 : decode cX7_init 0 = .ok (.aload_n 0, 1) := by decide +kernel
theorem dX7_init_1 : decode cX7_init 1 = .ok (.invokespecial 3, 3) := by decide +kernel
theorem dX7_init_4 : decode cX7_init 4 = .ok (.aload_n 0, 1) := by decide +kernel
theorem dX7_init_5 : decode cX7_init 5 = .ok (.bipush 6, 2) := by decide +kernel
theorem dX7_init_7 : decode cX7_init 7 = .ok (.newarray .long, 2) := by decide +kernel
theorem dX7_init_9 : decode cX7_init 9 = .ok (.putfield 9, 3) := by decide +kernel
theorem dX7_init_12 : decode cX7_init 12 = .ok (.aload_n 0, 1) := by decide +kernel
theorem dX7_init_13 : decode cX7_init 13 = .ok (.iconst 2, 1) := by decide +kernel
theorem dX7_init_14 : decode cX7_init 14 = .ok (.newarray .int, 2) := by decide +kernel
theorem dX7_init_16 : decode cX7_init 16 = .ok (.putfield 15, 3) := by decide +kernel
theorem dX7_init_19 : decode cX7_init 19 = .ok (.aload_n 0, 1) := by decide +kernel
theorem dX7_init_20 : decode cX7_init 20 = .ok (.bipush 6, 2) := by decide +kernel
theorem dX7_init_22 : decode cX7_init 22 = .ok (.newarray .int, 2) := by decide +kernel
theorem dX7_init_24 : decode cX7_init 24 = .ok (.putfield 19, 3) := by decide +kernel
theorem dX7_init_27 : decode cX7_init 27 = .ok (.aload_n 0, 1) := by decide +kernel
theorem dX7_init_28 : decode cX7_init 28 = .ok (.bipush 6, 2) := by decide +kernel
theorem dX7_init_30 : decode cX7_init 30 = .ok (.newarray .int, 2) := by decide +kernel
theorem dX7_init_32 : decode cX7_init 32 = .ok (.putfield 22, 3) := by decide +kernel
theorem dX7_init_35 : decode cX7_init 35 = .ok (.aload_n 0, 1) := by decide +kernel
theorem dX7_init_36 : decode cX7_init 36 = .ok (.bipush 6, 2) := by decide +kernel
theorem dX7_init_38 : decode cX7_init 38 = .ok (.newarray .int, 2) := by decide +kernel
theorem dX7_init_40 : decode cX7_init 40 = .ok (.putfield 25, 3) := by decide +kernel
theorem dX7_init_43 : decode cX7_init 43 = .ok (.aload_n 0, 1) := by decide +kernel
theorem dX7_init_44 : decode cX7_init 44 = .ok (.new 28, 3) := by decide +kernel
theorem dX7_init_47 : decode cX7_init 47 = .ok (.dup, 1) := by decide +kernel
theorem dX7_init_48 : decode cX7_init 48 = .ok (.invokespecial 30, 3) := by decide +kernel
theorem dX7_init_51 : decode cX7_init 51 = .ok (.putfield 31, 3) := by decide +kernel
theorem dX7_init_54 : decode cX7_init 54 = .ok (.aload_n 0, 1) := by decide +kernel
theorem dX7_init_55 : decode cX7_init 55 = .ok (.iconst 2, 1) := by decide +kernel
theorem dX7_init_56 : decode cX7_init 56 = .ok (.newarray .int, 2) := by decide +kernel
theorem dX7_init_58 : decode cX7_init 58 = .ok (.putfield 35, 3) := by decide +kernel
theorem dX7_init_61 : decode cX7_init 61 = .ok (.aload_n 0, 1) := by decide +kernel
theorem dX7_init_62 : decode cX7_init 62 = .ok (.sipush 200, 3) := by decide +kernel
theorem dX7_init_65 : decode cX7_init 65 = .ok (.newarray .boolean, 2) := by decide +kernel
theorem dX7_init_67 : decode cX7_init 67 = .ok (.putfield 38, 3) := by decide +kernel
theorem dX7_init_70 : decode cX7_init 70 = .ok (.aload_n 0, 1) := by decide +kernel
theorem dX7_init_71 : decode cX7_init 71 = .ok (.new 42, 3) := by decide +kernel
theorem dX7_init_74 : decode cX7_init 74 = .ok (.dup, 1) := by decide +kernel
theorem dX7_init_75 : decode cX7_init 75 = .ok (.invokespecial 44, 3) := by decide +kernel
theorem dX7_init_78 : decode cX7_init 78 = .ok (.putfield 45, 3) := by decide +kernel
theorem dX7_init_81 : decode cX7_init 81 = .ok (.return_, 1) := by decide +kernel
theorem dX7_clear_0 : decode cX7_clear 0 = .ok (.aload_n 0, 1) := by decide +kernel
theorem dX7_clear_1 : decode cX7_clear 1 = .ok (.iconst 0, 1) := by decide +kernel
theorem dX7_clear_2 : decode cX7_clear 2 = .ok (.putfield 49, 3) := by decide +kernel
theorem dX7_clear_5 : decode cX7_clear 5 = .ok (.aload_n 0, 1) := by decide +kernel
theorem dX7_clear_6 : decode cX7_clear 6 = .ok (.getfield 15, 3) := by decide +kernel
theorem dX7_clear_9 : decode cX7_clear 9 = .ok (.iconst 0, 1) := by decide +kernel
theorem dX7_clear_10 : decode cX7_clear 10 = .ok (.iconst (-1), 1) := by decide +kernel
theorem dX7_clear_11 : decode cX7_clear 11 = .ok (.iastore, 1) := by decide +kernel
theorem dX7_clear_12 : decode cX7_clear 12 = .ok (.aload_n 0, 1) := by decide +kernel
theorem dX7_clear_13 : decode cX7_clear 13 = .ok (.getfield 15, 3) := by decide +kernel
theorem dX7_clear_16 : decode cX7_clear 16 = .ok (.iconst 1, 1) := by decide +kernel
theorem dX7_clear_17 : decode cX7_clear 17 = .ok (.iconst (-1), 1) := by decide +kernel
theorem dX7_clear_18 : decode cX7_clear 18 = .ok (.iastore, 1) := by decide +kernel
theorem dX7_clear_19 : decode cX7_clear 19 = .ok (.aload_n 0, 1) := by decide +kernel
theorem dX7_clear_20 : decode cX7_clear 20 = .ok (.iconst 0, 1) := by decide +kernel
theorem dX7_clear_21 : decode cX7_clear 21 = .ok (.putfield 53, 3) := by decide +kernel
theorem dX7_clear_24 : decode cX7_clear 24 = .ok (.aload_n 0, 1) := by decide +kernel
theorem dX7_clear_25 : decode cX7_clear 25 = .ok (.iconst 0, 1) := by decide +kernel
theorem dX7_clear_26 : decode cX7_clear 26 = .ok (.putfield 56, 3) := by decide +kernel
theorem dX7_clear_29 : decode cX7_clear 29 = .ok (.aload_n 0, 1) := by decide +kernel
theorem dX7_clear_30 : decode cX7_clear 30 = .ok (.iconst 0, 1) := by decide +kernel
theorem dX7_clear_31 : decode cX7_clear 31 = .ok (.putfield 59, 3) := by decide +kernel
theorem dX7_clear_34 : decode cX7_clear 34 = .ok (.aload_n 0, 1) := by decide +kernel
theorem dX7_clear_35 : decode cX7_clear 35 = .ok (.iconst 0, 1) := by decide +kernel
theorem dX7_clear_36 : decode cX7_clear 36 = .ok (.putfield 62, 3) := by decide +kernel
theorem dX7_clear_39 : decode cX7_clear 39 = .ok (.return_, 1) := by decide +kernel
theorem dX7_setColumns_0 : decode cX7_setColumns 0 = .ok (.iconst 0, 1) := by decide +kernel
theorem dX7_setColumns_1 : decode cX7_setColumns 1 = .ok (.istore_n 3, 1) := by decide +kernel
theorem dX7_setColumns_2 : decode cX7_setColumns 2 = .ok (.iload_n 3, 1) := by decide +kernel
theorem dX7_setColumns_3 : decode cX7_setColumns 3 = .ok (.iload_n 2, 1) := by decide +kernel
theorem dX7_setColumns_4 : decode cX7_setColumns 4 = .ok (.if_icmp .ge 33, 3) := by decide +kernel
theorem dX7_setColumns_7 : decode cX7_setColumns 7 = .ok (.iload_n 3, 1) := by decide +kernel
theorem dX7_setColumns_8 : decode cX7_setColumns 8 = .ok (.aload_n 1, 1) := by decide +kernel
theorem dX7_setColumns_9 : decode cX7_setColumns 9 = .ok (.arraylength, 1) := by decide +kernel
theorem dX7_setColumns_10 : decode cX7_setColumns 10 = .ok (.if_icmp .ge 27, 3) := by decide +kernel
theorem dX7_setColumns_13 : decode cX7_setColumns 13 = .ok (.iload_n 3, 1) := by decide +kernel
theorem dX7_setColumns_14 : decode cX7_setColumns 14 = .ok (.aload_n 0, 1) := by decide +kernel
theorem dX7_setColumns_15 : decode cX7_setColumns 15 = .ok (.getfield 9, 3) := by decide +kernel
theorem dX7_setColumns_18 : decode cX7_setColumns 18 = .ok (.arraylength, 1) := by decide +kernel
theorem dX7_setColumns_19 : decode cX7_setColumns 19 = .ok (.if_icmp .ge 18, 3) := by decide +kernel
theorem dX7_setColumns_22 : decode cX7_setColumns 22 = .ok (.aload_n 0, 1) := by decide +kernel
theorem dX7_setColumns_23 : decode cX7_setColumns 23 = .ok (.getfield 9, 3) := by decide +kernel
theorem dX7_setColumns_26 : decode cX7_setColumns 26 = .ok (.iload_n 3, 1) := by decide +kernel
theorem dX7_setColumns_27 : decode cX7_setColumns 27 = .ok (.aload_n 1, 1) := by decide +kernel
theorem dX7_setColumns_28 : decode cX7_setColumns 28 = .ok (.iload_n 3, 1) := by decide +kernel
theorem dX7_setColumns_29 : decode cX7_setColumns 29 = .ok (.laload, 1) := by decide +kernel
theorem dX7_setColumns_30 : decode cX7_setColumns 30 = .ok (.lastore, 1) := by decide +kernel
theorem dX7_setColumns_31 : decode cX7_setColumns 31 = .ok (.iinc 3 1, 3) := by decide +kernel
theorem dX7_setColumns_34 : decode cX7_setColumns 34 = .ok (.goto (-32), 3) := by decide +kernel
theorem dX7_setColumns_37 : decode cX7_setColumns 37 = .ok (.aload_n 0, 1) := by decide +kernel
theorem dX7_setColumns_38 : decode cX7_setColumns 38 = .ok (.iload_n 2, 1) := by decide +kernel
theorem dX7_setColumns_39 : decode cX7_setColumns 39 = .ok (.putfield 65, 3) := by decide +kernel
theorem dX7_setColumns_42 : decode cX7_setColumns 42 = .ok (.return_, 1) := by decide +kernel
theorem dX7_copyColumns_0 : decode cX7_copyColumns 0 = .ok (.iconst 0, 1) := by decide +kernel
theorem dX7_copyColumns_1 : decode cX7_copyColumns 1 = .ok (.istore_n 2, 1) := by decide +kernel
theorem dX7_copyColumns_2 : decode cX7_copyColumns 2 = .ok (.iload_n 2, 1) := by decide +kernel
theorem dX7_copyColumns_3 : decode cX7_copyColumns 3 = .ok (.aload_n 0, 1) := by decide +kernel
theorem dX7_copyColumns_4 : decode cX7_copyColumns 4 = .ok (.getfield 65, 3) := by decide +kernel
theorem dX7_copyColumns_7 : decode cX7_copyColumns 7 = .ok (.if_icmp .ge 33, 3) := by decide +kernel
theorem dX7_copyColumns_10 : decode cX7_copyColumns 10 = .ok (.iload_n 2, 1) := by decide +kernel
theorem dX7_copyColumns_11 : decode cX7_copyColumns 11 = .ok (.aload_n 1, 1) := by decide +kernel
theorem dX7_copyColumns_12 : decode cX7_copyColumns 12 = .ok (.arraylength, 1) := by decide +kernel
theorem dX7_copyColumns_13 : decode cX7_copyColumns 13 = .ok (.if_icmp .ge 27, 3) := by decide +kernel
theorem dX7_copyColumns_16 : decode cX7_copyColumns 16 = .ok (.iload_n 2, 1) := by decide +kernel
theorem dX7_copyColumns_17 : decode cX7_copyColumns 17 = .ok (.aload_n 0, 1) := by decide +kernel
theorem dX7_copyColumns_18 : decode cX7_copyColumns 18 = .ok (.getfield 9, 3) := by decide +kernel
theorem dX7_copyColumns_21 : decode cX7_copyColumns 21 = .ok (.arraylength, 1) := by decide +kernel
theorem dX7_copyColumns_22 : decode cX7_copyColumns 22 = .ok (.if_icmp .ge 18, 3) := by decide +kernel
theorem dX7_copyColumns_25 : decode cX7_copyColumns 25 = .ok (.aload_n 1, 1) := by decide +kernel
theorem dX7_copyColumns_26 : decode cX7_copyColumns 26 = .ok (.iload_n 2, 1) := by decide +kernel
theorem dX7_copyColumns_27 : decode cX7_copyColumns 27 = .ok (.aload_n 0, 1) := by decide +kernel
theorem dX7_copyColumns_28 : decode cX7_copyColumns 28 = .ok (.getfield 9, 3) := by decide +kernel
theorem dX7_copyColumns_31 : decode cX7_copyColumns 31 = .ok (.iload_n 2, 1) := by decide +kernel
theorem dX7_copyColumns_32 : decode cX7_copyColumns 32 = .ok (.laload, 1) := by decide +kernel
theorem dX7_copyColumns_33 : decode cX7_copyColumns 33 = .ok (.lastore, 1) := by decide +kernel
theorem dX7_copyColumns_34 : decode cX7_copyColumns 34 = .ok (.iinc 2 1, 3) := by decide +kernel
theorem dX7_copyColumns_37 : decode cX7_copyColumns 37 = .ok (.goto (-35), 3) := by decide +kernel
theorem dX7_copyColumns_40 : decode cX7_copyColumns 40 = .ok (.aload_n 0, 1) := by decide +kernel
theorem dX7_copyColumns_41 : decode cX7_copyColumns 41 = .ok (.getfield 65, 3) := by decide +kernel
theorem dX7_copyColumns_44 : decode cX7_copyColumns 44 = .ok (.ireturn, 1) := by decide +kernel
theorem dX7_columnNamed_0 : decode cX7_columnNamed 0 = .ok (.iconst 0, 1) := by decide +kernel
theorem dX7_columnNamed_1 : decode cX7_columnNamed 1 = .ok (.istore_n 3, 1) := by decide +kernel
theorem dX7_columnNamed_2 : decode cX7_columnNamed 2 = .ok (.iload_n 3, 1) := by decide +kernel
theorem dX7_columnNamed_3 : decode cX7_columnNamed 3 = .ok (.aload_n 0, 1) := by decide +kernel
theorem dX7_columnNamed_4 : decode cX7_columnNamed 4 = .ok (.getfield 65, 3) := by decide +kernel
theorem dX7_columnNamed_7 : decode cX7_columnNamed 7 = .ok (.if_icmp .ge 31, 3) := by decide +kernel
theorem dX7_columnNamed_10 : decode cX7_columnNamed 10 = .ok (.iload_n 3, 1) := by decide +kernel
theorem dX7_columnNamed_11 : decode cX7_columnNamed 11 = .ok (.aload_n 0, 1) := by decide +kernel
theorem dX7_columnNamed_12 : decode cX7_columnNamed 12 = .ok (.getfield 9, 3) := by decide +kernel
theorem dX7_columnNamed_15 : decode cX7_columnNamed 15 = .ok (.arraylength, 1) := by decide +kernel
theorem dX7_columnNamed_16 : decode cX7_columnNamed 16 = .ok (.if_icmp .ge 22, 3) := by decide +kernel
theorem dX7_columnNamed_19 : decode cX7_columnNamed 19 = .ok (.aload_n 0, 1) := by decide +kernel
theorem dX7_columnNamed_20 : decode cX7_columnNamed 20 = .ok (.getfield 9, 3) := by decide +kernel
theorem dX7_columnNamed_23 : decode cX7_columnNamed 23 = .ok (.iload_n 3, 1) := by decide +kernel
theorem dX7_columnNamed_24 : decode cX7_columnNamed 24 = .ok (.laload, 1) := by decide +kernel
theorem dX7_columnNamed_25 : decode cX7_columnNamed 25 = .ok (.lload_n 1, 1) := by decide +kernel
theorem dX7_columnNamed_26 : decode cX7_columnNamed 26 = .ok (.lcmp, 1) := by decide +kernel
theorem dX7_columnNamed_27 : decode cX7_columnNamed 27 = .ok (.ifCond .ne 5, 3) := by decide +kernel
theorem dX7_columnNamed_30 : decode cX7_columnNamed 30 = .ok (.iload_n 3, 1) := by decide +kernel
theorem dX7_columnNamed_31 : decode cX7_columnNamed 31 = .ok (.ireturn, 1) := by decide +kernel
theorem dX7_columnNamed_32 : decode cX7_columnNamed 32 = .ok (.iinc 3 1, 3) := by decide +kernel
theorem dX7_columnNamed_35 : decode cX7_columnNamed 35 = .ok (.goto (-33), 3) := by decide +kernel
theorem dX7_columnNamed_38 : decode cX7_columnNamed 38 = .ok (.iconst (-1), 1) := by decide +kernel
theorem dX7_columnNamed_39 : decode cX7_columnNamed 39 = .ok (.ireturn, 1) := by decide +kernel
theorem dX7_columnAt_0 : decode cX7_columnAt 0 = .ok (.iload_n 1, 1) := by decide +kernel
theorem dX7_columnAt_1 : decode cX7_columnAt 1 = .ok (.ifCond .lt 21, 3) := by decide +kernel
theorem dX7_columnAt_4 : decode cX7_columnAt 4 = .ok (.iload_n 1, 1) := by decide +kernel
theorem dX7_columnAt_5 : decode cX7_columnAt 5 = .ok (.aload_n 0, 1) := by decide +kernel
theorem dX7_columnAt_6 : decode cX7_columnAt 6 = .ok (.getfield 9, 3) := by decide +kernel
theorem dX7_columnAt_9 : decode cX7_columnAt 9 = .ok (.arraylength, 1) := by decide +kernel
theorem dX7_columnAt_10 : decode cX7_columnAt 10 = .ok (.if_icmp .ge 12, 3) := by decide +kernel
theorem dX7_columnAt_13 : decode cX7_columnAt 13 = .ok (.aload_n 0, 1) := by decide +kernel
theorem dX7_columnAt_14 : decode cX7_columnAt 14 = .ok (.getfield 9, 3) := by decide +kernel
theorem dX7_columnAt_17 : decode cX7_columnAt 17 = .ok (.iload_n 1, 1) := by decide +kernel
theorem dX7_columnAt_18 : decode cX7_columnAt 18 = .ok (.laload, 1) := by decide +kernel
theorem dX7_columnAt_19 : decode cX7_columnAt 19 = .ok (.goto 4, 3) := by decide +kernel
theorem dX7_columnAt_22 : decode cX7_columnAt 22 = .ok (.lconst 0, 1) := by decide +kernel
theorem dX7_columnAt_23 : decode cX7_columnAt 23 = .ok (.lreturn, 1) := by decide +kernel
theorem dX7_hasColumnsOf_0 : decode cX7_hasColumnsOf 0 = .ok (.aload_n 0, 1) := by decide +kernel
theorem dX7_hasColumnsOf_1 : decode cX7_hasColumnsOf 1 = .ok (.getfield 65, 3) := by decide +kernel
theorem dX7_hasColumnsOf_4 : decode cX7_hasColumnsOf 4 = .ok (.aload_n 1, 1) := by decide +kernel
theorem dX7_hasColumnsOf_5 : decode cX7_hasColumnsOf 5 = .ok (.getfield 65, 3) := by decide +kernel
theorem dX7_hasColumnsOf_8 : decode cX7_hasColumnsOf 8 = .ok (.if_icmp .eq 5, 3) := by decide +kernel
theorem dX7_hasColumnsOf_11 : decode cX7_hasColumnsOf 11 = .ok (.iconst 0, 1) := by decide +kernel
theorem dX7_hasColumnsOf_12 : decode cX7_hasColumnsOf 12 = .ok (.ireturn, 1) := by decide +kernel
theorem dX7_hasColumnsOf_13 : decode cX7_hasColumnsOf 13 = .ok (.iconst 0, 1) := by decide +kernel
theorem dX7_hasColumnsOf_14 : decode cX7_hasColumnsOf 14 = .ok (.istore_n 2, 1) := by decide +kernel
theorem dX7_hasColumnsOf_15 : decode cX7_hasColumnsOf 15 = .ok (.iload_n 2, 1) := by decide +kernel
theorem dX7_hasColumnsOf_16 : decode cX7_hasColumnsOf 16 = .ok (.aload_n 0, 1) := by decide +kernel
theorem dX7_hasColumnsOf_17 : decode cX7_hasColumnsOf 17 = .ok (.getfield 65, 3) := by decide +kernel
theorem dX7_hasColumnsOf_20 : decode cX7_hasColumnsOf 20 = .ok (.if_icmp .ge 36, 3) := by decide +kernel
theorem dX7_hasColumnsOf_23 : decode cX7_hasColumnsOf 23 = .ok (.iload_n 2, 1) := by decide +kernel
theorem dX7_hasColumnsOf_24 : decode cX7_hasColumnsOf 24 = .ok (.aload_n 0, 1) := by decide +kernel
theorem dX7_hasColumnsOf_25 : decode cX7_hasColumnsOf 25 = .ok (.getfield 9, 3) := by decide +kernel
theorem dX7_hasColumnsOf_28 : decode cX7_hasColumnsOf 28 = .ok (.arraylength, 1) := by decide +kernel
theorem dX7_hasColumnsOf_29 : decode cX7_hasColumnsOf 29 = .ok (.if_icmp .ge 27, 3) := by decide +kernel
theorem dX7_hasColumnsOf_32 : decode cX7_hasColumnsOf 32 = .ok (.aload_n 0, 1) := by decide +kernel
theorem dX7_hasColumnsOf_33 : decode cX7_hasColumnsOf 33 = .ok (.getfield 9, 3) := by decide +kernel
theorem dX7_hasColumnsOf_36 : decode cX7_hasColumnsOf 36 = .ok (.iload_n 2, 1) := by decide +kernel
theorem dX7_hasColumnsOf_37 : decode cX7_hasColumnsOf 37 = .ok (.laload, 1) := by decide +kernel
theorem dX7_hasColumnsOf_38 : decode cX7_hasColumnsOf 38 = .ok (.aload_n 1, 1) := by decide +kernel
theorem dX7_hasColumnsOf_39 : decode cX7_hasColumnsOf 39 = .ok (.getfield 9, 3) := by decide +kernel
theorem dX7_hasColumnsOf_42 : decode cX7_hasColumnsOf 42 = .ok (.iload_n 2, 1) := by decide +kernel
theorem dX7_hasColumnsOf_43 : decode cX7_hasColumnsOf 43 = .ok (.laload, 1) := by decide +kernel
theorem dX7_hasColumnsOf_44 : decode cX7_hasColumnsOf 44 = .ok (.lcmp, 1) := by decide +kernel
theorem dX7_hasColumnsOf_45 : decode cX7_hasColumnsOf 45 = .ok (.ifCond .eq 5, 3) := by decide +kernel
theorem dX7_hasColumnsOf_48 : decode cX7_hasColumnsOf 48 = .ok (.iconst 0, 1) := by decide +kernel
theorem dX7_hasColumnsOf_49 : decode cX7_hasColumnsOf 49 = .ok (.ireturn, 1) := by decide +kernel
theorem dX7_hasColumnsOf_50 : decode cX7_hasColumnsOf 50 = .ok (.iinc 2 1, 3) := by decide +kernel
theorem dX7_hasColumnsOf_53 : decode cX7_hasColumnsOf 53 = .ok (.goto (-38), 3) := by decide +kernel
theorem dX7_hasColumnsOf_56 : decode cX7_hasColumnsOf 56 = .ok (.iconst 1, 1) := by decide +kernel
theorem dX7_hasColumnsOf_57 : decode cX7_hasColumnsOf 57 = .ok (.ireturn, 1) := by decide +kernel
theorem dX7_setPart_0 : decode cX7_setPart 0 = .ok (.iload_n 1, 1) := by decide +kernel
theorem dX7_setPart_1 : decode cX7_setPart 1 = .ok (.ifCond .lt 19, 3) := by decide +kernel
theorem dX7_setPart_4 : decode cX7_setPart 4 = .ok (.iload_n 1, 1) := by decide +kernel
theorem dX7_setPart_5 : decode cX7_setPart 5 = .ok (.aload_n 0, 1) := by decide +kernel
theorem dX7_setPart_6 : decode cX7_setPart 6 = .ok (.getfield 25, 3) := by decide +kernel
theorem dX7_setPart_9 : decode cX7_setPart 9 = .ok (.arraylength, 1) := by decide +kernel
theorem dX7_setPart_10 : decode cX7_setPart 10 = .ok (.if_icmp .ge 10, 3) := by decide +kernel
theorem dX7_setPart_13 : decode cX7_setPart 13 = .ok (.aload_n 0, 1) := by decide +kernel
theorem dX7_setPart_14 : decode cX7_setPart 14 = .ok (.getfield 25, 3) := by decide +kernel
theorem dX7_setPart_17 : decode cX7_setPart 17 = .ok (.iload_n 1, 1) := by decide +kernel
theorem dX7_setPart_18 : decode cX7_setPart 18 = .ok (.iload_n 2, 1) := by decide +kernel
theorem dX7_setPart_19 : decode cX7_setPart 19 = .ok (.iastore, 1) := by decide +kernel
theorem dX7_setPart_20 : decode cX7_setPart 20 = .ok (.return_, 1) := by decide +kernel
theorem dX7_setCode_0 : decode cX7_setCode 0 = .ok (.iload_n 1, 1) := by decide +kernel
theorem dX7_setCode_1 : decode cX7_setCode 1 = .ok (.ifCond .lt 26, 3) := by decide +kernel
theorem dX7_setCode_4 : decode cX7_setCode 4 = .ok (.iload_n 1, 1) := by decide +kernel
theorem dX7_setCode_5 : decode cX7_setCode 5 = .ok (.aload_n 0, 1) := by decide +kernel
theorem dX7_setCode_6 : decode cX7_setCode 6 = .ok (.getfield 19, 3) := by decide +kernel
theorem dX7_setCode_9 : decode cX7_setCode 9 = .ok (.arraylength, 1) := by decide +kernel
theorem dX7_setCode_10 : decode cX7_setCode 10 = .ok (.if_icmp .ge 17, 3) := by decide +kernel
theorem dX7_setCode_13 : decode cX7_setCode 13 = .ok (.aload_n 0, 1) := by decide +kernel
theorem dX7_setCode_14 : decode cX7_setCode 14 = .ok (.getfield 19, 3) := by decide +kernel
theorem dX7_setCode_17 : decode cX7_setCode 17 = .ok (.iload_n 1, 1) := by decide +kernel
theorem dX7_setCode_18 : decode cX7_setCode 18 = .ok (.iload_n 2, 1) := by decide +kernel
theorem dX7_setCode_19 : decode cX7_setCode 19 = .ok (.iastore, 1) := by decide +kernel
theorem dX7_setCode_20 : decode cX7_setCode 20 = .ok (.aload_n 0, 1) := by decide +kernel
theorem dX7_setCode_21 : decode cX7_setCode 21 = .ok (.getfield 22, 3) := by decide +kernel
theorem dX7_setCode_24 : decode cX7_setCode 24 = .ok (.iload_n 1, 1) := by decide +kernel
theorem dX7_setCode_25 : decode cX7_setCode 25 = .ok (.iload_n 3, 1) := by decide +kernel
theorem dX7_setCode_26 : decode cX7_setCode 26 = .ok (.iastore, 1) := by decide +kernel
theorem dX7_setCode_27 : decode cX7_setCode 27 = .ok (.return_, 1) := by decide +kernel
theorem dX7_dropRows_0 : decode cX7_dropRows 0 = .ok (.aload_n 0, 1) := by decide +kernel
theorem dX7_dropRows_1 : decode cX7_dropRows 1 = .ok (.getfield 31, 3) := by decide +kernel
theorem dX7_dropRows_4 : decode cX7_dropRows 4 = .ok (.aload_n 0, 1) := by decide +kernel
theorem dX7_dropRows_5 : decode cX7_dropRows 5 = .ok (.getfield 65, 3) := by decide +kernel
theorem dX7_dropRows_8 : decode cX7_dropRows 8 = .ok (.invokevirtual 68, 3) := by decide +kernel
theorem dX7_dropRows_11 : decode cX7_dropRows 11 = .ok (.aload_n 0, 1) := by decide +kernel
theorem dX7_dropRows_12 : decode cX7_dropRows 12 = .ok (.iconst (-1), 1) := by decide +kernel
theorem dX7_dropRows_13 : decode cX7_dropRows 13 = .ok (.putfield 72, 3) := by decide +kernel
theorem dX7_dropRows_16 : decode cX7_dropRows 16 = .ok (.aload_n 0, 1) := by decide +kernel
theorem dX7_dropRows_17 : decode cX7_dropRows 17 = .ok (.getfield 35, 3) := by decide +kernel
theorem dX7_dropRows_20 : decode cX7_dropRows 20 = .ok (.iconst 0, 1) := by decide +kernel
theorem dX7_dropRows_21 : decode cX7_dropRows 21 = .ok (.iconst 0, 1) := by decide +kernel
theorem dX7_dropRows_22 : decode cX7_dropRows 22 = .ok (.iastore, 1) := by decide +kernel
theorem dX7_dropRows_23 : decode cX7_dropRows 23 = .ok (.aload_n 0, 1) := by decide +kernel
theorem dX7_dropRows_24 : decode cX7_dropRows 24 = .ok (.getfield 35, 3) := by decide +kernel
theorem dX7_dropRows_27 : decode cX7_dropRows 27 = .ok (.iconst 1, 1) := by decide +kernel
theorem dX7_dropRows_28 : decode cX7_dropRows 28 = .ok (.iconst 0, 1) := by decide +kernel
theorem dX7_dropRows_29 : decode cX7_dropRows 29 = .ok (.iastore, 1) := by decide +kernel
theorem dX7_dropRows_30 : decode cX7_dropRows 30 = .ok (.aload_n 0, 1) := by decide +kernel
theorem dX7_dropRows_31 : decode cX7_dropRows 31 = .ok (.getfield 45, 3) := by decide +kernel
theorem dX7_dropRows_34 : decode cX7_dropRows 34 = .ok (.invokevirtual 75, 3) := by decide +kernel
theorem dX7_dropRows_37 : decode cX7_dropRows 37 = .ok (.return_, 1) := by decide +kernel
theorem dX8_init_0 : decode cX8_init 0 = .ok (.aload_n 0, 1) := by decide +kernel
theorem dX8_init_1 : decode cX8_init 1 = .ok (.invokespecial 3, 3) := by decide +kernel
theorem dX8_init_4 : decode cX8_init 4 = .ok (.aload_n 0, 1) := by decide +kernel
theorem dX8_init_5 : decode cX8_init 5 = .ok (.sipush 200, 3) := by decide +kernel
theorem dX8_init_8 : decode cX8_init 8 = .ok (.newarray .int, 2) := by decide +kernel
theorem dX8_init_10 : decode cX8_init 10 = .ok (.putfield 9, 3) := by decide +kernel
theorem dX8_init_13 : decode cX8_init 13 = .ok (.aload_n 0, 1) := by decide +kernel
theorem dX8_init_14 : decode cX8_init 14 = .ok (.sipush 1200, 3) := by decide +kernel
theorem dX8_init_17 : decode cX8_init 17 = .ok (.newarray .long, 2) := by decide +kernel
theorem dX8_init_19 : decode cX8_init 19 = .ok (.putfield 15, 3) := by decide +kernel
theorem dX8_init_22 : decode cX8_init 22 = .ok (.return_, 1) := by decide +kernel
theorem dX8_clear_0 : decode cX8_clear 0 = .ok (.aload_n 0, 1) := by decide +kernel
theorem dX8_clear_1 : decode cX8_clear 1 = .ok (.iconst 0, 1) := by decide +kernel
theorem dX8_clear_2 : decode cX8_clear 2 = .ok (.putfield 19, 3) := by decide +kernel
theorem dX8_clear_5 : decode cX8_clear 5 = .ok (.aload_n 0, 1) := by decide +kernel
theorem dX8_clear_6 : decode cX8_clear 6 = .ok (.iload_n 1, 1) := by decide +kernel
theorem dX8_clear_7 : decode cX8_clear 7 = .ok (.putfield 23, 3) := by decide +kernel
theorem dX8_clear_10 : decode cX8_clear 10 = .ok (.return_, 1) := by decide +kernel
theorem dX8_add_0 : decode cX8_add 0 = .ok (.aload_n 0, 1) := by decide +kernel
theorem dX8_add_1 : decode cX8_add 1 = .ok (.getfield 19, 3) := by decide +kernel
theorem dX8_add_4 : decode cX8_add 4 = .ok (.aload_n 0, 1) := by decide +kernel
theorem dX8_add_5 : decode cX8_add 5 = .ok (.getfield 9, 3) := by decide +kernel
theorem dX8_add_8 : decode cX8_add 8 = .ok (.arraylength, 1) := by decide +kernel
theorem dX8_add_9 : decode cX8_add 9 = .ok (.if_icmp .lt 5, 3) := by decide +kernel
theorem dX8_add_12 : decode cX8_add 12 = .ok (.iconst 0, 1) := by decide +kernel
theorem dX8_add_13 : decode cX8_add 13 = .ok (.ireturn, 1) := by decide +kernel
theorem dX8_add_14 : decode cX8_add 14 = .ok (.aload_n 0, 1) := by decide +kernel
theorem dX8_add_15 : decode cX8_add 15 = .ok (.getfield 9, 3) := by decide +kernel
theorem dX8_add_18 : decode cX8_add 18 = .ok (.aload_n 0, 1) := by decide +kernel
theorem dX8_add_19 : decode cX8_add 19 = .ok (.getfield 19, 3) := by decide +kernel
theorem dX8_add_22 : decode cX8_add 22 = .ok (.aload_n 1, 1) := by decide +kernel
theorem dX8_add_23 : decode cX8_add 23 = .ok (.getfield 26, 3) := by decide +kernel
theorem dX8_add_26 : decode cX8_add 26 = .ok (.iastore, 1) := by decide +kernel
theorem dX8_add_27 : decode cX8_add 27 = .ok (.iconst 0, 1) := by decide +kernel
theorem dX8_add_28 : decode cX8_add 28 = .ok (.istore_n 2, 1) := by decide +kernel
theorem dX8_add_29 : decode cX8_add 29 = .ok (.iload_n 2, 1) := by decide +kernel
theorem dX8_add_30 : decode cX8_add 30 = .ok (.aload_n 1, 1) := by decide +kernel
theorem dX8_add_31 : decode cX8_add 31 = .ok (.getfield 31, 3) := by decide +kernel
theorem dX8_add_34 : decode cX8_add 34 = .ok (.arraylength, 1) := by decide +kernel
theorem dX8_add_35 : decode cX8_add 35 = .ok (.if_icmp .ge 35, 3) := by decide +kernel
theorem dX8_add_38 : decode cX8_add 38 = .ok (.iload_n 2, 1) := by decide +kernel
theorem dX8_add_39 : decode cX8_add 39 = .ok (.bipush 6, 2) := by decide +kernel
theorem dX8_add_41 : decode cX8_add 41 = .ok (.if_icmp .ge 29, 3) := by decide +kernel
theorem dX8_add_44 : decode cX8_add 44 = .ok (.aload_n 0, 1) := by decide +kernel
theorem dX8_add_45 : decode cX8_add 45 = .ok (.getfield 15, 3) := by decide +kernel
theorem dX8_add_48 : decode cX8_add 48 = .ok (.aload_n 0, 1) := by decide +kernel
theorem dX8_add_49 : decode cX8_add 49 = .ok (.getfield 19, 3) := by decide +kernel
theorem dX8_add_52 : decode cX8_add 52 = .ok (.bipush 6, 2) := by decide +kernel
theorem dX8_add_54 : decode cX8_add 54 = .ok (.imul, 1) := by decide +kernel
theorem dX8_add_55 : decode cX8_add 55 = .ok (.iload_n 2, 1) := by decide +kernel
theorem dX8_add_56 : decode cX8_add 56 = .ok (.iadd, 1) := by decide +kernel
theorem dX8_add_57 : decode cX8_add 57 = .ok (.aload_n 1, 1) := by decide +kernel
theorem dX8_add_58 : decode cX8_add 58 = .ok (.getfield 31, 3) := by decide +kernel
theorem dX8_add_61 : decode cX8_add 61 = .ok (.iload_n 2, 1) := by decide +kernel
theorem dX8_add_62 : decode cX8_add 62 = .ok (.laload, 1) := by decide +kernel
theorem dX8_add_63 : decode cX8_add 63 = .ok (.lastore, 1) := by decide +kernel
theorem dX8_add_64 : decode cX8_add 64 = .ok (.iinc 2 1, 3) := by decide +kernel
theorem dX8_add_67 : decode cX8_add 67 = .ok (.goto (-38), 3) := by decide +kernel
theorem dX8_add_70 : decode cX8_add 70 = .ok (.aload_n 0, 1) := by decide +kernel
theorem dX8_add_71 : decode cX8_add 71 = .ok (.dup, 1) := by decide +kernel
theorem dX8_add_72 : decode cX8_add 72 = .ok (.getfield 19, 3) := by decide +kernel
theorem dX8_add_75 : decode cX8_add 75 = .ok (.iconst 1, 1) := by decide +kernel
theorem dX8_add_76 : decode cX8_add 76 = .ok (.iadd, 1) := by decide +kernel
theorem dX8_add_77 : decode cX8_add 77 = .ok (.putfield 19, 3) := by decide +kernel
theorem dX8_add_80 : decode cX8_add 80 = .ok (.iconst 1, 1) := by decide +kernel
theorem dX8_add_81 : decode cX8_add 81 = .ok (.ireturn, 1) := by decide +kernel
theorem dX8_timeOf_0 : decode cX8_timeOf 0 = .ok (.iload_n 1, 1) := by decide +kernel
theorem dX8_timeOf_1 : decode cX8_timeOf 1 = .ok (.ifCond .lt 20, 3) := by decide +kernel
theorem dX8_timeOf_4 : decode cX8_timeOf 4 = .ok (.iload_n 1, 1) := by decide +kernel
