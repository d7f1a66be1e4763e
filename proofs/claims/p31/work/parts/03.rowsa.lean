theorem dX0_init_0 : decode cX0_init 0 = .ok (.aload_n 0, 1) := by decide +kernel
theorem dX0_init_1 : decode cX0_init 1 = .ok (.invokespecial 1, 3) := by decide +kernel
theorem dX0_init_4 : decode cX0_init 4 = .ok (.return_, 1) := by decide +kernel
theorem dX1_init_0 : decode cX1_init 0 = .ok (.aload_n 0, 1) := by decide +kernel
theorem dX1_init_1 : decode cX1_init 1 = .ok (.invokespecial 3, 3) := by decide +kernel
theorem dX1_init_4 : decode cX1_init 4 = .ok (.aload_n 0, 1) := by decide +kernel
theorem dX1_init_5 : decode cX1_init 5 = .ok (.bipush 60, 2) := by decide +kernel
theorem dX1_init_7 : decode cX1_init 7 = .ok (.anewarray 9, 3) := by decide +kernel
theorem dX1_init_10 : decode cX1_init 10 = .ok (.putfield 11, 3) := by decide +kernel
theorem dX1_init_13 : decode cX1_init 13 = .ok (.aload_n 0, 1) := by decide +kernel
theorem dX1_init_14 : decode cX1_init 14 = .ok (.new 9, 3) := by decide +kernel
theorem dX1_init_17 : decode cX1_init 17 = .ok (.dup, 1) := by decide +kernel
theorem dX1_init_18 : decode cX1_init 18 = .ok (.invokespecial 17, 3) := by decide +kernel
theorem dX1_init_21 : decode cX1_init 21 = .ok (.putfield 18, 3) := by decide +kernel
theorem dX1_init_24 : decode cX1_init 24 = .ok (.aload_n 0, 1) := by decide +kernel
theorem dX1_init_25 : decode cX1_init 25 = .ok (.new 9, 3) := by decide +kernel
theorem dX1_init_28 : decode cX1_init 28 = .ok (.dup, 1) := by decide +kernel
theorem dX1_init_29 : decode cX1_init 29 = .ok (.invokespecial 17, 3) := by decide +kernel
theorem dX1_init_32 : decode cX1_init 32 = .ok (.putfield 22, 3) := by decide +kernel
theorem dX1_init_35 : decode cX1_init 35 = .ok (.aload_n 0, 1) := by decide +kernel
theorem dX1_init_36 : decode cX1_init 36 = .ok (.new 9, 3) := by decide +kernel
theorem dX1_init_39 : decode cX1_init 39 = .ok (.dup, 1) := by decide +kernel
theorem dX1_init_40 : decode cX1_init 40 = .ok (.invokespecial 17, 3) := by decide +kernel
theorem dX1_init_43 : decode cX1_init 43 = .ok (.putfield 25, 3) := by decide +kernel
theorem dX1_init_46 : decode cX1_init 46 = .ok (.aload_n 0, 1) := by decide +kernel
theorem dX1_init_47 : decode cX1_init 47 = .ok (.aload_n 1, 1) := by decide +kernel
theorem dX1_init_48 : decode cX1_init 48 = .ok (.putfield 28, 3) := by decide +kernel
theorem dX1_init_51 : decode cX1_init 51 = .ok (.iconst 0, 1) := by decide +kernel
theorem dX1_init_52 : decode cX1_init 52 = .ok (.istore_n 2, 1) := by decide +kernel
theorem dX1_init_53 : decode cX1_init 53 = .ok (.iload_n 2, 1) := by decide +kernel
theorem dX1_init_54 : decode cX1_init 54 = .ok (.aload_n 0, 1) := by decide +kernel
theorem dX1_init_55 : decode cX1_init 55 = .ok (.getfield 11, 3) := by decide +kernel
theorem dX1_init_58 : decode cX1_init 58 = .ok (.arraylength, 1) := by decide +kernel
theorem dX1_init_59 : decode cX1_init 59 = .ok (.if_icmp .ge 22, 3) := by decide +kernel
theorem dX1_init_62 : decode cX1_init 62 = .ok (.aload_n 0, 1) := by decide +kernel
theorem dX1_init_63 : decode cX1_init 63 = .ok (.getfield 11, 3) := by decide +kernel
theorem dX1_init_66 : decode cX1_init 66 = .ok (.iload_n 2, 1) := by decide +kernel
theorem dX1_init_67 : decode cX1_init 67 = .ok (.new 9, 3) := by decide +kernel
theorem dX1_init_70 : decode cX1_init 70 = .ok (.dup, 1) := by decide +kernel
theorem dX1_init_71 : decode cX1_init 71 = .ok (.invokespecial 17, 3) := by decide +kernel
theorem dX1_init_74 : decode cX1_init 74 = .ok (.aastore, 1) := by decide +kernel
theorem dX1_init_75 : decode cX1_init 75 = .ok (.iinc 2 1, 3) := by decide +kernel
theorem dX1_init_78 : decode cX1_init 78 = .ok (.goto (-25), 3) := by decide +kernel
theorem dX1_init_81 : decode cX1_init 81 = .ok (.return_, 1) := by decide +kernel
theorem dX1_start_0 : decode cX1_start 0 = .ok (.aload_n 0, 1) := by decide +kernel
theorem dX1_start_1 : decode cX1_start 1 = .ok (.aload_n 1, 1) := by decide +kernel
theorem dX1_start_2 : decode cX1_start 2 = .ok (.putfield 28, 3) := by decide +kernel
theorem dX1_start_5 : decode cX1_start 5 = .ok (.iconst 0, 1) := by decide +kernel
theorem dX1_start_6 : decode cX1_start 6 = .ok (.istore_n 2, 1) := by decide +kernel
theorem dX1_start_7 : decode cX1_start 7 = .ok (.iload_n 2, 1) := by decide +kernel
theorem dX1_start_8 : decode cX1_start 8 = .ok (.aload_n 0, 1) := by decide +kernel
theorem dX1_start_9 : decode cX1_start 9 = .ok (.getfield 28, 3) := by decide +kernel
theorem dX1_start_12 : decode cX1_start 12 = .ok (.getfield 32, 3) := by decide +kernel
theorem dX1_start_15 : decode cX1_start 15 = .ok (.if_icmp .ge 21, 3) := by decide +kernel
theorem dX1_start_18 : decode cX1_start 18 = .ok (.aload_n 0, 1) := by decide +kernel
theorem dX1_start_19 : decode cX1_start 19 = .ok (.getfield 28, 3) := by decide +kernel
theorem dX1_start_22 : decode cX1_start 22 = .ok (.getfield 38, 3) := by decide +kernel
theorem dX1_start_25 : decode cX1_start 25 = .ok (.iload_n 2, 1) := by decide +kernel
theorem dX1_start_26 : decode cX1_start 26 = .ok (.aaload, 1) := by decide +kernel
theorem dX1_start_27 : decode cX1_start 27 = .ok (.invokevirtual 42, 3) := by decide +kernel
theorem dX1_start_30 : decode cX1_start 30 = .ok (.iinc 2 1, 3) := by decide +kernel
theorem dX1_start_33 : decode cX1_start 33 = .ok (.goto (-26), 3) := by decide +kernel
theorem dX1_start_36 : decode cX1_start 36 = .ok (.iconst 0, 1) := by decide +kernel
theorem dX1_start_37 : decode cX1_start 37 = .ok (.istore_n 2, 1) := by decide +kernel
theorem dX1_start_38 : decode cX1_start 38 = .ok (.iload_n 2, 1) := by decide +kernel
theorem dX1_start_39 : decode cX1_start 39 = .ok (.aload_n 0, 1) := by decide +kernel
theorem dX1_start_40 : decode cX1_start 40 = .ok (.getfield 28, 3) := by decide +kernel
theorem dX1_start_43 : decode cX1_start 43 = .ok (.getfield 47, 3) := by decide +kernel
theorem dX1_start_46 : decode cX1_start 46 = .ok (.if_icmp .ge 22, 3) := by decide +kernel
theorem dX1_start_49 : decode cX1_start 49 = .ok (.aload_n 0, 1) := by decide +kernel
theorem dX1_start_50 : decode cX1_start 50 = .ok (.getfield 28, 3) := by decide +kernel
theorem dX1_start_53 : decode cX1_start 53 = .ok (.getfield 50, 3) := by decide +kernel
theorem dX1_start_56 : decode cX1_start 56 = .ok (.iload_n 2, 1) := by decide +kernel
theorem dX1_start_57 : decode cX1_start 57 = .ok (.aaload, 1) := by decide +kernel
theorem dX1_start_58 : decode cX1_start 58 = .ok (.iconst 0, 1) := by decide +kernel
theorem dX1_start_59 : decode cX1_start 59 = .ok (.putfield 54, 3) := by decide +kernel
theorem dX1_start_62 : decode cX1_start 62 = .ok (.iinc 2 1, 3) := by decide +kernel
theorem dX1_start_65 : decode cX1_start 65 = .ok (.goto (-27), 3) := by decide +kernel
theorem dX1_start_68 : decode cX1_start 68 = .ok (.aload_n 0, 1) := by decide +kernel
theorem dX1_start_69 : decode cX1_start 69 = .ok (.iconst 0, 1) := by decide +kernel
theorem dX1_start_70 : decode cX1_start 70 = .ok (.putfield 59, 3) := by decide +kernel
theorem dX1_start_73 : decode cX1_start 73 = .ok (.aload_n 0, 1) := by decide +kernel
theorem dX1_start_74 : decode cX1_start 74 = .ok (.iconst 0, 1) := by decide +kernel
theorem dX1_start_75 : decode cX1_start 75 = .ok (.putfield 62, 3) := by decide +kernel
theorem dX1_start_78 : decode cX1_start 78 = .ok (.aload_n 0, 1) := by decide +kernel
theorem dX1_start_79 : decode cX1_start 79 = .ok (.iconst 0, 1) := by decide +kernel
theorem dX1_start_80 : decode cX1_start 80 = .ok (.putfield 65, 3) := by decide +kernel
theorem dX1_start_83 : decode cX1_start 83 = .ok (.aload_n 0, 1) := by decide +kernel
theorem dX1_start_84 : decode cX1_start 84 = .ok (.iconst 0, 1) := by decide +kernel
theorem dX1_start_85 : decode cX1_start 85 = .ok (.putfield 69, 3) := by decide +kernel
theorem dX1_start_88 : decode cX1_start 88 = .ok (.return_, 1) := by decide +kernel
theorem dX1_perform_0 : decode cX1_perform 0 = .ok (.aload_n 0, 1) := by decide +kernel
theorem dX1_perform_1 : decode cX1_perform 1 = .ok (.iconst 0, 1) := by decide +kernel
theorem dX1_perform_2 : decode cX1_perform 2 = .ok (.putfield 72, 3) := by decide +kernel
theorem dX1_perform_5 : decode cX1_perform 5 = .ok (.aload_n 1, 1) := by decide +kernel
theorem dX1_perform_6 : decode cX1_perform 6 = .ok (.getfield 75, 3) := by decide +kernel
theorem dX1_perform_9 : decode cX1_perform 9 = .ok (.tableswitch 51 0 2 #[27, 33, 42], 27) := by decide +kernel
theorem dX1_perform_36 : decode cX1_perform 36 = .ok (.aload_n 0, 1) := by decide +kernel
theorem dX1_perform_37 : decode cX1_perform 37 = .ok (.aload_n 1, 1) := by decide +kernel
theorem dX1_perform_38 : decode cX1_perform 38 = .ok (.invokevirtual 80, 3) := by decide +kernel
theorem dX1_perform_41 : decode cX1_perform 41 = .ok (.ireturn, 1) := by decide +kernel
theorem dX1_perform_42 : decode cX1_perform 42 = .ok (.aload_n 0, 1) := by decide +kernel
theorem dX1_perform_43 : decode cX1_perform 43 = .ok (.aload_n 1, 1) := by decide +kernel
theorem dX1_perform_44 : decode cX1_perform 44 = .ok (.getfield 84, 3) := by decide +kernel
theorem dX1_perform_47 : decode cX1_perform 47 = .ok (.invokevirtual 87, 3) := by decide +kernel
theorem dX1_perform_50 : decode cX1_perform 50 = .ok (.ireturn, 1) := by decide +kernel
theorem dX1_perform_51 : decode cX1_perform 51 = .ok (.aload_n 0, 1) := by decide +kernel
theorem dX1_perform_52 : decode cX1_perform 52 = .ok (.aload_n 1, 1) := by decide +kernel
theorem dX1_perform_53 : decode cX1_perform 53 = .ok (.getfield 84, 3) := by decide +kernel
theorem dX1_perform_56 : decode cX1_perform 56 = .ok (.invokevirtual 91, 3) := by decide +kernel
theorem dX1_perform_59 : decode cX1_perform 59 = .ok (.ireturn, 1) := by decide +kernel
theorem dX1_perform_60 : decode cX1_perform 60 = .ok (.aload_n 0, 1) := by decide +kernel
theorem dX1_perform_61 : decode cX1_perform 61 = .ok (.getfield 65, 3) := by decide +kernel
theorem dX1_perform_64 : decode cX1_perform 64 = .ok (.istore_n 2, 1) := by decide +kernel
theorem dX1_perform_65 : decode cX1_perform 65 = .ok (.aload_n 0, 1) := by decide +kernel
theorem dX1_perform_66 : decode cX1_perform 66 = .ok (.iconst 0, 1) := by decide +kernel
theorem dX1_perform_67 : decode cX1_perform 67 = .ok (.putfield 65, 3) := by decide +kernel
theorem dX1_perform_70 : decode cX1_perform 70 = .ok (.iload_n 2, 1) := by decide +kernel
theorem dX1_perform_71 : decode cX1_perform 71 = .ok (.ireturn, 1) := by decide +kernel
theorem dX1_runSteps_0 : decode cX1_runSteps 0 = .ok (.iconst 0, 1) := by decide +kernel
theorem dX1_runSteps_1 : decode cX1_runSteps 1 = .ok (.istore_n 1, 1) := by decide +kernel
theorem dX1_runSteps_2 : decode cX1_runSteps 2 = .ok (.iload_n 1, 1) := by decide +kernel
theorem dX1_runSteps_3 : decode cX1_runSteps 3 = .ok (.aload_n 0, 1) := by decide +kernel
theorem dX1_runSteps_4 : decode cX1_runSteps 4 = .ok (.getfield 28, 3) := by decide +kernel
theorem dX1_runSteps_7 : decode cX1_runSteps 7 = .ok (.getfield 32, 3) := by decide +kernel
theorem dX1_runSteps_10 : decode cX1_runSteps 10 = .ok (.if_icmp .ge 67, 3) := by decide +kernel
theorem dX1_runSteps_13 : decode cX1_runSteps 13 = .ok (.aload_n 0, 1) := by decide +kernel
theorem dX1_runSteps_14 : decode cX1_runSteps 14 = .ok (.getfield 28, 3) := by decide +kernel
theorem dX1_runSteps_17 : decode cX1_runSteps 17 = .ok (.getfield 38, 3) := by decide +kernel
theorem dX1_runSteps_20 : decode cX1_runSteps 20 = .ok (.iload_n 1, 1) := by decide +kernel
theorem dX1_runSteps_21 : decode cX1_runSteps 21 = .ok (.aaload, 1) := by decide +kernel
theorem dX1_runSteps_22 : decode cX1_runSteps 22 = .ok (.astore_n 2, 1) := by decide +kernel
theorem dX1_runSteps_23 : decode cX1_runSteps 23 = .ok (.aload_n 2, 1) := by decide +kernel
theorem dX1_runSteps_24 : decode cX1_runSteps 24 = .ok (.getfield 94, 3) := by decide +kernel
theorem dX1_runSteps_27 : decode cX1_runSteps 27 = .ok (.ifCond .ne 6, 3) := by decide +kernel
theorem dX1_runSteps_30 : decode cX1_runSteps 30 = .ok (.goto 41, 3) := by decide +kernel
theorem dX1_runSteps_33 : decode cX1_runSteps 33 = .ok (.aload_n 0, 1) := by decide +kernel
theorem dX1_runSteps_34 : decode cX1_runSteps 34 = .ok (.iload_n 1, 1) := by decide +kernel
theorem dX1_runSteps_35 : decode cX1_runSteps 35 = .ok (.aload_n 2, 1) := by decide +kernel
theorem dX1_runSteps_36 : decode cX1_runSteps 36 = .ok (.iconst 0, 1) := by decide +kernel
theorem dX1_runSteps_37 : decode cX1_runSteps 37 = .ok (.invokevirtual 97, 3) := by decide +kernel
theorem dX1_runSteps_40 : decode cX1_runSteps 40 = .ok (.aload_n 0, 1) := by decide +kernel
theorem dX1_runSteps_41 : decode cX1_runSteps 41 = .ok (.iload_n 1, 1) := by decide +kernel
theorem dX1_runSteps_42 : decode cX1_runSteps 42 = .ok (.aload_n 2, 1) := by decide +kernel
theorem dX1_runSteps_43 : decode cX1_runSteps 43 = .ok (.iconst 1, 1) := by decide +kernel
theorem dX1_runSteps_44 : decode cX1_runSteps 44 = .ok (.invokevirtual 97, 3) := by decide +kernel
theorem dX1_runSteps_47 : decode cX1_runSteps 47 = .ok (.aload_n 2, 1) := by decide +kernel
theorem dX1_runSteps_48 : decode cX1_runSteps 48 = .ok (.aload_n 0, 1) := by decide +kernel
theorem dX1_runSteps_49 : decode cX1_runSteps 49 = .ok (.aload_n 2, 1) := by decide +kernel
theorem dX1_runSteps_50 : decode cX1_runSteps 50 = .ok (.invokevirtual 101, 3) := by decide +kernel
theorem dX1_runSteps_53 : decode cX1_runSteps 53 = .ok (.putfield 105, 3) := by decide +kernel
theorem dX1_runSteps_56 : decode cX1_runSteps 56 = .ok (.aload_n 2, 1) := by decide +kernel
theorem dX1_runSteps_57 : decode cX1_runSteps 57 = .ok (.getfield 94, 3) := by decide +kernel
theorem dX1_runSteps_60 : decode cX1_runSteps 60 = .ok (.bipush 7, 2) := by decide +kernel
theorem dX1_runSteps_62 : decode cX1_runSteps 62 = .ok (.if_icmp .ne 9, 3) := by decide +kernel
theorem dX1_runSteps_65 : decode cX1_runSteps 65 = .ok (.aload_n 0, 1) := by decide +kernel
theorem dX1_runSteps_66 : decode cX1_runSteps 66 = .ok (.iload_n 1, 1) := by decide +kernel
theorem dX1_runSteps_67 : decode cX1_runSteps 67 = .ok (.aload_n 2, 1) := by decide +kernel
theorem dX1_runSteps_68 : decode cX1_runSteps 68 = .ok (.invokevirtual 108, 3) := by decide +kernel
theorem dX1_runSteps_71 : decode cX1_runSteps 71 = .ok (.iinc 1 1, 3) := by decide +kernel
theorem dX1_runSteps_74 : decode cX1_runSteps 74 = .ok (.goto (-72), 3) := by decide +kernel
theorem dX1_runSteps_77 : decode cX1_runSteps 77 = .ok (.return_, 1) := by decide +kernel
theorem dX1_doPush_0 : decode cX1_doPush 0 = .ok (.aload_n 0, 1) := by decide +kernel
theorem dX1_doPush_1 : decode cX1_doPush 1 = .ok (.getfield 28, 3) := by decide +kernel
theorem dX1_doPush_4 : decode cX1_doPush 4 = .ok (.aload_n 1, 1) := by decide +kernel
theorem dX1_doPush_5 : decode cX1_doPush 5 = .ok (.getfield 112, 3) := by decide +kernel
theorem dX1_doPush_8 : decode cX1_doPush 8 = .ok (.invokevirtual 116, 3) := by decide +kernel
theorem dX1_doPush_11 : decode cX1_doPush 11 = .ok (.istore_n 2, 1) := by decide +kernel
theorem dX1_doPush_12 : decode cX1_doPush 12 = .ok (.aload_n 0, 1) := by decide +kernel
theorem dX1_doPush_13 : decode cX1_doPush 13 = .ok (.getfield 65, 3) := by decide +kernel
theorem dX1_doPush_16 : decode cX1_doPush 16 = .ok (.ifCond .ne 7, 3) := by decide +kernel
theorem dX1_doPush_19 : decode cX1_doPush 19 = .ok (.iload_n 2, 1) := by decide +kernel
theorem dX1_doPush_20 : decode cX1_doPush 20 = .ok (.ifCond .ge 5, 3) := by decide +kernel
theorem dX1_doPush_23 : decode cX1_doPush 23 = .ok (.iconst 0, 1) := by decide +kernel
theorem dX1_doPush_24 : decode cX1_doPush 24 = .ok (.ireturn, 1) := by decide +kernel
theorem dX1_doPush_25 : decode cX1_doPush 25 = .ok (.aload_n 0, 1) := by decide +kernel
theorem dX1_doPush_26 : decode cX1_doPush 26 = .ok (.getfield 28, 3) := by decide +kernel
theorem dX1_doPush_29 : decode cX1_doPush 29 = .ok (.getfield 38, 3) := by decide +kernel
theorem dX1_doPush_32 : decode cX1_doPush 32 = .ok (.iload_n 2, 1) := by decide +kernel
theorem dX1_doPush_33 : decode cX1_doPush 33 = .ok (.aaload, 1) := by decide +kernel
theorem dX1_doPush_34 : decode cX1_doPush 34 = .ok (.astore_n 3, 1) := by decide +kernel
theorem dX1_doPush_35 : decode cX1_doPush 35 = .ok (.aload_n 3, 1) := by decide +kernel
theorem dX1_doPush_36 : decode cX1_doPush 36 = .ok (.getfield 94, 3) := by decide +kernel
theorem dX1_doPush_39 : decode cX1_doPush 39 = .ok (.ifCond .ne 17, 3) := by decide +kernel
theorem dX1_doPush_42 : decode cX1_doPush 42 = .ok (.aload_n 3, 1) := by decide +kernel
theorem dX1_doPush_43 : decode cX1_doPush 43 = .ok (.getfield 120, 3) := by decide +kernel
theorem dX1_doPush_46 : decode cX1_doPush 46 = .ok (.aload_n 1, 1) := by decide +kernel
theorem dX1_doPush_47 : decode cX1_doPush 47 = .ok (.getfield 123, 3) := by decide +kernel
theorem dX1_doPush_50 : decode cX1_doPush 50 = .ok (.getfield 126, 3) := by decide +kernel
theorem dX1_doPush_53 : decode cX1_doPush 53 = .ok (.if_icmp .eq 5, 3) := by decide +kernel
theorem dX1_doPush_56 : decode cX1_doPush 56 = .ok (.iconst 0, 1) := by decide +kernel
theorem dX1_doPush_57 : decode cX1_doPush 57 = .ok (.ireturn, 1) := by decide +kernel
theorem dX1_doPush_58 : decode cX1_doPush 58 = .ok (.aload_n 0, 1) := by decide +kernel
theorem dX1_doPush_59 : decode cX1_doPush 59 = .ok (.dup, 1) := by decide +kernel
theorem dX1_doPush_60 : decode cX1_doPush 60 = .ok (.getfield 69, 3) := by decide +kernel
theorem dX1_doPush_63 : decode cX1_doPush 63 = .ok (.iconst 1, 1) := by decide +kernel
theorem dX1_doPush_64 : decode cX1_doPush 64 = .ok (.iadd, 1) := by decide +kernel
theorem dX1_doPush_65 : decode cX1_doPush 65 = .ok (.putfield 69, 3) := by decide +kernel
theorem dX1_doPush_68 : decode cX1_doPush 68 = .ok (.aload_n 3, 1) := by decide +kernel
theorem dX1_doPush_69 : decode cX1_doPush 69 = .ok (.aload_n 3, 1) := by decide +kernel
theorem dX1_doPush_70 : decode cX1_doPush 70 = .ok (.getfield 105, 3) := by decide +kernel
theorem dX1_doPush_73 : decode cX1_doPush 73 = .ok (.aload_n 1, 1) := by decide +kernel
theorem dX1_doPush_74 : decode cX1_doPush 74 = .ok (.getfield 123, 3) := by decide +kernel
theorem dX1_doPush_77 : decode cX1_doPush 77 = .ok (.getfield 127, 3) := by decide +kernel
theorem dX1_doPush_80 : decode cX1_doPush 80 = .ok (.aload_n 3, 1) := by decide +kernel
theorem dX1_doPush_81 : decode cX1_doPush 81 = .ok (.getfield 130, 3) := by decide +kernel
theorem dX1_doPush_84 : decode cX1_doPush 84 = .ok (.isub, 1) := by decide +kernel
theorem dX1_doPush_85 : decode cX1_doPush 85 = .ok (.invokestatic 133, 3) := by decide +kernel
theorem dX1_doPush_88 : decode cX1_doPush 88 = .ok (.putfield 105, 3) := by decide +kernel
theorem dX1_doPush_91 : decode cX1_doPush 91 = .ok (.aload_n 0, 1) := by decide +kernel
theorem dX1_doPush_92 : decode cX1_doPush 92 = .ok (.iload_n 2, 1) := by decide +kernel
theorem dX1_doPush_93 : decode cX1_doPush 93 = .ok (.aload_n 1, 1) := by decide +kernel
theorem dX1_doPush_94 : decode cX1_doPush 94 = .ok (.getfield 123, 3) := by decide +kernel
theorem dX1_doPush_97 : decode cX1_doPush 97 = .ok (.invokevirtual 139, 3) := by decide +kernel
theorem dX1_doPush_100 : decode cX1_doPush 100 = .ok (.iconst 1, 1) := by decide +kernel
theorem dX1_doPush_101 : decode cX1_doPush 101 = .ok (.ireturn, 1) := by decide +kernel
theorem dX1_doRelease_0 : decode cX1_doRelease 0 = .ok (.iload_n 1, 1) := by decide +kernel
theorem dX1_doRelease_1 : decode cX1_doRelease 1 = .ok (.ifCond .lt 11, 3) := by decide +kernel
theorem dX1_doRelease_4 : decode cX1_doRelease 4 = .ok (.iload_n 1, 1) := by decide +kernel
theorem dX1_doRelease_5 : decode cX1_doRelease 5 = .ok (.aload_n 0, 1) := by decide +kernel
theorem dX1_doRelease_6 : decode cX1_doRelease 6 = .ok (.getfield 59, 3) := by decide +kernel
theorem dX1_doRelease_9 : decode cX1_doRelease 9 = .ok (.if_icmp .lt 5, 3) := by decide +kernel
theorem dX1_doRelease_12 : decode cX1_doRelease 12 = .ok (.iconst 0, 1) := by decide +kernel
theorem dX1_doRelease_13 : decode cX1_doRelease 13 = .ok (.ireturn, 1) := by decide +kernel
theorem dX1_doRelease_14 : decode cX1_doRelease 14 = .ok (.aload_n 0, 1) := by decide +kernel
theorem dX1_doRelease_15 : decode cX1_doRelease 15 = .ok (.getfield 18, 3) := by decide +kernel
theorem dX1_doRelease_18 : decode cX1_doRelease 18 = .ok (.aload_n 0, 1) := by decide +kernel
theorem dX1_doRelease_19 : decode cX1_doRelease 19 = .ok (.getfield 11, 3) := by decide +kernel
theorem dX1_doRelease_22 : decode cX1_doRelease 22 = .ok (.iload_n 1, 1) := by decide +kernel
theorem dX1_doRelease_23 : decode cX1_doRelease 23 = .ok (.aaload, 1) := by decide +kernel
theorem dX1_doRelease_24 : decode cX1_doRelease 24 = .ok (.invokevirtual 143, 3) := by decide +kernel
theorem dX1_doRelease_27 : decode cX1_doRelease 27 = .ok (.aload_n 0, 1) := by decide +kernel
theorem dX1_doRelease_28 : decode cX1_doRelease 28 = .ok (.getfield 11, 3) := by decide +kernel
theorem dX1_doRelease_31 : decode cX1_doRelease 31 = .ok (.iload_n 1, 1) := by decide +kernel
theorem dX1_doRelease_32 : decode cX1_doRelease 32 = .ok (.aaload, 1) := by decide +kernel
theorem dX1_doRelease_33 : decode cX1_doRelease 33 = .ok (.getfield 147, 3) := by decide +kernel
theorem dX1_doRelease_36 : decode cX1_doRelease 36 = .ok (.istore_n 2, 1) := by decide +kernel
theorem dX1_doRelease_37 : decode cX1_doRelease 37 = .ok (.aload_n 0, 1) := by decide +kernel
theorem dX1_doRelease_38 : decode cX1_doRelease 38 = .ok (.getfield 11, 3) := by decide +kernel
theorem dX1_doRelease_41 : decode cX1_doRelease 41 = .ok (.iload_n 1, 1) := by decide +kernel
theorem dX1_doRelease_42 : decode cX1_doRelease 42 = .ok (.aaload, 1) := by decide +kernel
theorem dX1_doRelease_43 : decode cX1_doRelease 43 = .ok (.getfield 150, 3) := by decide +kernel
theorem dX1_doRelease_46 : decode cX1_doRelease 46 = .ok (.istore_n 3, 1) := by decide +kernel
theorem dX1_doRelease_47 : decode cX1_doRelease 47 = .ok (.aload_n 0, 1) := by decide +kernel
theorem dX1_doRelease_48 : decode cX1_doRelease 48 = .ok (.iload_n 1, 1) := by decide +kernel
theorem dX1_doRelease_49 : decode cX1_doRelease 49 = .ok (.invokevirtual 91, 3) := by decide +kernel
theorem dX1_doRelease_52 : decode cX1_doRelease 52 = .ok (.pop, 1) := by decide +kernel
theorem dX1_doRelease_53 : decode cX1_doRelease 53 = .ok (.iload_n 2, 1) := by decide +kernel
theorem dX1_doRelease_54 : decode cX1_doRelease 54 = .ok (.ifCond .lt 14, 3) := by decide +kernel
theorem dX1_doRelease_57 : decode cX1_doRelease 57 = .ok (.iload_n 2, 1) := by decide +kernel
theorem dX1_doRelease_58 : decode cX1_doRelease 58 = .ok (.aload_n 0, 1) := by decide +kernel
theorem dX1_doRelease_59 : decode cX1_doRelease 59 = .ok (.getfield 28, 3) := by decide +kernel
theorem dX1_doRelease_62 : decode cX1_doRelease 62 = .ok (.getfield 32, 3) := by decide +kernel
theorem dX1_doRelease_65 : decode cX1_doRelease 65 = .ok (.if_icmp .lt 5, 3) := by decide +kernel
theorem dX1_doRelease_68 : decode cX1_doRelease 68 = .ok (.iconst 1, 1) := by decide +kernel
theorem dX1_doRelease_69 : decode cX1_doRelease 69 = .ok (.ireturn, 1) := by decide +kernel
theorem dX1_doRelease_70 : decode cX1_doRelease 70 = .ok (.iload_n 3, 1) := by decide +kernel
theorem dX1_doRelease_71 : decode cX1_doRelease 71 = .ok (.iconst (-1), 1) := by decide +kernel
theorem dX1_doRelease_72 : decode cX1_doRelease 72 = .ok (.if_icmp .eq 15, 3) := by decide +kernel
theorem dX1_doRelease_75 : decode cX1_doRelease 75 = .ok (.aload_n 0, 1) := by decide +kernel
theorem dX1_doRelease_76 : decode cX1_doRelease 76 = .ok (.iload_n 2, 1) := by decide +kernel
theorem dX1_doRelease_77 : decode cX1_doRelease 77 = .ok (.aload_n 0, 1) := by decide +kernel
theorem dX1_doRelease_78 : decode cX1_doRelease 78 = .ok (.getfield 18, 3) := by decide +kernel
theorem dX1_doRelease_81 : decode cX1_doRelease 81 = .ok (.invokevirtual 153, 3) := by decide +kernel
theorem dX1_doRelease_84 : decode cX1_doRelease 84 = .ok (.goto 21, 3) := by decide +kernel
theorem dX1_doRelease_87 : decode cX1_doRelease 87 = .ok (.aload_n 0, 1) := by decide +kernel
theorem dX1_doRelease_88 : decode cX1_doRelease 88 = .ok (.iload_n 2, 1) := by decide +kernel
theorem dX1_doRelease_89 : decode cX1_doRelease 89 = .ok (.iconst 1, 1) := by decide +kernel
theorem dX1_doRelease_90 : decode cX1_doRelease 90 = .ok (.invokevirtual 156, 3) := by decide +kernel
theorem dX1_doRelease_93 : decode cX1_doRelease 93 = .ok (.ifCond .eq 12, 3) := by decide +kernel
theorem dX1_doRelease_96 : decode cX1_doRelease 96 = .ok (.aload_n 0, 1) := by decide +kernel
theorem dX1_doRelease_97 : decode cX1_doRelease 97 = .ok (.iload_n 2, 1) := by decide +kernel
theorem dX1_doRelease_98 : decode cX1_doRelease 98 = .ok (.aload_n 0, 1) := by decide +kernel
theorem dX1_doRelease_99 : decode cX1_doRelease 99 = .ok (.getfield 25, 3) := by decide +kernel
theorem dX1_doRelease_102 : decode cX1_doRelease 102 = .ok (.invokevirtual 139, 3) := by decide +kernel
theorem dX1_doRelease_105 : decode cX1_doRelease 105 = .ok (.iconst 1, 1) := by decide +kernel
theorem dX1_doRelease_106 : decode cX1_doRelease 106 = .ok (.ireturn, 1) := by decide +kernel
theorem dX1_removeHeld_0 : decode cX1_removeHeld 0 = .ok (.iload_n 1, 1) := by decide +kernel
theorem dX1_removeHeld_1 : decode cX1_removeHeld 1 = .ok (.ifCond .lt 11, 3) := by decide +kernel
theorem dX1_removeHeld_4 : decode cX1_removeHeld 4 = .ok (.iload_n 1, 1) := by decide +kernel
theorem dX1_removeHeld_5 : decode cX1_removeHeld 5 = .ok (.aload_n 0, 1) := by decide +kernel
theorem dX1_removeHeld_6 : decode cX1_removeHeld 6 = .ok (.getfield 59, 3) := by decide +kernel
theorem dX1_removeHeld_9 : decode cX1_removeHeld 9 = .ok (.if_icmp .lt 5, 3) := by decide +kernel
theorem dX1_removeHeld_12 : decode cX1_removeHeld 12 = .ok (.iconst 0, 1) := by decide +kernel
theorem dX1_removeHeld_13 : decode cX1_removeHeld 13 = .ok (.ireturn, 1) := by decide +kernel
theorem dX1_removeHeld_14 : decode cX1_removeHeld 14 = .ok (.aload_n 0, 1) := by decide +kernel
theorem dX1_removeHeld_15 : decode cX1_removeHeld 15 = .ok (.getfield 11, 3) := by decide +kernel
theorem dX1_removeHeld_18 : decode cX1_removeHeld 18 = .ok (.iload_n 1, 1) := by decide +kernel
theorem dX1_removeHeld_19 : decode cX1_removeHeld 19 = .ok (.aaload, 1) := by decide +kernel
theorem dX1_removeHeld_20 : decode cX1_removeHeld 20 = .ok (.astore_n 2, 1) := by decide +kernel
theorem dX1_removeHeld_21 : decode cX1_removeHeld 21 = .ok (.iload_n 1, 1) := by decide +kernel
theorem dX1_removeHeld_22 : decode cX1_removeHeld 22 = .ok (.istore_n 3, 1) := by decide +kernel
theorem dX1_removeHeld_23 : decode cX1_removeHeld 23 = .ok (.iload_n 3, 1) := by decide +kernel
theorem dX1_removeHeld_24 : decode cX1_removeHeld 24 = .ok (.aload_n 0, 1) := by decide +kernel
theorem dX1_removeHeld_25 : decode cX1_removeHeld 25 = .ok (.getfield 59, 3) := by decide +kernel
theorem dX1_removeHeld_28 : decode cX1_removeHeld 28 = .ok (.iconst 1, 1) := by decide +kernel
theorem dX1_removeHeld_29 : decode cX1_removeHeld 29 = .ok (.isub, 1) := by decide +kernel
theorem dX1_removeHeld_30 : decode cX1_removeHeld 30 = .ok (.if_icmp .ge 23, 3) := by decide +kernel
theorem dX1_removeHeld_33 : decode cX1_removeHeld 33 = .ok (.aload_n 0, 1) := by decide +kernel
theorem dX1_removeHeld_34 : decode cX1_removeHeld 34 = .ok (.getfield 11, 3) := by decide +kernel
theorem dX1_removeHeld_37 : decode cX1_removeHeld 37 = .ok (.iload_n 3, 1) := by decide +kernel
theorem dX1_removeHeld_38 : decode cX1_removeHeld 38 = .ok (.aload_n 0, 1) := by decide +kernel
theorem dX1_removeHeld_39 : decode cX1_removeHeld 39 = .ok (.getfield 11, 3) := by decide +kernel
theorem dX1_removeHeld_42 : decode cX1_removeHeld 42 = .ok (.iload_n 3, 1) := by decide +kernel
theorem dX1_removeHeld_43 : decode cX1_removeHeld 43 = .ok (.iconst 1, 1) := by decide +kernel
theorem dX1_removeHeld_44 : decode cX1_removeHeld 44 = .ok (.iadd, 1) := by decide +kernel
theorem dX1_removeHeld_45 : decode cX1_removeHeld 45 = .ok (.aaload, 1) := by decide +kernel
theorem dX1_removeHeld_46 : decode cX1_removeHeld 46 = .ok (.aastore, 1) := by decide +kernel
theorem dX1_removeHeld_47 : decode cX1_removeHeld 47 = .ok (.iinc 3 1, 3) := by decide +kernel
theorem dX1_removeHeld_50 : decode cX1_removeHeld 50 = .ok (.goto (-27), 3) := by decide +kernel
theorem dX1_removeHeld_53 : decode cX1_removeHeld 53 = .ok (.aload_n 0, 1) := by decide +kernel
theorem dX1_removeHeld_54 : decode cX1_removeHeld 54 = .ok (.getfield 11, 3) := by decide +kernel
theorem dX1_removeHeld_57 : decode cX1_removeHeld 57 = .ok (.aload_n 0, 1) := by decide +kernel
theorem dX1_removeHeld_58 : decode cX1_removeHeld 58 = .ok (.getfield 59, 3) := by decide +kernel
theorem dX1_removeHeld_61 : decode cX1_removeHeld 61 = .ok (.iconst 1, 1) := by decide +kernel
theorem dX1_removeHeld_62 : decode cX1_removeHeld 62 = .ok (.isub, 1) := by decide +kernel
theorem dX1_removeHeld_63 : decode cX1_removeHeld 63 = .ok (.aload_n 2, 1) := by decide +kernel
theorem dX1_removeHeld_64 : decode cX1_removeHeld 64 = .ok (.aastore, 1) := by decide +kernel
theorem dX1_removeHeld_65 : decode cX1_removeHeld 65 = .ok (.aload_n 0, 1) := by decide +kernel
theorem dX1_removeHeld_66 : decode cX1_removeHeld 66 = .ok (.dup, 1) := by decide +kernel
theorem dX1_removeHeld_67 : decode cX1_removeHeld 67 = .ok (.getfield 59, 3) := by decide +kernel
theorem dX1_removeHeld_70 : decode cX1_removeHeld 70 = .ok (.iconst 1, 1) := by decide +kernel
theorem dX1_removeHeld_71 : decode cX1_removeHeld 71 = .ok (.isub, 1) := by decide +kernel
theorem dX1_removeHeld_72 : decode cX1_removeHeld 72 = .ok (.putfield 59, 3) := by decide +kernel
theorem dX1_removeHeld_75 : decode cX1_removeHeld 75 = .ok (.iconst 1, 1) := by decide +kernel
theorem dX1_removeHeld_76 : decode cX1_removeHeld 76 = .ok (.ireturn, 1) := by decide +kernel
theorem dX1_give_0 : decode cX1_give 0 = .ok (.iconst 0, 1) := by decide +kernel
theorem dX1_give_1 : decode cX1_give 1 = .ok (.istore_n 3, 1) := by decide +kernel
theorem dX1_give_2 : decode cX1_give 2 = .ok (.iload_n 3, 1) := by decide +kernel
theorem dX1_give_3 : decode cX1_give 3 = .ok (.aload_n 0, 1) := by decide +kernel
theorem dX1_give_4 : decode cX1_give 4 = .ok (.getfield 28, 3) := by decide +kernel
theorem dX1_give_7 : decode cX1_give 7 = .ok (.getfield 47, 3) := by decide +kernel
theorem dX1_give_10 : decode cX1_give 10 = .ok (.if_icmp .ge 101, 3) := by decide +kernel
theorem dX1_give_13 : decode cX1_give 13 = .ok (.aload_n 0, 1) := by decide +kernel
theorem dX1_give_14 : decode cX1_give 14 = .ok (.getfield 28, 3) := by decide +kernel
theorem dX1_give_17 : decode cX1_give 17 = .ok (.getfield 50, 3) := by decide +kernel
theorem dX1_give_20 : decode cX1_give 20 = .ok (.iload_n 3, 1) := by decide +kernel
theorem dX1_give_21 : decode cX1_give 21 = .ok (.aaload, 1) := by decide +kernel
theorem dX1_give_22 : decode cX1_give 22 = .ok (.astore 4, 2) := by decide +kernel
theorem dX1_give_24 : decode cX1_give 24 = .ok (.aload 4, 2) := by decide +kernel
theorem dX1_give_26 : decode cX1_give 26 = .ok (.getfield 160, 3) := by decide +kernel
theorem dX1_give_29 : decode cX1_give 29 = .ok (.iload_n 1, 1) := by decide +kernel
theorem dX1_give_30 : decode cX1_give 30 = .ok (.if_icmp .ne 75, 3) := by decide +kernel
theorem dX1_give_33 : decode cX1_give 33 = .ok (.aload_n 0, 1) := by decide +kernel
theorem dX1_give_34 : decode cX1_give 34 = .ok (.getfield 28, 3) := by decide +kernel
theorem dX1_give_37 : decode cX1_give 37 = .ok (.aload 4, 2) := by decide +kernel
theorem dX1_give_39 : decode cX1_give 39 = .ok (.getfield 161, 3) := by decide +kernel
theorem dX1_give_42 : decode cX1_give 42 = .ok (.aload 4, 2) := by decide +kernel
theorem dX1_give_44 : decode cX1_give 44 = .ok (.getfield 164, 3) := by decide +kernel
theorem dX1_give_47 : decode cX1_give 47 = .ok (.aload_n 2, 1) := by decide +kernel
theorem dX1_give_48 : decode cX1_give 48 = .ok (.invokevirtual 167, 3) := by decide +kernel
theorem dX1_give_51 : decode cX1_give 51 = .ok (.lconst 0, 1) := by decide +kernel
theorem dX1_give_52 : decode cX1_give 52 = .ok (.lcmp, 1) := by decide +kernel
theorem dX1_give_53 : decode cX1_give 53 = .ok (.ifCond .eq 6, 3) := by decide +kernel
theorem dX1_give_56 : decode cX1_give 56 = .ok (.goto 49, 3) := by decide +kernel
theorem dX1_give_59 : decode cX1_give 59 = .ok (.aload 4, 2) := by decide +kernel
theorem dX1_give_61 : decode cX1_give 61 = .ok (.dup, 1) := by decide +kernel
theorem dX1_give_62 : decode cX1_give 62 = .ok (.getfield 54, 3) := by decide +kernel
theorem dX1_give_65 : decode cX1_give 65 = .ok (.iconst 1, 1) := by decide +kernel
theorem dX1_give_66 : decode cX1_give 66 = .ok (.iadd, 1) := by decide +kernel
theorem dX1_give_67 : decode cX1_give 67 = .ok (.putfield 54, 3) := by decide +kernel
theorem dX1_give_70 : decode cX1_give 70 = .ok (.aload 4, 2) := by decide +kernel
theorem dX1_give_72 : decode cX1_give 72 = .ok (.getfield 171, 3) := by decide +kernel
theorem dX1_give_75 : decode cX1_give 75 = .ok (.sipush 149, 3) := by decide +kernel
theorem dX1_give_78 : decode cX1_give 78 = .ok (.if_icmp .ne 8, 3) := by decide +kernel
theorem dX1_give_81 : decode cX1_give 81 = .ok (.aload_n 0, 1) := by decide +kernel
theorem dX1_give_82 : decode cX1_give 82 = .ok (.iconst 1, 1) := by decide +kernel
theorem dX1_give_83 : decode cX1_give 83 = .ok (.putfield 65, 3) := by decide +kernel
theorem dX1_give_86 : decode cX1_give 86 = .ok (.aload 4, 2) := by decide +kernel
theorem dX1_give_88 : decode cX1_give 88 = .ok (.getfield 171, 3) := by decide +kernel
theorem dX1_give_91 : decode cX1_give 91 = .ok (.sipush 147, 3) := by decide +kernel
theorem dX1_give_94 : decode cX1_give 94 = .ok (.if_icmp .eq 10, 3) := by decide +kernel
theorem dX1_give_97 : decode cX1_give 97 = .ok (.aload_n 0, 1) := by decide +kernel
theorem dX1_give_98 : decode cX1_give 98 = .ok (.iload_n 1, 1) := by decide +kernel
theorem dX1_give_99 : decode cX1_give 99 = .ok (.iload_n 3, 1) := by decide +kernel
theorem dX1_give_100 : decode cX1_give 100 = .ok (.aload_n 2, 1) := by decide +kernel
theorem dX1_give_101 : decode cX1_give 101 = .ok (.invokevirtual 174, 3) := by decide +kernel
theorem dX1_give_104 : decode cX1_give 104 = .ok (.return_, 1) := by decide +kernel
theorem dX1_give_105 : decode cX1_give 105 = .ok (.iinc 3 1, 3) := by decide +kernel
theorem dX1_give_108 : decode cX1_give 108 = .ok (.goto (-106), 3) := by decide +kernel
theorem dX1_give_111 : decode cX1_give 111 = .ok (.aload_n 0, 1) := by decide +kernel
theorem dX1_give_112 : decode cX1_give 112 = .ok (.iload_n 1, 1) := by decide +kernel
theorem dX1_give_113 : decode cX1_give 113 = .ok (.aload_n 2, 1) := by decide +kernel
theorem dX1_give_114 : decode cX1_give 114 = .ok (.invokevirtual 153, 3) := by decide +kernel
theorem dX1_give_117 : decode cX1_give 117 = .ok (.return_, 1) := by decide +kernel
theorem dX1_accept_0 : decode cX1_accept 0 = .ok (.aload_n 0, 1) := by decide +kernel
theorem dX1_accept_1 : decode cX1_accept 1 = .ok (.getfield 28, 3) := by decide +kernel
theorem dX1_accept_4 : decode cX1_accept 4 = .ok (.getfield 38, 3) := by decide +kernel
theorem dX1_accept_7 : decode cX1_accept 7 = .ok (.iload_n 1, 1) := by decide +kernel
theorem dX1_accept_8 : decode cX1_accept 8 = .ok (.aaload, 1) := by decide +kernel
theorem dX1_accept_9 : decode cX1_accept 9 = .ok (.getfield 178, 3) := by decide +kernel
theorem dX1_accept_12 : decode cX1_accept 12 = .ok (.aload_n 2, 1) := by decide +kernel
theorem dX1_accept_13 : decode cX1_accept 13 = .ok (.invokevirtual 182, 3) := by decide +kernel
theorem dX1_accept_16 : decode cX1_accept 16 = .ok (.ifCond .eq 16, 3) := by decide +kernel
theorem dX1_accept_19 : decode cX1_accept 19 = .ok (.aload_n 0, 1) := by decide +kernel
theorem dX1_accept_20 : decode cX1_accept 20 = .ok (.dup, 1) := by decide +kernel
theorem dX1_accept_21 : decode cX1_accept 21 = .ok (.getfield 72, 3) := by decide +kernel
theorem dX1_accept_24 : decode cX1_accept 24 = .ok (.iconst 1, 1) := by decide +kernel
theorem dX1_accept_25 : decode cX1_accept 25 = .ok (.iadd, 1) := by decide +kernel
theorem dX1_accept_26 : decode cX1_accept 26 = .ok (.putfield 72, 3) := by decide +kernel
theorem dX1_accept_29 : decode cX1_accept 29 = .ok (.goto 13, 3) := by decide +kernel
theorem dX1_accept_32 : decode cX1_accept 32 = .ok (.aload_n 0, 1) := by decide +kernel
theorem dX1_accept_33 : decode cX1_accept 33 = .ok (.dup, 1) := by decide +kernel
theorem dX1_accept_34 : decode cX1_accept 34 = .ok (.getfield 62, 3) := by decide +kernel
theorem dX1_accept_37 : decode cX1_accept 37 = .ok (.iconst 1, 1) := by decide +kernel
theorem dX1_accept_38 : decode cX1_accept 38 = .ok (.iadd, 1) := by decide +kernel
theorem dX1_accept_39 : decode cX1_accept 39 = .ok (.putfield 62, 3) := by decide +kernel
theorem dX1_accept_42 : decode cX1_accept 42 = .ok (.return_, 1) := by decide +kernel
theorem dX1_hold_0 : decode cX1_hold 0 = .ok (.aload_n 0, 1) := by decide +kernel
theorem dX1_hold_1 : decode cX1_hold 1 = .ok (.getfield 59, 3) := by decide +kernel
theorem dX1_hold_4 : decode cX1_hold 4 = .ok (.aload_n 0, 1) := by decide +kernel
theorem dX1_hold_5 : decode cX1_hold 5 = .ok (.getfield 11, 3) := by decide +kernel
theorem dX1_hold_8 : decode cX1_hold 8 = .ok (.arraylength, 1) := by decide +kernel
theorem dX1_hold_9 : decode cX1_hold 9 = .ok (.if_icmp .lt 14, 3) := by decide +kernel
theorem dX1_hold_12 : decode cX1_hold 12 = .ok (.aload_n 0, 1) := by decide +kernel
theorem dX1_hold_13 : decode cX1_hold 13 = .ok (.dup, 1) := by decide +kernel
theorem dX1_hold_14 : decode cX1_hold 14 = .ok (.getfield 62, 3) := by decide +kernel
theorem dX1_hold_17 : decode cX1_hold 17 = .ok (.iconst 1, 1) := by decide +kernel
theorem dX1_hold_18 : decode cX1_hold 18 = .ok (.iadd, 1) := by decide +kernel
theorem dX1_hold_19 : decode cX1_hold 19 = .ok (.putfield 62, 3) := by decide +kernel
theorem dX1_hold_22 : decode cX1_hold 22 = .ok (.return_, 1) := by decide +kernel
theorem dX1_hold_23 : decode cX1_hold 23 = .ok (.aload_n 0, 1) := by decide +kernel
theorem dX1_hold_24 : decode cX1_hold 24 = .ok (.getfield 11, 3) := by decide +kernel
theorem dX1_hold_27 : decode cX1_hold 27 = .ok (.aload_n 0, 1) := by decide +kernel
theorem dX1_hold_28 : decode cX1_hold 28 = .ok (.getfield 59, 3) := by decide +kernel
theorem dX1_hold_31 : decode cX1_hold 31 = .ok (.aaload, 1) := by decide +kernel
theorem dX1_hold_32 : decode cX1_hold 32 = .ok (.aload_n 3, 1) := by decide +kernel
theorem dX1_hold_33 : decode cX1_hold 33 = .ok (.invokevirtual 143, 3) := by decide +kernel
theorem dX1_hold_36 : decode cX1_hold 36 = .ok (.aload_n 0, 1) := by decide +kernel
theorem dX1_hold_37 : decode cX1_hold 37 = .ok (.getfield 11, 3) := by decide +kernel
theorem dX1_hold_40 : decode cX1_hold 40 = .ok (.aload_n 0, 1) := by decide +kernel
theorem dX1_hold_41 : decode cX1_hold 41 = .ok (.getfield 59, 3) := by decide +kernel
theorem dX1_hold_44 : decode cX1_hold 44 = .ok (.aaload, 1) := by decide +kernel
theorem dX1_hold_45 : decode cX1_hold 45 = .ok (.iload_n 1, 1) := by decide +kernel
theorem dX1_hold_46 : decode cX1_hold 46 = .ok (.putfield 147, 3) := by decide +kernel
theorem dX1_hold_49 : decode cX1_hold 49 = .ok (.aload_n 0, 1) := by decide +kernel
theorem dX1_hold_50 : decode cX1_hold 50 = .ok (.getfield 11, 3) := by decide +kernel
theorem dX1_hold_53 : decode cX1_hold 53 = .ok (.aload_n 0, 1) := by decide +kernel
theorem dX1_hold_54 : decode cX1_hold 54 = .ok (.getfield 59, 3) := by decide +kernel
theorem dX1_hold_57 : decode cX1_hold 57 = .ok (.aaload, 1) := by decide +kernel
theorem dX1_hold_58 : decode cX1_hold 58 = .ok (.iload_n 2, 1) := by decide +kernel
theorem dX1_hold_59 : decode cX1_hold 59 = .ok (.putfield 150, 3) := by decide +kernel
theorem dX1_hold_62 : decode cX1_hold 62 = .ok (.aload_n 0, 1) := by decide +kernel
theorem dX1_hold_63 : decode cX1_hold 63 = .ok (.dup, 1) := by decide +kernel
theorem dX1_hold_64 : decode cX1_hold 64 = .ok (.getfield 59, 3) := by decide +kernel
theorem dX1_hold_67 : decode cX1_hold 67 = .ok (.iconst 1, 1) := by decide +kernel
theorem dX1_hold_68 : decode cX1_hold 68 = .ok (.iadd, 1) := by decide +kernel
theorem dX1_hold_69 : decode cX1_hold 69 = .ok (.putfield 59, 3) := by decide +kernel
theorem dX1_hold_72 : decode cX1_hold 72 = .ok (.return_, 1) := by decide +kernel
theorem dX1_lookAtNewRows_0 : decode cX1_lookAtNewRows 0 = .ok (.aload_n 0, 1) := by decide +kernel
theorem dX1_lookAtNewRows_1 : decode cX1_lookAtNewRows 1 = .ok (.aload_n 2, 1) := by decide +kernel
theorem dX1_lookAtNewRows_2 : decode cX1_lookAtNewRows 2 = .ok (.iload_n 3, 1) := by decide +kernel
theorem dX1_lookAtNewRows_3 : decode cX1_lookAtNewRows 3 = .ok (.invokevirtual 188, 3) := by decide +kernel
theorem dX1_lookAtNewRows_6 : decode cX1_lookAtNewRows 6 = .ok (.astore 4, 2) := by decide +kernel
theorem dX1_lookAtNewRows_8 : decode cX1_lookAtNewRows 8 = .ok (.aload 4, 2) := by decide +kernel
theorem dX1_lookAtNewRows_10 : decode cX1_lookAtNewRows 10 = .ok (.ifnonnull 4, 3) := by decide +kernel
theorem dX1_lookAtNewRows_13 : decode cX1_lookAtNewRows 13 = .ok (.return_, 1) := by decide +kernel
theorem dX1_lookAtNewRows_14 : decode cX1_lookAtNewRows 14 = .ok (.aload_n 2, 1) := by decide +kernel
theorem dX1_lookAtNewRows_15 : decode cX1_lookAtNewRows 15 = .ok (.getfield 192, 3) := by decide +kernel
theorem dX1_lookAtNewRows_18 : decode cX1_lookAtNewRows 18 = .ok (.iload_n 3, 1) := by decide +kernel
theorem dX1_lookAtNewRows_19 : decode cX1_lookAtNewRows 19 = .ok (.iaload, 1) := by decide +kernel
theorem dX1_lookAtNewRows_20 : decode cX1_lookAtNewRows 20 = .ok (.istore 5, 2) := by decide +kernel
theorem dX1_lookAtNewRows_22 : decode cX1_lookAtNewRows 22 = .ok (.iload 5, 2) := by decide +kernel
theorem dX1_lookAtNewRows_24 : decode cX1_lookAtNewRows 24 = .ok (.aload 4, 2) := by decide +kernel
theorem dX1_lookAtNewRows_26 : decode cX1_lookAtNewRows 26 = .ok (.getfield 178, 3) := by decide +kernel
theorem dX1_lookAtNewRows_29 : decode cX1_lookAtNewRows 29 = .ok (.getfield 196, 3) := by decide +kernel
theorem dX1_lookAtNewRows_32 : decode cX1_lookAtNewRows 32 = .ok (.if_icmp .ge 74, 3) := by decide +kernel
theorem dX1_lookAtNewRows_35 : decode cX1_lookAtNewRows 35 = .ok (.aload 4, 2) := by decide +kernel
theorem dX1_lookAtNewRows_37 : decode cX1_lookAtNewRows 37 = .ok (.getfield 178, 3) := by decide +kernel
theorem dX1_lookAtNewRows_40 : decode cX1_lookAtNewRows 40 = .ok (.iload 5, 2) := by decide +kernel
theorem dX1_lookAtNewRows_42 : decode cX1_lookAtNewRows 42 = .ok (.aload_n 0, 1) := by decide +kernel
theorem dX1_lookAtNewRows_43 : decode cX1_lookAtNewRows 43 = .ok (.getfield 18, 3) := by decide +kernel
theorem dX1_lookAtNewRows_46 : decode cX1_lookAtNewRows 46 = .ok (.invokevirtual 199, 3) := by decide +kernel
theorem dX1_lookAtNewRows_49 : decode cX1_lookAtNewRows 49 = .ok (.aload_n 2, 1) := by decide +kernel
theorem dX1_lookAtNewRows_50 : decode cX1_lookAtNewRows 50 = .ok (.getfield 94, 3) := by decide +kernel
theorem dX1_lookAtNewRows_53 : decode cX1_lookAtNewRows 53 = .ok (.iconst 5, 1) := by decide +kernel
theorem dX1_lookAtNewRows_54 : decode cX1_lookAtNewRows 54 = .ok (.if_icmp .ne 21, 3) := by decide +kernel
theorem dX1_lookAtNewRows_57 : decode cX1_lookAtNewRows 57 = .ok (.aload_n 0, 1) := by decide +kernel
theorem dX1_lookAtNewRows_58 : decode cX1_lookAtNewRows 58 = .ok (.iload_n 1, 1) := by decide +kernel
theorem dX1_lookAtNewRows_59 : decode cX1_lookAtNewRows 59 = .ok (.aload_n 2, 1) := by decide +kernel
theorem dX1_lookAtNewRows_60 : decode cX1_lookAtNewRows 60 = .ok (.iload_n 3, 1) := by decide +kernel
theorem dX1_lookAtNewRows_61 : decode cX1_lookAtNewRows 61 = .ok (.ifCond .ne 7, 3) := by decide +kernel
theorem dX1_lookAtNewRows_64 : decode cX1_lookAtNewRows 64 = .ok (.iconst 1, 1) := by decide +kernel
theorem dX1_lookAtNewRows_65 : decode cX1_lookAtNewRows 65 = .ok (.goto 4, 3) := by decide +kernel
theorem dX1_lookAtNewRows_68 : decode cX1_lookAtNewRows 68 = .ok (.iconst 0, 1) := by decide +kernel
theorem dX1_lookAtNewRows_69 : decode cX1_lookAtNewRows 69 = .ok (.invokevirtual 202, 3) := by decide +kernel
theorem dX1_lookAtNewRows_72 : decode cX1_lookAtNewRows 72 = .ok (.goto 28, 3) := by decide +kernel
theorem dX1_lookAtNewRows_75 : decode cX1_lookAtNewRows 75 = .ok (.aload_n 0, 1) := by decide +kernel
theorem dX1_lookAtNewRows_76 : decode cX1_lookAtNewRows 76 = .ok (.iload_n 1, 1) := by decide +kernel
theorem dX1_lookAtNewRows_77 : decode cX1_lookAtNewRows 77 = .ok (.aload_n 2, 1) := by decide +kernel
theorem dX1_lookAtNewRows_78 : decode cX1_lookAtNewRows 78 = .ok (.aload 4, 2) := by decide +kernel
theorem dX1_lookAtNewRows_80 : decode cX1_lookAtNewRows 80 = .ok (.getfield 178, 3) := by decide +kernel
theorem dX1_lookAtNewRows_83 : decode cX1_lookAtNewRows 83 = .ok (.iload 5, 2) := by decide +kernel
theorem dX1_lookAtNewRows_85 : decode cX1_lookAtNewRows 85 = .ok (.invokevirtual 206, 3) := by decide +kernel
theorem dX1_lookAtNewRows_88 : decode cX1_lookAtNewRows 88 = .ok (.ifCond .eq 12, 3) := by decide +kernel
theorem dX1_lookAtNewRows_91 : decode cX1_lookAtNewRows 91 = .ok (.aload_n 0, 1) := by decide +kernel
theorem dX1_lookAtNewRows_92 : decode cX1_lookAtNewRows 92 = .ok (.iload_n 1, 1) := by decide +kernel
theorem dX1_lookAtNewRows_93 : decode cX1_lookAtNewRows 93 = .ok (.aload_n 0, 1) := by decide +kernel
theorem dX1_lookAtNewRows_94 : decode cX1_lookAtNewRows 94 = .ok (.getfield 25, 3) := by decide +kernel
theorem dX1_lookAtNewRows_97 : decode cX1_lookAtNewRows 97 = .ok (.invokevirtual 139, 3) := by decide +kernel
theorem dX1_lookAtNewRows_100 : decode cX1_lookAtNewRows 100 = .ok (.iinc 5 1, 3) := by decide +kernel
theorem dX1_lookAtNewRows_103 : decode cX1_lookAtNewRows 103 = .ok (.goto (-81), 3) := by decide +kernel
theorem dX1_lookAtNewRows_106 : decode cX1_lookAtNewRows 106 = .ok (.aload_n 2, 1) := by decide +kernel
theorem dX1_lookAtNewRows_107 : decode cX1_lookAtNewRows 107 = .ok (.getfield 192, 3) := by decide +kernel
theorem dX1_lookAtNewRows_110 : decode cX1_lookAtNewRows 110 = .ok (.iload_n 3, 1) := by decide +kernel
theorem dX1_lookAtNewRows_111 : decode cX1_lookAtNewRows 111 = .ok (.aload 4, 2) := by decide +kernel
theorem dX1_lookAtNewRows_113 : decode cX1_lookAtNewRows 113 = .ok (.getfield 178, 3) := by decide +kernel
theorem dX1_lookAtNewRows_116 : decode cX1_lookAtNewRows 116 = .ok (.getfield 196, 3) := by decide +kernel
theorem dX1_lookAtNewRows_119 : decode cX1_lookAtNewRows 119 = .ok (.iastore, 1) := by decide +kernel
theorem dX1_lookAtNewRows_120 : decode cX1_lookAtNewRows 120 = .ok (.return_, 1) := by decide +kernel
theorem dX1_inputOf_0 : decode cX1_inputOf 0 = .ok (.aload_n 1, 1) := by decide +kernel
theorem dX1_inputOf_1 : decode cX1_inputOf 1 = .ok (.getfield 210, 3) := by decide +kernel
theorem dX1_inputOf_4 : decode cX1_inputOf 4 = .ok (.iload_n 2, 1) := by decide +kernel
theorem dX1_inputOf_5 : decode cX1_inputOf 5 = .ok (.iaload, 1) := by decide +kernel
theorem dX1_inputOf_6 : decode cX1_inputOf 6 = .ok (.istore_n 3, 1) := by decide +kernel
theorem dX1_inputOf_7 : decode cX1_inputOf 7 = .ok (.iload_n 3, 1) := by decide +kernel
theorem dX1_inputOf_8 : decode cX1_inputOf 8 = .ok (.ifCond .lt 26, 3) := by decide +kernel
theorem dX1_inputOf_11 : decode cX1_inputOf 11 = .ok (.iload_n 3, 1) := by decide +kernel
theorem dX1_inputOf_12 : decode cX1_inputOf 12 = .ok (.aload_n 0, 1) := by decide +kernel
theorem dX1_inputOf_13 : decode cX1_inputOf 13 = .ok (.getfield 28, 3) := by decide +kernel
theorem dX1_inputOf_16 : decode cX1_inputOf 16 = .ok (.getfield 32, 3) := by decide +kernel
theorem dX1_inputOf_19 : decode cX1_inputOf 19 = .ok (.if_icmp .ge 15, 3) := by decide +kernel
theorem dX1_inputOf_22 : decode cX1_inputOf 22 = .ok (.aload_n 0, 1) := by decide +kernel
theorem dX1_inputOf_23 : decode cX1_inputOf 23 = .ok (.getfield 28, 3) := by decide +kernel
theorem dX1_inputOf_26 : decode cX1_inputOf 26 = .ok (.getfield 38, 3) := by decide +kernel
theorem dX1_inputOf_29 : decode cX1_inputOf 29 = .ok (.iload_n 3, 1) := by decide +kernel
theorem dX1_inputOf_30 : decode cX1_inputOf 30 = .ok (.aaload, 1) := by decide +kernel
theorem dX1_inputOf_31 : decode cX1_inputOf 31 = .ok (.goto 4, 3) := by decide +kernel
theorem dX1_inputOf_34 : decode cX1_inputOf 34 = .ok (.aconst_null, 1) := by decide +kernel
theorem dX1_inputOf_35 : decode cX1_inputOf 35 = .ok (.areturn, 1) := by decide +kernel
theorem dX1_comesOut_0 : decode cX1_comesOut 0 = .ok (.aload_n 2, 1) := by decide +kernel
theorem dX1_comesOut_1 : decode cX1_comesOut 1 = .ok (.getfield 94, 3) := by decide +kernel
theorem dX1_comesOut_4 : decode cX1_comesOut 4 = .ok (.tableswitch 267 1 7 #[44, 89, 165, 227, 267, 240, 260], 44) := by decide +kernel
theorem dX1_comesOut_48 : decode cX1_comesOut 48 = .ok (.aload_n 0, 1) := by decide +kernel
theorem dX1_comesOut_49 : decode cX1_comesOut 49 = .ok (.getfield 25, 3) := by decide +kernel
theorem dX1_comesOut_52 : decode cX1_comesOut 52 = .ok (.aload_n 0, 1) := by decide +kernel
theorem dX1_comesOut_53 : decode cX1_comesOut 53 = .ok (.getfield 18, 3) := by decide +kernel
theorem dX1_comesOut_56 : decode cX1_comesOut 56 = .ok (.invokevirtual 143, 3) := by decide +kernel
theorem dX1_comesOut_59 : decode cX1_comesOut 59 = .ok (.aload_n 0, 1) := by decide +kernel
theorem dX1_comesOut_60 : decode cX1_comesOut 60 = .ok (.getfield 28, 3) := by decide +kernel
theorem dX1_comesOut_63 : decode cX1_comesOut 63 = .ok (.aload_n 2, 1) := by decide +kernel
theorem dX1_comesOut_64 : decode cX1_comesOut 64 = .ok (.getfield 213, 3) := by decide +kernel
theorem dX1_comesOut_67 : decode cX1_comesOut 67 = .ok (.iconst 0, 1) := by decide +kernel
theorem dX1_comesOut_68 : decode cX1_comesOut 68 = .ok (.iaload, 1) := by decide +kernel
theorem dX1_comesOut_69 : decode cX1_comesOut 69 = .ok (.aload_n 2, 1) := by decide +kernel
theorem dX1_comesOut_70 : decode cX1_comesOut 70 = .ok (.getfield 216, 3) := by decide +kernel
theorem dX1_comesOut_73 : decode cX1_comesOut 73 = .ok (.iconst 0, 1) := by decide +kernel
theorem dX1_comesOut_74 : decode cX1_comesOut 74 = .ok (.iaload, 1) := by decide +kernel
theorem dX1_comesOut_75 : decode cX1_comesOut 75 = .ok (.aload_n 0, 1) := by decide +kernel
theorem dX1_comesOut_76 : decode cX1_comesOut 76 = .ok (.getfield 18, 3) := by decide +kernel
theorem dX1_comesOut_79 : decode cX1_comesOut 79 = .ok (.invokevirtual 167, 3) := by decide +kernel
theorem dX1_comesOut_82 : decode cX1_comesOut 82 = .ok (.lconst 0, 1) := by decide +kernel
theorem dX1_comesOut_83 : decode cX1_comesOut 83 = .ok (.lcmp, 1) := by decide +kernel
theorem dX1_comesOut_84 : decode cX1_comesOut 84 = .ok (.ifCond .eq 7, 3) := by decide +kernel
theorem dX1_comesOut_87 : decode cX1_comesOut 87 = .ok (.iconst 1, 1) := by decide +kernel
theorem dX1_comesOut_88 : decode cX1_comesOut 88 = .ok (.goto 4, 3) := by decide +kernel
theorem dX1_comesOut_91 : decode cX1_comesOut 91 = .ok (.iconst 0, 1) := by decide +kernel
theorem dX1_comesOut_92 : decode cX1_comesOut 92 = .ok (.ireturn, 1) := by decide +kernel
theorem dX1_comesOut_93 : decode cX1_comesOut 93 = .ok (.aload_n 0, 1) := by decide +kernel
theorem dX1_comesOut_94 : decode cX1_comesOut 94 = .ok (.getfield 25, 3) := by decide +kernel
theorem dX1_comesOut_97 : decode cX1_comesOut 97 = .ok (.aload_n 0, 1) := by decide +kernel
theorem dX1_comesOut_98 : decode cX1_comesOut 98 = .ok (.getfield 18, 3) := by decide +kernel
theorem dX1_comesOut_101 : decode cX1_comesOut 101 = .ok (.invokevirtual 143, 3) := by decide +kernel
theorem dX1_comesOut_104 : decode cX1_comesOut 104 = .ok (.aload_n 0, 1) := by decide +kernel
theorem dX1_comesOut_105 : decode cX1_comesOut 105 = .ok (.getfield 18, 3) := by decide +kernel
theorem dX1_comesOut_108 : decode cX1_comesOut 108 = .ok (.getfield 126, 3) := by decide +kernel
theorem dX1_comesOut_111 : decode cX1_comesOut 111 = .ok (.istore 5, 2) := by decide +kernel
theorem dX1_comesOut_113 : decode cX1_comesOut 113 = .ok (.iload 5, 2) := by decide +kernel
theorem dX1_comesOut_115 : decode cX1_comesOut 115 = .ok (.aload_n 2, 1) := by decide +kernel
theorem dX1_comesOut_116 : decode cX1_comesOut 116 = .ok (.getfield 120, 3) := by decide +kernel
theorem dX1_comesOut_119 : decode cX1_comesOut 119 = .ok (.if_icmp .ge 48, 3) := by decide +kernel
theorem dX1_comesOut_122 : decode cX1_comesOut 122 = .ok (.iload 5, 2) := by decide +kernel
theorem dX1_comesOut_124 : decode cX1_comesOut 124 = .ok (.bipush 6, 2) := by decide +kernel
theorem dX1_comesOut_126 : decode cX1_comesOut 126 = .ok (.if_icmp .ge 41, 3) := by decide +kernel
theorem dX1_comesOut_129 : decode cX1_comesOut 129 = .ok (.aload_n 0, 1) := by decide +kernel
theorem dX1_comesOut_130 : decode cX1_comesOut 130 = .ok (.getfield 25, 3) := by decide +kernel
theorem dX1_comesOut_133 : decode cX1_comesOut 133 = .ok (.aload_n 0, 1) := by decide +kernel
theorem dX1_comesOut_134 : decode cX1_comesOut 134 = .ok (.getfield 28, 3) := by decide +kernel
theorem dX1_comesOut_137 : decode cX1_comesOut 137 = .ok (.aload_n 2, 1) := by decide +kernel
theorem dX1_comesOut_138 : decode cX1_comesOut 138 = .ok (.getfield 213, 3) := by decide +kernel
theorem dX1_comesOut_141 : decode cX1_comesOut 141 = .ok (.iload 5, 2) := by decide +kernel
theorem dX1_comesOut_143 : decode cX1_comesOut 143 = .ok (.iaload, 1) := by decide +kernel
theorem dX1_comesOut_144 : decode cX1_comesOut 144 = .ok (.aload_n 2, 1) := by decide +kernel
theorem dX1_comesOut_145 : decode cX1_comesOut 145 = .ok (.getfield 216, 3) := by decide +kernel
theorem dX1_comesOut_148 : decode cX1_comesOut 148 = .ok (.iload 5, 2) := by decide +kernel
theorem dX1_comesOut_150 : decode cX1_comesOut 150 = .ok (.iaload, 1) := by decide +kernel
theorem dX1_comesOut_151 : decode cX1_comesOut 151 = .ok (.aload_n 0, 1) := by decide +kernel
theorem dX1_comesOut_152 : decode cX1_comesOut 152 = .ok (.getfield 18, 3) := by decide +kernel
theorem dX1_comesOut_155 : decode cX1_comesOut 155 = .ok (.invokevirtual 167, 3) := by decide +kernel
theorem dX1_comesOut_158 : decode cX1_comesOut 158 = .ok (.invokevirtual 219, 3) := by decide +kernel
theorem dX1_comesOut_161 : decode cX1_comesOut 161 = .ok (.iinc 5 1, 3) := by decide +kernel
theorem dX1_comesOut_164 : decode cX1_comesOut 164 = .ok (.goto (-51), 3) := by decide +kernel
theorem dX1_comesOut_167 : decode cX1_comesOut 167 = .ok (.iconst 1, 1) := by decide +kernel
theorem dX1_comesOut_168 : decode cX1_comesOut 168 = .ok (.ireturn, 1) := by decide +kernel
theorem dX1_comesOut_169 : decode cX1_comesOut 169 = .ok (.aload_n 0, 1) := by decide +kernel
theorem dX1_comesOut_170 : decode cX1_comesOut 170 = .ok (.getfield 25, 3) := by decide +kernel
theorem dX1_comesOut_173 : decode cX1_comesOut 173 = .ok (.aload_n 0, 1) := by decide +kernel
theorem dX1_comesOut_174 : decode cX1_comesOut 174 = .ok (.getfield 18, 3) := by decide +kernel
theorem dX1_comesOut_177 : decode cX1_comesOut 177 = .ok (.getfield 127, 3) := by decide +kernel
theorem dX1_comesOut_180 : decode cX1_comesOut 180 = .ok (.invokevirtual 223, 3) := by decide +kernel
theorem dX1_comesOut_183 : decode cX1_comesOut 183 = .ok (.iconst 0, 1) := by decide +kernel
theorem dX1_comesOut_184 : decode cX1_comesOut 184 = .ok (.istore 5, 2) := by decide +kernel
theorem dX1_comesOut_186 : decode cX1_comesOut 186 = .ok (.iload 5, 2) := by decide +kernel
theorem dX1_comesOut_188 : decode cX1_comesOut 188 = .ok (.aload_n 2, 1) := by decide +kernel
theorem dX1_comesOut_189 : decode cX1_comesOut 189 = .ok (.getfield 120, 3) := by decide +kernel
theorem dX1_comesOut_192 : decode cX1_comesOut 192 = .ok (.if_icmp .ge 37, 3) := by decide +kernel
theorem dX1_comesOut_195 : decode cX1_comesOut 195 = .ok (.iload 5, 2) := by decide +kernel
theorem dX1_comesOut_197 : decode cX1_comesOut 197 = .ok (.bipush 6, 2) := by decide +kernel
theorem dX1_comesOut_199 : decode cX1_comesOut 199 = .ok (.if_icmp .ge 30, 3) := by decide +kernel
theorem dX1_comesOut_202 : decode cX1_comesOut 202 = .ok (.aload_n 0, 1) := by decide +kernel
theorem dX1_comesOut_203 : decode cX1_comesOut 203 = .ok (.getfield 25, 3) := by decide +kernel
theorem dX1_comesOut_206 : decode cX1_comesOut 206 = .ok (.aload_n 0, 1) := by decide +kernel
theorem dX1_comesOut_207 : decode cX1_comesOut 207 = .ok (.getfield 18, 3) := by decide +kernel
theorem dX1_comesOut_210 : decode cX1_comesOut 210 = .ok (.aload_n 2, 1) := by decide +kernel
theorem dX1_comesOut_211 : decode cX1_comesOut 211 = .ok (.getfield 227, 3) := by decide +kernel
theorem dX1_comesOut_214 : decode cX1_comesOut 214 = .ok (.iload 5, 2) := by decide +kernel
theorem dX1_comesOut_216 : decode cX1_comesOut 216 = .ok (.iaload, 1) := by decide +kernel
theorem dX1_comesOut_217 : decode cX1_comesOut 217 = .ok (.invokevirtual 230, 3) := by decide +kernel
theorem dX1_comesOut_220 : decode cX1_comesOut 220 = .ok (.invokevirtual 219, 3) := by decide +kernel
theorem dX1_comesOut_223 : decode cX1_comesOut 223 = .ok (.iinc 5 1, 3) := by decide +kernel
theorem dX1_comesOut_226 : decode cX1_comesOut 226 = .ok (.goto (-40), 3) := by decide +kernel
theorem dX1_comesOut_229 : decode cX1_comesOut 229 = .ok (.iconst 1, 1) := by decide +kernel
theorem dX1_comesOut_230 : decode cX1_comesOut 230 = .ok (.ireturn, 1) := by decide +kernel
theorem dX1_comesOut_231 : decode cX1_comesOut 231 = .ok (.aload_n 0, 1) := by decide +kernel
theorem dX1_comesOut_232 : decode cX1_comesOut 232 = .ok (.getfield 25, 3) := by decide +kernel
theorem dX1_comesOut_235 : decode cX1_comesOut 235 = .ok (.aload_n 0, 1) := by decide +kernel
theorem dX1_comesOut_236 : decode cX1_comesOut 236 = .ok (.getfield 18, 3) := by decide +kernel
theorem dX1_comesOut_239 : decode cX1_comesOut 239 = .ok (.invokevirtual 143, 3) := by decide +kernel
theorem dX1_comesOut_242 : decode cX1_comesOut 242 = .ok (.iconst 1, 1) := by decide +kernel
theorem dX1_comesOut_243 : decode cX1_comesOut 243 = .ok (.ireturn, 1) := by decide +kernel
theorem dX1_comesOut_244 : decode cX1_comesOut 244 = .ok (.aload_n 0, 1) := by decide +kernel
theorem dX1_comesOut_245 : decode cX1_comesOut 245 = .ok (.getfield 25, 3) := by decide +kernel
theorem dX1_comesOut_248 : decode cX1_comesOut 248 = .ok (.aload_n 0, 1) := by decide +kernel
theorem dX1_comesOut_249 : decode cX1_comesOut 249 = .ok (.getfield 18, 3) := by decide +kernel
theorem dX1_comesOut_252 : decode cX1_comesOut 252 = .ok (.invokevirtual 143, 3) := by decide +kernel
theorem dX1_comesOut_255 : decode cX1_comesOut 255 = .ok (.aload_n 0, 1) := by decide +kernel
theorem dX1_comesOut_256 : decode cX1_comesOut 256 = .ok (.aload_n 2, 1) := by decide +kernel
theorem dX1_comesOut_257 : decode cX1_comesOut 257 = .ok (.aload_n 3, 1) := by decide +kernel
theorem dX1_comesOut_258 : decode cX1_comesOut 258 = .ok (.iload 4, 2) := by decide +kernel
theorem dX1_comesOut_260 : decode cX1_comesOut 260 = .ok (.invokevirtual 234, 3) := by decide +kernel
theorem dX1_comesOut_263 : decode cX1_comesOut 263 = .ok (.ireturn, 1) := by decide +kernel
theorem dX1_comesOut_264 : decode cX1_comesOut 264 = .ok (.aload_n 0, 1) := by decide +kernel
theorem dX1_comesOut_265 : decode cX1_comesOut 265 = .ok (.iload_n 1, 1) := by decide +kernel
theorem dX1_comesOut_266 : decode cX1_comesOut 266 = .ok (.iconst 0, 1) := by decide +kernel
theorem dX1_comesOut_267 : decode cX1_comesOut 267 = .ok (.invokevirtual 156, 3) := by decide +kernel
theorem dX1_comesOut_270 : decode cX1_comesOut 270 = .ok (.ireturn, 1) := by decide +kernel
theorem dX1_comesOut_271 : decode cX1_comesOut 271 = .ok (.iconst 0, 1) := by decide +kernel
theorem dX1_comesOut_272 : decode cX1_comesOut 272 = .ok (.ireturn, 1) := by decide +kernel
theorem dX1_isFirst_0 : decode cX1_isFirst 0 = .ok (.iconst 1, 1) := by decide +kernel
theorem dX1_isFirst_1 : decode cX1_isFirst 1 = .ok (.istore 4, 2) := by decide +kernel
theorem dX1_isFirst_3 : decode cX1_isFirst 3 = .ok (.iconst 0, 1) := by decide +kernel
theorem dX1_isFirst_4 : decode cX1_isFirst 4 = .ok (.istore 5, 2) := by decide +kernel
theorem dX1_isFirst_6 : decode cX1_isFirst 6 = .ok (.iload 5, 2) := by decide +kernel
theorem dX1_isFirst_8 : decode cX1_isFirst 8 = .ok (.iload_n 3, 1) := by decide +kernel
theorem dX1_isFirst_9 : decode cX1_isFirst 9 = .ok (.if_icmp .ge 81, 3) := by decide +kernel
theorem dX1_isFirst_12 : decode cX1_isFirst 12 = .ok (.iload 5, 2) := by decide +kernel
theorem dX1_isFirst_14 : decode cX1_isFirst 14 = .ok (.aload_n 1, 1) := by decide +kernel
theorem dX1_isFirst_15 : decode cX1_isFirst 15 = .ok (.getfield 238, 3) := by decide +kernel
theorem dX1_isFirst_18 : decode cX1_isFirst 18 = .ok (.arraylength, 1) := by decide +kernel
theorem dX1_isFirst_19 : decode cX1_isFirst 19 = .ok (.if_icmp .ge 71, 3) := by decide +kernel
theorem dX1_isFirst_22 : decode cX1_isFirst 22 = .ok (.aload_n 1, 1) := by decide +kernel
theorem dX1_isFirst_23 : decode cX1_isFirst 23 = .ok (.getfield 238, 3) := by decide +kernel
theorem dX1_isFirst_26 : decode cX1_isFirst 26 = .ok (.iload 5, 2) := by decide +kernel
theorem dX1_isFirst_28 : decode cX1_isFirst 28 = .ok (.baload, 1) := by decide +kernel
theorem dX1_isFirst_29 : decode cX1_isFirst 29 = .ok (.ifCond .eq 55, 3) := by decide +kernel
theorem dX1_isFirst_32 : decode cX1_isFirst 32 = .ok (.aload_n 2, 1) := by decide +kernel
theorem dX1_isFirst_33 : decode cX1_isFirst 33 = .ok (.iload 5, 2) := by decide +kernel
theorem dX1_isFirst_35 : decode cX1_isFirst 35 = .ok (.aload_n 1, 1) := by decide +kernel
theorem dX1_isFirst_36 : decode cX1_isFirst 36 = .ok (.getfield 242, 3) := by decide +kernel
theorem dX1_isFirst_39 : decode cX1_isFirst 39 = .ok (.invokevirtual 245, 3) := by decide +kernel
theorem dX1_isFirst_42 : decode cX1_isFirst 42 = .ok (.aload_n 0, 1) := by decide +kernel
theorem dX1_isFirst_43 : decode cX1_isFirst 43 = .ok (.getfield 18, 3) := by decide +kernel
theorem dX1_isFirst_46 : decode cX1_isFirst 46 = .ok (.aload_n 1, 1) := by decide +kernel
theorem dX1_isFirst_47 : decode cX1_isFirst 47 = .ok (.getfield 242, 3) := by decide +kernel
theorem dX1_isFirst_50 : decode cX1_isFirst 50 = .ok (.invokevirtual 230, 3) := by decide +kernel
theorem dX1_isFirst_53 : decode cX1_isFirst 53 = .ok (.lcmp, 1) := by decide +kernel
theorem dX1_isFirst_54 : decode cX1_isFirst 54 = .ok (.ifCond .ne 30, 3) := by decide +kernel
theorem dX1_isFirst_57 : decode cX1_isFirst 57 = .ok (.aload_n 2, 1) := by decide +kernel
theorem dX1_isFirst_58 : decode cX1_isFirst 58 = .ok (.iload 5, 2) := by decide +kernel
theorem dX1_isFirst_60 : decode cX1_isFirst 60 = .ok (.invokevirtual 249, 3) := by decide +kernel
theorem dX1_isFirst_63 : decode cX1_isFirst 63 = .ok (.aload_n 0, 1) := by decide +kernel
theorem dX1_isFirst_64 : decode cX1_isFirst 64 = .ok (.getfield 18, 3) := by decide +kernel
theorem dX1_isFirst_67 : decode cX1_isFirst 67 = .ok (.getfield 127, 3) := by decide +kernel
theorem dX1_isFirst_70 : decode cX1_isFirst 70 = .ok (.isub, 1) := by decide +kernel
theorem dX1_isFirst_71 : decode cX1_isFirst 71 = .ok (.invokestatic 253, 3) := by decide +kernel
theorem dX1_isFirst_74 : decode cX1_isFirst 74 = .ok (.aload_n 1, 1) := by decide +kernel
theorem dX1_isFirst_75 : decode cX1_isFirst 75 = .ok (.getfield 130, 3) := by decide +kernel
theorem dX1_isFirst_78 : decode cX1_isFirst 78 = .ok (.if_icmp .gt 6, 3) := by decide +kernel
theorem dX1_isFirst_81 : decode cX1_isFirst 81 = .ok (.iconst 0, 1) := by decide +kernel
theorem dX1_isFirst_82 : decode cX1_isFirst 82 = .ok (.istore 4, 2) := by decide +kernel
theorem dX1_isFirst_84 : decode cX1_isFirst 84 = .ok (.iinc 5 1, 3) := by decide +kernel
theorem dX1_isFirst_87 : decode cX1_isFirst 87 = .ok (.goto (-81), 3) := by decide +kernel
theorem dX1_isFirst_90 : decode cX1_isFirst 90 = .ok (.iload_n 3, 1) := by decide +kernel
theorem dX1_isFirst_91 : decode cX1_isFirst 91 = .ok (.aload_n 1, 1) := by decide +kernel
theorem dX1_isFirst_92 : decode cX1_isFirst 92 = .ok (.getfield 238, 3) := by decide +kernel
theorem dX1_isFirst_95 : decode cX1_isFirst 95 = .ok (.arraylength, 1) := by decide +kernel
theorem dX1_isFirst_96 : decode cX1_isFirst 96 = .ok (.if_icmp .ge 11, 3) := by decide +kernel
theorem dX1_isFirst_99 : decode cX1_isFirst 99 = .ok (.aload_n 1, 1) := by decide +kernel
theorem dX1_isFirst_100 : decode cX1_isFirst 100 = .ok (.getfield 238, 3) := by decide +kernel
theorem dX1_isFirst_103 : decode cX1_isFirst 103 = .ok (.iload_n 3, 1) := by decide +kernel
theorem dX1_isFirst_104 : decode cX1_isFirst 104 = .ok (.iload 4, 2) := by decide +kernel
theorem dX1_isFirst_106 : decode cX1_isFirst 106 = .ok (.bastore, 1) := by decide +kernel
theorem dX1_isFirst_107 : decode cX1_isFirst 107 = .ok (.iload 4, 2) := by decide +kernel
theorem dX1_isFirst_109 : decode cX1_isFirst 109 = .ok (.ireturn, 1) := by decide +kernel
theorem dX1_joinNewRow_0 : decode cX1_joinNewRow 0 = .ok (.aload_n 0, 1) := by decide +kernel
theorem dX1_joinNewRow_1 : decode cX1_joinNewRow 1 = .ok (.aload_n 2, 1) := by decide +kernel
theorem dX1_joinNewRow_2 : decode cX1_joinNewRow 2 = .ok (.iload_n 3, 1) := by decide +kernel
theorem dX1_joinNewRow_3 : decode cX1_joinNewRow 3 = .ok (.ifCond .eq 7, 3) := by decide +kernel
theorem dX1_joinNewRow_6 : decode cX1_joinNewRow 6 = .ok (.iconst 1, 1) := by decide +kernel
theorem dX1_joinNewRow_7 : decode cX1_joinNewRow 7 = .ok (.goto 4, 3) := by decide +kernel
theorem dX1_joinNewRow_10 : decode cX1_joinNewRow 10 = .ok (.iconst 0, 1) := by decide +kernel
theorem dX1_joinNewRow_11 : decode cX1_joinNewRow 11 = .ok (.invokevirtual 188, 3) := by decide +kernel
theorem dX1_joinNewRow_14 : decode cX1_joinNewRow 14 = .ok (.astore 4, 2) := by decide +kernel
theorem dX1_joinNewRow_16 : decode cX1_joinNewRow 16 = .ok (.aload 4, 2) := by decide +kernel
theorem dX1_joinNewRow_18 : decode cX1_joinNewRow 18 = .ok (.ifnonnull 4, 3) := by decide +kernel
theorem dX1_joinNewRow_21 : decode cX1_joinNewRow 21 = .ok (.return_, 1) := by decide +kernel
theorem dX1_joinNewRow_22 : decode cX1_joinNewRow 22 = .ok (.iload_n 3, 1) := by decide +kernel
theorem dX1_joinNewRow_23 : decode cX1_joinNewRow 23 = .ok (.ifCond .eq 12, 3) := by decide +kernel
theorem dX1_joinNewRow_26 : decode cX1_joinNewRow 26 = .ok (.aload_n 2, 1) := by decide +kernel
theorem dX1_joinNewRow_27 : decode cX1_joinNewRow 27 = .ok (.getfield 192, 3) := by decide +kernel
theorem dX1_joinNewRow_30 : decode cX1_joinNewRow 30 = .ok (.iconst 1, 1) := by decide +kernel
theorem dX1_joinNewRow_31 : decode cX1_joinNewRow 31 = .ok (.iaload, 1) := by decide +kernel
theorem dX1_joinNewRow_32 : decode cX1_joinNewRow 32 = .ok (.goto 11, 3) := by decide +kernel
theorem dX1_joinNewRow_35 : decode cX1_joinNewRow 35 = .ok (.aload 4, 2) := by decide +kernel
theorem dX1_joinNewRow_37 : decode cX1_joinNewRow 37 = .ok (.getfield 178, 3) := by decide +kernel
theorem dX1_joinNewRow_40 : decode cX1_joinNewRow 40 = .ok (.getfield 196, 3) := by decide +kernel
theorem dX1_joinNewRow_43 : decode cX1_joinNewRow 43 = .ok (.istore 5, 2) := by decide +kernel
theorem dX1_joinNewRow_45 : decode cX1_joinNewRow 45 = .ok (.iload_n 3, 1) := by decide +kernel
theorem dX1_joinNewRow_46 : decode cX1_joinNewRow 46 = .ok (.ifCond .eq 10, 3) := by decide +kernel
theorem dX1_joinNewRow_49 : decode cX1_joinNewRow 49 = .ok (.aload_n 2, 1) := by decide +kernel
theorem dX1_joinNewRow_50 : decode cX1_joinNewRow 50 = .ok (.getfield 256, 3) := by decide +kernel
theorem dX1_joinNewRow_53 : decode cX1_joinNewRow 53 = .ok (.goto 7, 3) := by decide +kernel
theorem dX1_joinNewRow_56 : decode cX1_joinNewRow 56 = .ok (.aload_n 2, 1) := by decide +kernel
theorem dX1_joinNewRow_57 : decode cX1_joinNewRow 57 = .ok (.getfield 242, 3) := by decide +kernel
theorem dX1_joinNewRow_60 : decode cX1_joinNewRow 60 = .ok (.istore 6, 2) := by decide +kernel
theorem dX1_joinNewRow_62 : decode cX1_joinNewRow 62 = .ok (.aload_n 0, 1) := by decide +kernel
theorem dX1_joinNewRow_63 : decode cX1_joinNewRow 63 = .ok (.getfield 18, 3) := by decide +kernel
theorem dX1_joinNewRow_66 : decode cX1_joinNewRow 66 = .ok (.iload_n 3, 1) := by decide +kernel
theorem dX1_joinNewRow_67 : decode cX1_joinNewRow 67 = .ok (.ifCond .eq 10, 3) := by decide +kernel
theorem dX1_joinNewRow_70 : decode cX1_joinNewRow 70 = .ok (.aload_n 2, 1) := by decide +kernel
theorem dX1_joinNewRow_71 : decode cX1_joinNewRow 71 = .ok (.getfield 242, 3) := by decide +kernel
theorem dX1_joinNewRow_74 : decode cX1_joinNewRow 74 = .ok (.goto 7, 3) := by decide +kernel
theorem dX1_joinNewRow_77 : decode cX1_joinNewRow 77 = .ok (.aload_n 2, 1) := by decide +kernel
theorem dX1_joinNewRow_78 : decode cX1_joinNewRow 78 = .ok (.getfield 256, 3) := by decide +kernel
theorem dX1_joinNewRow_81 : decode cX1_joinNewRow 81 = .ok (.invokevirtual 230, 3) := by decide +kernel
theorem dX1_joinNewRow_84 : decode cX1_joinNewRow 84 = .ok (.lstore 7, 2) := by decide +kernel
theorem dX1_joinNewRow_86 : decode cX1_joinNewRow 86 = .ok (.iconst 0, 1) := by decide +kernel
theorem dX1_joinNewRow_87 : decode cX1_joinNewRow 87 = .ok (.istore 9, 2) := by decide +kernel
theorem dX1_joinNewRow_89 : decode cX1_joinNewRow 89 = .ok (.iload 9, 2) := by decide +kernel
theorem dX1_joinNewRow_91 : decode cX1_joinNewRow 91 = .ok (.iload 5, 2) := by decide +kernel
theorem dX1_joinNewRow_93 : decode cX1_joinNewRow 93 = .ok (.if_icmp .ge 113, 3) := by decide +kernel
theorem dX1_joinNewRow_96 : decode cX1_joinNewRow 96 = .ok (.aload 4, 2) := by decide +kernel
theorem dX1_joinNewRow_98 : decode cX1_joinNewRow 98 = .ok (.getfield 178, 3) := by decide +kernel
theorem dX1_joinNewRow_101 : decode cX1_joinNewRow 101 = .ok (.iload 9, 2) := by decide +kernel
theorem dX1_joinNewRow_103 : decode cX1_joinNewRow 103 = .ok (.iload 6, 2) := by decide +kernel
theorem dX1_joinNewRow_105 : decode cX1_joinNewRow 105 = .ok (.invokevirtual 245, 3) := by decide +kernel
theorem dX1_joinNewRow_108 : decode cX1_joinNewRow 108 = .ok (.lload 7, 2) := by decide +kernel
theorem dX1_joinNewRow_110 : decode cX1_joinNewRow 110 = .ok (.lcmp, 1) := by decide +kernel
theorem dX1_joinNewRow_111 : decode cX1_joinNewRow 111 = .ok (.ifCond .ne 89, 3) := by decide +kernel
theorem dX1_joinNewRow_114 : decode cX1_joinNewRow 114 = .ok (.aload 4, 2) := by decide +kernel
theorem dX1_joinNewRow_116 : decode cX1_joinNewRow 116 = .ok (.getfield 178, 3) := by decide +kernel
theorem dX1_joinNewRow_119 : decode cX1_joinNewRow 119 = .ok (.iload 9, 2) := by decide +kernel
theorem dX1_joinNewRow_121 : decode cX1_joinNewRow 121 = .ok (.invokevirtual 249, 3) := by decide +kernel
theorem dX1_joinNewRow_124 : decode cX1_joinNewRow 124 = .ok (.aload_n 0, 1) := by decide +kernel
theorem dX1_joinNewRow_125 : decode cX1_joinNewRow 125 = .ok (.getfield 18, 3) := by decide +kernel
theorem dX1_joinNewRow_128 : decode cX1_joinNewRow 128 = .ok (.getfield 127, 3) := by decide +kernel
theorem dX1_joinNewRow_131 : decode cX1_joinNewRow 131 = .ok (.isub, 1) := by decide +kernel
theorem dX1_joinNewRow_132 : decode cX1_joinNewRow 132 = .ok (.invokestatic 253, 3) := by decide +kernel
theorem dX1_joinNewRow_135 : decode cX1_joinNewRow 135 = .ok (.aload_n 2, 1) := by decide +kernel
theorem dX1_joinNewRow_136 : decode cX1_joinNewRow 136 = .ok (.getfield 130, 3) := by decide +kernel
theorem dX1_joinNewRow_139 : decode cX1_joinNewRow 139 = .ok (.if_icmp .gt 61, 3) := by decide +kernel
theorem dX1_joinNewRow_142 : decode cX1_joinNewRow 142 = .ok (.aload 4, 2) := by decide +kernel
theorem dX1_joinNewRow_144 : decode cX1_joinNewRow 144 = .ok (.getfield 178, 3) := by decide +kernel
theorem dX1_joinNewRow_147 : decode cX1_joinNewRow 147 = .ok (.iload 9, 2) := by decide +kernel
theorem dX1_joinNewRow_149 : decode cX1_joinNewRow 149 = .ok (.aload_n 0, 1) := by decide +kernel
theorem dX1_joinNewRow_150 : decode cX1_joinNewRow 150 = .ok (.getfield 22, 3) := by decide +kernel
theorem dX1_joinNewRow_153 : decode cX1_joinNewRow 153 = .ok (.invokevirtual 199, 3) := by decide +kernel
theorem dX1_joinNewRow_156 : decode cX1_joinNewRow 156 = .ok (.aload_n 0, 1) := by decide +kernel
theorem dX1_joinNewRow_157 : decode cX1_joinNewRow 157 = .ok (.aload_n 2, 1) := by decide +kernel
theorem dX1_joinNewRow_158 : decode cX1_joinNewRow 158 = .ok (.iload_n 3, 1) := by decide +kernel
theorem dX1_joinNewRow_159 : decode cX1_joinNewRow 159 = .ok (.ifCond .eq 10, 3) := by decide +kernel
theorem dX1_joinNewRow_162 : decode cX1_joinNewRow 162 = .ok (.aload_n 0, 1) := by decide +kernel
theorem dX1_joinNewRow_163 : decode cX1_joinNewRow 163 = .ok (.getfield 18, 3) := by decide +kernel
theorem dX1_joinNewRow_166 : decode cX1_joinNewRow 166 = .ok (.goto 7, 3) := by decide +kernel
theorem dX1_joinNewRow_169 : decode cX1_joinNewRow 169 = .ok (.aload_n 0, 1) := by decide +kernel
theorem dX1_joinNewRow_170 : decode cX1_joinNewRow 170 = .ok (.getfield 22, 3) := by decide +kernel
theorem dX1_joinNewRow_173 : decode cX1_joinNewRow 173 = .ok (.iload_n 3, 1) := by decide +kernel
theorem dX1_joinNewRow_174 : decode cX1_joinNewRow 174 = .ok (.ifCond .eq 10, 3) := by decide +kernel
theorem dX1_joinNewRow_177 : decode cX1_joinNewRow 177 = .ok (.aload_n 0, 1) := by decide +kernel
theorem dX1_joinNewRow_178 : decode cX1_joinNewRow 178 = .ok (.getfield 22, 3) := by decide +kernel
theorem dX1_joinNewRow_181 : decode cX1_joinNewRow 181 = .ok (.goto 7, 3) := by decide +kernel
theorem dX1_joinNewRow_184 : decode cX1_joinNewRow 184 = .ok (.aload_n 0, 1) := by decide +kernel
theorem dX1_joinNewRow_185 : decode cX1_joinNewRow 185 = .ok (.getfield 18, 3) := by decide +kernel
theorem dX1_joinNewRow_188 : decode cX1_joinNewRow 188 = .ok (.invokevirtual 259, 3) := by decide +kernel
theorem dX1_joinNewRow_191 : decode cX1_joinNewRow 191 = .ok (.aload_n 0, 1) := by decide +kernel
theorem dX1_joinNewRow_192 : decode cX1_joinNewRow 192 = .ok (.iload_n 1, 1) := by decide +kernel
theorem dX1_joinNewRow_193 : decode cX1_joinNewRow 193 = .ok (.aload_n 0, 1) := by decide +kernel
theorem dX1_joinNewRow_194 : decode cX1_joinNewRow 194 = .ok (.getfield 25, 3) := by decide +kernel
theorem dX1_joinNewRow_197 : decode cX1_joinNewRow 197 = .ok (.invokevirtual 139, 3) := by decide +kernel
theorem dX1_joinNewRow_200 : decode cX1_joinNewRow 200 = .ok (.iinc 9 1, 3) := by decide +kernel
theorem dX1_joinNewRow_203 : decode cX1_joinNewRow 203 = .ok (.goto (-114), 3) := by decide +kernel
theorem dX1_joinNewRow_206 : decode cX1_joinNewRow 206 = .ok (.return_, 1) := by decide +kernel
theorem dX1_makeJoined_0 : decode cX1_makeJoined 0 = .ok (.aload_n 0, 1) := by decide +kernel
theorem dX1_makeJoined_1 : decode cX1_makeJoined 1 = .ok (.getfield 25, 3) := by decide +kernel
theorem dX1_makeJoined_4 : decode cX1_makeJoined 4 = .ok (.aload_n 2, 1) := by decide +kernel
theorem dX1_makeJoined_5 : decode cX1_makeJoined 5 = .ok (.invokevirtual 143, 3) := by decide +kernel
theorem dX1_makeJoined_8 : decode cX1_makeJoined 8 = .ok (.aload_n 0, 1) := by decide +kernel
theorem dX1_makeJoined_9 : decode cX1_makeJoined 9 = .ok (.getfield 25, 3) := by decide +kernel
theorem dX1_makeJoined_12 : decode cX1_makeJoined 12 = .ok (.aload_n 2, 1) := by decide +kernel
theorem dX1_makeJoined_13 : decode cX1_makeJoined 13 = .ok (.getfield 127, 3) := by decide +kernel
theorem dX1_makeJoined_16 : decode cX1_makeJoined 16 = .ok (.aload_n 3, 1) := by decide +kernel
theorem dX1_makeJoined_17 : decode cX1_makeJoined 17 = .ok (.getfield 127, 3) := by decide +kernel
theorem dX1_makeJoined_20 : decode cX1_makeJoined 20 = .ok (.invokestatic 133, 3) := by decide +kernel
theorem dX1_makeJoined_23 : decode cX1_makeJoined 23 = .ok (.putfield 127, 3) := by decide +kernel
theorem dX1_makeJoined_26 : decode cX1_makeJoined 26 = .ok (.iconst 0, 1) := by decide +kernel
theorem dX1_makeJoined_27 : decode cX1_makeJoined 27 = .ok (.istore 4, 2) := by decide +kernel
theorem dX1_makeJoined_29 : decode cX1_makeJoined 29 = .ok (.iload 4, 2) := by decide +kernel
theorem dX1_makeJoined_31 : decode cX1_makeJoined 31 = .ok (.aload_n 3, 1) := by decide +kernel
theorem dX1_makeJoined_32 : decode cX1_makeJoined 32 = .ok (.getfield 126, 3) := by decide +kernel
theorem dX1_makeJoined_35 : decode cX1_makeJoined 35 = .ok (.if_icmp .ge 31, 3) := by decide +kernel
theorem dX1_makeJoined_38 : decode cX1_makeJoined 38 = .ok (.iload 4, 2) := by decide +kernel
theorem dX1_makeJoined_40 : decode cX1_makeJoined 40 = .ok (.aload_n 1, 1) := by decide +kernel
theorem dX1_makeJoined_41 : decode cX1_makeJoined 41 = .ok (.getfield 256, 3) := by decide +kernel
theorem dX1_makeJoined_44 : decode cX1_makeJoined 44 = .ok (.if_icmp .eq 16, 3) := by decide +kernel
theorem dX1_makeJoined_47 : decode cX1_makeJoined 47 = .ok (.aload_n 0, 1) := by decide +kernel
theorem dX1_makeJoined_48 : decode cX1_makeJoined 48 = .ok (.getfield 25, 3) := by decide +kernel
theorem dX1_makeJoined_51 : decode cX1_makeJoined 51 = .ok (.aload_n 3, 1) := by decide +kernel
theorem dX1_makeJoined_52 : decode cX1_makeJoined 52 = .ok (.iload 4, 2) := by decide +kernel
theorem dX1_makeJoined_54 : decode cX1_makeJoined 54 = .ok (.invokevirtual 230, 3) := by decide +kernel
theorem dX1_makeJoined_57 : decode cX1_makeJoined 57 = .ok (.invokevirtual 219, 3) := by decide +kernel
theorem dX1_makeJoined_60 : decode cX1_makeJoined 60 = .ok (.iinc 4 1, 3) := by decide +kernel
theorem dX1_makeJoined_63 : decode cX1_makeJoined 63 = .ok (.goto (-34), 3) := by decide +kernel
theorem dX1_makeJoined_66 : decode cX1_makeJoined 66 = .ok (.return_, 1) := by decide +kernel
theorem dX1_enterWindow_0 : decode cX1_enterWindow 0 = .ok (.aload_n 0, 1) := by decide +kernel
theorem dX1_enterWindow_1 : decode cX1_enterWindow 1 = .ok (.getfield 28, 3) := by decide +kernel
theorem dX1_enterWindow_4 : decode cX1_enterWindow 4 = .ok (.getfield 38, 3) := by decide +kernel
theorem dX1_enterWindow_7 : decode cX1_enterWindow 7 = .ok (.iload_n 1, 1) := by decide +kernel
theorem dX1_enterWindow_8 : decode cX1_enterWindow 8 = .ok (.aaload, 1) := by decide +kernel
theorem dX1_enterWindow_9 : decode cX1_enterWindow 9 = .ok (.astore_n 3, 1) := by decide +kernel
theorem dX1_enterWindow_10 : decode cX1_enterWindow 10 = .ok (.aload_n 3, 1) := by decide +kernel
theorem dX1_enterWindow_11 : decode cX1_enterWindow 11 = .ok (.getfield 130, 3) := by decide +kernel
theorem dX1_enterWindow_14 : decode cX1_enterWindow 14 = .ok (.ifCond .gt 5, 3) := by decide +kernel
theorem dX1_enterWindow_17 : decode cX1_enterWindow 17 = .ok (.iconst 0, 1) := by decide +kernel
theorem dX1_enterWindow_18 : decode cX1_enterWindow 18 = .ok (.ireturn, 1) := by decide +kernel
theorem dX1_enterWindow_19 : decode cX1_enterWindow 19 = .ok (.aload_n 0, 1) := by decide +kernel
theorem dX1_enterWindow_20 : decode cX1_enterWindow 20 = .ok (.getfield 18, 3) := by decide +kernel
theorem dX1_enterWindow_23 : decode cX1_enterWindow 23 = .ok (.getfield 127, 3) := by decide +kernel
theorem dX1_enterWindow_26 : decode cX1_enterWindow 26 = .ok (.aload_n 0, 1) := by decide +kernel
theorem dX1_enterWindow_27 : decode cX1_enterWindow 27 = .ok (.getfield 18, 3) := by decide +kernel
theorem dX1_enterWindow_30 : decode cX1_enterWindow 30 = .ok (.getfield 127, 3) := by decide +kernel
theorem dX1_enterWindow_33 : decode cX1_enterWindow 33 = .ok (.aload_n 3, 1) := by decide +kernel
theorem dX1_enterWindow_34 : decode cX1_enterWindow 34 = .ok (.getfield 130, 3) := by decide +kernel
theorem dX1_enterWindow_37 : decode cX1_enterWindow 37 = .ok (.irem, 1) := by decide +kernel
theorem dX1_enterWindow_38 : decode cX1_enterWindow 38 = .ok (.isub, 1) := by decide +kernel
theorem dX1_enterWindow_39 : decode cX1_enterWindow 39 = .ok (.aload_n 3, 1) := by decide +kernel
theorem dX1_enterWindow_40 : decode cX1_enterWindow 40 = .ok (.getfield 130, 3) := by decide +kernel
theorem dX1_enterWindow_43 : decode cX1_enterWindow 43 = .ok (.iadd, 1) := by decide +kernel
theorem dX1_enterWindow_44 : decode cX1_enterWindow 44 = .ok (.istore 4, 2) := by decide +kernel
theorem dX1_enterWindow_46 : decode cX1_enterWindow 46 = .ok (.iload_n 2, 1) := by decide +kernel
theorem dX1_enterWindow_47 : decode cX1_enterWindow 47 = .ok (.ifCond .ne 29, 3) := by decide +kernel
theorem dX1_enterWindow_50 : decode cX1_enterWindow 50 = .ok (.aload_n 3, 1) := by decide +kernel
theorem dX1_enterWindow_51 : decode cX1_enterWindow 51 = .ok (.getfield 105, 3) := by decide +kernel
theorem dX1_enterWindow_54 : decode cX1_enterWindow 54 = .ok (.iload 4, 2) := by decide +kernel
theorem dX1_enterWindow_56 : decode cX1_enterWindow 56 = .ok (.aload_n 3, 1) := by decide +kernel
theorem dX1_enterWindow_57 : decode cX1_enterWindow 57 = .ok (.getfield 263, 3) := by decide +kernel
theorem dX1_enterWindow_60 : decode cX1_enterWindow 60 = .ok (.iadd, 1) := by decide +kernel
theorem dX1_enterWindow_61 : decode cX1_enterWindow 61 = .ok (.if_icmp .lt 15, 3) := by decide +kernel
theorem dX1_enterWindow_64 : decode cX1_enterWindow 64 = .ok (.aload_n 0, 1) := by decide +kernel
theorem dX1_enterWindow_65 : decode cX1_enterWindow 65 = .ok (.iload_n 1, 1) := by decide +kernel
theorem dX1_enterWindow_66 : decode cX1_enterWindow 66 = .ok (.iconst (-1), 1) := by decide +kernel
theorem dX1_enterWindow_67 : decode cX1_enterWindow 67 = .ok (.aload_n 0, 1) := by decide +kernel
theorem dX1_enterWindow_68 : decode cX1_enterWindow 68 = .ok (.getfield 18, 3) := by decide +kernel
theorem dX1_enterWindow_71 : decode cX1_enterWindow 71 = .ok (.invokevirtual 174, 3) := by decide +kernel
theorem dX1_enterWindow_74 : decode cX1_enterWindow 74 = .ok (.iconst 0, 1) := by decide +kernel
theorem dX1_enterWindow_75 : decode cX1_enterWindow 75 = .ok (.ireturn, 1) := by decide +kernel
theorem dX1_enterWindow_76 : decode cX1_enterWindow 76 = .ok (.aload_n 3, 1) := by decide +kernel
theorem dX1_enterWindow_77 : decode cX1_enterWindow 77 = .ok (.getfield 105, 3) := by decide +kernel
theorem dX1_enterWindow_80 : decode cX1_enterWindow 80 = .ok (.iload 4, 2) := by decide +kernel
theorem dX1_enterWindow_82 : decode cX1_enterWindow 82 = .ok (.if_icmp .lt 7, 3) := by decide +kernel
theorem dX1_enterWindow_85 : decode cX1_enterWindow 85 = .ok (.iconst 1, 1) := by decide +kernel
theorem dX1_enterWindow_86 : decode cX1_enterWindow 86 = .ok (.goto 4, 3) := by decide +kernel
theorem dX1_enterWindow_89 : decode cX1_enterWindow 89 = .ok (.iconst 0, 1) := by decide +kernel
theorem dX1_enterWindow_90 : decode cX1_enterWindow 90 = .ok (.istore 5, 2) := by decide +kernel
theorem dX1_enterWindow_92 : decode cX1_enterWindow 92 = .ok (.aload_n 3, 1) := by decide +kernel
theorem dX1_enterWindow_93 : decode cX1_enterWindow 93 = .ok (.getfield 266, 3) := by decide +kernel
theorem dX1_enterWindow_96 : decode cX1_enterWindow 96 = .ok (.astore 6, 2) := by decide +kernel
theorem dX1_enterWindow_98 : decode cX1_enterWindow 98 = .ok (.aload 6, 2) := by decide +kernel
theorem dX1_enterWindow_100 : decode cX1_enterWindow 100 = .ok (.aload_n 0, 1) := by decide +kernel
theorem dX1_enterWindow_101 : decode cX1_enterWindow 101 = .ok (.getfield 18, 3) := by decide +kernel
theorem dX1_enterWindow_104 : decode cX1_enterWindow 104 = .ok (.aload_n 3, 1) := by decide +kernel
theorem dX1_enterWindow_105 : decode cX1_enterWindow 105 = .ok (.getfield 242, 3) := by decide +kernel
theorem dX1_enterWindow_108 : decode cX1_enterWindow 108 = .ok (.invokevirtual 230, 3) := by decide +kernel
theorem dX1_enterWindow_111 : decode cX1_enterWindow 111 = .ok (.iload 4, 2) := by decide +kernel
theorem dX1_enterWindow_113 : decode cX1_enterWindow 113 = .ok (.iload 5, 2) := by decide +kernel
theorem dX1_enterWindow_115 : decode cX1_enterWindow 115 = .ok (.invokevirtual 270, 3) := by decide +kernel
theorem dX1_enterWindow_118 : decode cX1_enterWindow 118 = .ok (.istore 7, 2) := by decide +kernel
theorem dX1_enterWindow_120 : decode cX1_enterWindow 120 = .ok (.iload 7, 2) := by decide +kernel
theorem dX1_enterWindow_122 : decode cX1_enterWindow 122 = .ok (.ifCond .ge 15, 3) := by decide +kernel
theorem dX1_enterWindow_125 : decode cX1_enterWindow 125 = .ok (.aload_n 0, 1) := by decide +kernel
theorem dX1_enterWindow_126 : decode cX1_enterWindow 126 = .ok (.dup, 1) := by decide +kernel
theorem dX1_enterWindow_127 : decode cX1_enterWindow 127 = .ok (.getfield 62, 3) := by decide +kernel
theorem dX1_enterWindow_130 : decode cX1_enterWindow 130 = .ok (.iconst 1, 1) := by decide +kernel
theorem dX1_enterWindow_131 : decode cX1_enterWindow 131 = .ok (.iadd, 1) := by decide +kernel
theorem dX1_enterWindow_132 : decode cX1_enterWindow 132 = .ok (.putfield 62, 3) := by decide +kernel
theorem dX1_enterWindow_135 : decode cX1_enterWindow 135 = .ok (.iconst 0, 1) := by decide +kernel
theorem dX1_enterWindow_136 : decode cX1_enterWindow 136 = .ok (.ireturn, 1) := by decide +kernel
theorem dX1_enterWindow_137 : decode cX1_enterWindow 137 = .ok (.aload 6, 2) := by decide +kernel
theorem dX1_enterWindow_139 : decode cX1_enterWindow 139 = .ok (.iload 7, 2) := by decide +kernel
theorem dX1_enterWindow_141 : decode cX1_enterWindow 141 = .ok (.invokevirtual 276, 3) := by decide +kernel
theorem dX1_enterWindow_144 : decode cX1_enterWindow 144 = .ok (.iconst 2, 1) := by decide +kernel
theorem dX1_enterWindow_145 : decode cX1_enterWindow 145 = .ok (.istore 8, 2) := by decide +kernel
theorem dX1_enterWindow_147 : decode cX1_enterWindow 147 = .ok (.iload 8, 2) := by decide +kernel
theorem dX1_enterWindow_149 : decode cX1_enterWindow 149 = .ok (.aload_n 3, 1) := by decide +kernel
theorem dX1_enterWindow_150 : decode cX1_enterWindow 150 = .ok (.getfield 120, 3) := by decide +kernel
theorem dX1_enterWindow_153 : decode cX1_enterWindow 153 = .ok (.if_icmp .ge 80, 3) := by decide +kernel
theorem dX1_enterWindow_156 : decode cX1_enterWindow 156 = .ok (.iload 8, 2) := by decide +kernel
theorem dX1_enterWindow_158 : decode cX1_enterWindow 158 = .ok (.bipush 6, 2) := by decide +kernel
theorem dX1_enterWindow_160 : decode cX1_enterWindow 160 = .ok (.if_icmp .ge 73, 3) := by decide +kernel
theorem dX1_enterWindow_163 : decode cX1_enterWindow 163 = .ok (.aload_n 3, 1) := by decide +kernel
theorem dX1_enterWindow_164 : decode cX1_enterWindow 164 = .ok (.getfield 227, 3) := by decide +kernel
theorem dX1_enterWindow_167 : decode cX1_enterWindow 167 = .ok (.iload 8, 2) := by decide +kernel
theorem dX1_enterWindow_169 : decode cX1_enterWindow 169 = .ok (.iaload, 1) := by decide +kernel
theorem dX1_enterWindow_170 : decode cX1_enterWindow 170 = .ok (.sipush 151, 3) := by decide +kernel
theorem dX1_enterWindow_173 : decode cX1_enterWindow 173 = .ok (.if_icmp .ne 7, 3) := by decide +kernel
theorem dX1_enterWindow_176 : decode cX1_enterWindow 176 = .ok (.lconst 0, 1) := by decide +kernel
theorem dX1_enterWindow_177 : decode cX1_enterWindow 177 = .ok (.goto 28, 3) := by decide +kernel
theorem dX1_enterWindow_180 : decode cX1_enterWindow 180 = .ok (.aload_n 0, 1) := by decide +kernel
theorem dX1_enterWindow_181 : decode cX1_enterWindow 181 = .ok (.getfield 28, 3) := by decide +kernel
theorem dX1_enterWindow_184 : decode cX1_enterWindow 184 = .ok (.aload_n 3, 1) := by decide +kernel
theorem dX1_enterWindow_185 : decode cX1_enterWindow 185 = .ok (.getfield 213, 3) := by decide +kernel
theorem dX1_enterWindow_188 : decode cX1_enterWindow 188 = .ok (.iload 8, 2) := by decide +kernel
theorem dX1_enterWindow_190 : decode cX1_enterWindow 190 = .ok (.iaload, 1) := by decide +kernel
theorem dX1_enterWindow_191 : decode cX1_enterWindow 191 = .ok (.aload_n 3, 1) := by decide +kernel
theorem dX1_enterWindow_192 : decode cX1_enterWindow 192 = .ok (.getfield 216, 3) := by decide +kernel
theorem dX1_enterWindow_195 : decode cX1_enterWindow 195 = .ok (.iload 8, 2) := by decide +kernel
theorem dX1_enterWindow_197 : decode cX1_enterWindow 197 = .ok (.iaload, 1) := by decide +kernel
theorem dX1_enterWindow_198 : decode cX1_enterWindow 198 = .ok (.aload_n 0, 1) := by decide +kernel
theorem dX1_enterWindow_199 : decode cX1_enterWindow 199 = .ok (.getfield 18, 3) := by decide +kernel
theorem dX1_enterWindow_202 : decode cX1_enterWindow 202 = .ok (.invokevirtual 167, 3) := by decide +kernel
theorem dX1_enterWindow_205 : decode cX1_enterWindow 205 = .ok (.lstore 9, 2) := by decide +kernel
theorem dX1_enterWindow_207 : decode cX1_enterWindow 207 = .ok (.aload 6, 2) := by decide +kernel
theorem dX1_enterWindow_209 : decode cX1_enterWindow 209 = .ok (.iload 7, 2) := by decide +kernel
theorem dX1_enterWindow_211 : decode cX1_enterWindow 211 = .ok (.iload 8, 2) := by decide +kernel
theorem dX1_enterWindow_213 : decode cX1_enterWindow 213 = .ok (.iconst 2, 1) := by decide +kernel
theorem dX1_enterWindow_214 : decode cX1_enterWindow 214 = .ok (.isub, 1) := by decide +kernel
theorem dX1_enterWindow_215 : decode cX1_enterWindow 215 = .ok (.aload_n 3, 1) := by decide +kernel
theorem dX1_enterWindow_216 : decode cX1_enterWindow 216 = .ok (.getfield 227, 3) := by decide +kernel
theorem dX1_enterWindow_219 : decode cX1_enterWindow 219 = .ok (.iload 8, 2) := by decide +kernel
theorem dX1_enterWindow_221 : decode cX1_enterWindow 221 = .ok (.iaload, 1) := by decide +kernel
theorem dX1_enterWindow_222 : decode cX1_enterWindow 222 = .ok (.lload 9, 2) := by decide +kernel
theorem dX1_enterWindow_224 : decode cX1_enterWindow 224 = .ok (.invokevirtual 279, 3) := by decide +kernel
theorem dX1_enterWindow_227 : decode cX1_enterWindow 227 = .ok (.iinc 8 1, 3) := by decide +kernel
theorem dX1_enterWindow_230 : decode cX1_enterWindow 230 = .ok (.goto (-83), 3) := by decide +kernel
theorem dX1_enterWindow_233 : decode cX1_enterWindow 233 = .ok (.aload 6, 2) := by decide +kernel
theorem dX1_enterWindow_235 : decode cX1_enterWindow 235 = .ok (.iload 7, 2) := by decide +kernel
theorem dX1_enterWindow_237 : decode cX1_enterWindow 237 = .ok (.aload_n 3, 1) := by decide +kernel
theorem dX1_enterWindow_238 : decode cX1_enterWindow 238 = .ok (.getfield 130, 3) := by decide +kernel
theorem dX1_enterWindow_241 : decode cX1_enterWindow 241 = .ok (.aload_n 3, 1) := by decide +kernel
theorem dX1_enterWindow_242 : decode cX1_enterWindow 242 = .ok (.getfield 120, 3) := by decide +kernel
theorem dX1_enterWindow_245 : decode cX1_enterWindow 245 = .ok (.iconst 2, 1) := by decide +kernel
theorem dX1_enterWindow_246 : decode cX1_enterWindow 246 = .ok (.isub, 1) := by decide +kernel
theorem dX1_enterWindow_247 : decode cX1_enterWindow 247 = .ok (.aload_n 0, 1) := by decide +kernel
theorem dX1_enterWindow_248 : decode cX1_enterWindow 248 = .ok (.getfield 25, 3) := by decide +kernel
theorem dX1_enterWindow_251 : decode cX1_enterWindow 251 = .ok (.invokevirtual 283, 3) := by decide +kernel
theorem dX1_enterWindow_254 : decode cX1_enterWindow 254 = .ok (.iload 5, 2) := by decide +kernel
theorem dX1_enterWindow_256 : decode cX1_enterWindow 256 = .ok (.ifCond .ne 7, 3) := by decide +kernel
theorem dX1_enterWindow_259 : decode cX1_enterWindow 259 = .ok (.iload_n 2, 1) := by decide +kernel
theorem dX1_enterWindow_260 : decode cX1_enterWindow 260 = .ok (.ifCond .eq 7, 3) := by decide +kernel
theorem dX1_enterWindow_263 : decode cX1_enterWindow 263 = .ok (.iconst 1, 1) := by decide +kernel
theorem dX1_enterWindow_264 : decode cX1_enterWindow 264 = .ok (.goto 4, 3) := by decide +kernel
theorem dX1_enterWindow_267 : decode cX1_enterWindow 267 = .ok (.iconst 0, 1) := by decide +kernel
theorem dX1_enterWindow_268 : decode cX1_enterWindow 268 = .ok (.ireturn, 1) := by decide +kernel
theorem dX1_leastWatermark_0 : decode cX1_leastWatermark 0 = .ok (.aload_n 0, 1) := by decide +kernel
theorem dX1_leastWatermark_1 : decode cX1_leastWatermark 1 = .ok (.aload_n 1, 1) := by decide +kernel
theorem dX1_leastWatermark_2 : decode cX1_leastWatermark 2 = .ok (.iconst 0, 1) := by decide +kernel
theorem dX1_leastWatermark_3 : decode cX1_leastWatermark 3 = .ok (.invokevirtual 188, 3) := by decide +kernel
theorem dX1_leastWatermark_6 : decode cX1_leastWatermark 6 = .ok (.astore_n 2, 1) := by decide +kernel
theorem dX1_leastWatermark_7 : decode cX1_leastWatermark 7 = .ok (.aload_n 0, 1) := by decide +kernel
theorem dX1_leastWatermark_8 : decode cX1_leastWatermark 8 = .ok (.aload_n 1, 1) := by decide +kernel
theorem dX1_leastWatermark_9 : decode cX1_leastWatermark 9 = .ok (.iconst 1, 1) := by decide +kernel
theorem dX1_leastWatermark_10 : decode cX1_leastWatermark 10 = .ok (.invokevirtual 188, 3) := by decide +kernel
theorem dX1_leastWatermark_13 : decode cX1_leastWatermark 13 = .ok (.astore_n 3, 1) := by decide +kernel
theorem dX1_leastWatermark_14 : decode cX1_leastWatermark 14 = .ok (.aload_n 2, 1) := by decide +kernel
theorem dX1_leastWatermark_15 : decode cX1_leastWatermark 15 = .ok (.ifnonnull 8, 3) := by decide +kernel
theorem dX1_leastWatermark_18 : decode cX1_leastWatermark 18 = .ok (.aload_n 1, 1) := by decide +kernel
theorem dX1_leastWatermark_19 : decode cX1_leastWatermark 19 = .ok (.getfield 105, 3) := by decide +kernel
theorem dX1_leastWatermark_22 : decode cX1_leastWatermark 22 = .ok (.ireturn, 1) := by decide +kernel
theorem dX1_leastWatermark_23 : decode cX1_leastWatermark 23 = .ok (.aload_n 3, 1) := by decide +kernel
theorem dX1_leastWatermark_24 : decode cX1_leastWatermark 24 = .ok (.ifnonnull 10, 3) := by decide +kernel
theorem dX1_leastWatermark_27 : decode cX1_leastWatermark 27 = .ok (.aload_n 2, 1) := by decide +kernel
theorem dX1_leastWatermark_28 : decode cX1_leastWatermark 28 = .ok (.getfield 105, 3) := by decide +kernel
theorem dX1_leastWatermark_31 : decode cX1_leastWatermark 31 = .ok (.goto 14, 3) := by decide +kernel
theorem dX1_leastWatermark_34 : decode cX1_leastWatermark 34 = .ok (.aload_n 2, 1) := by decide +kernel
theorem dX1_leastWatermark_35 : decode cX1_leastWatermark 35 = .ok (.getfield 105, 3) := by decide +kernel
theorem dX1_leastWatermark_38 : decode cX1_leastWatermark 38 = .ok (.aload_n 3, 1) := by decide +kernel
theorem dX1_leastWatermark_39 : decode cX1_leastWatermark 39 = .ok (.getfield 105, 3) := by decide +kernel
theorem dX1_leastWatermark_42 : decode cX1_leastWatermark 42 = .ok (.invokestatic 286, 3) := by decide +kernel
theorem dX1_leastWatermark_45 : decode cX1_leastWatermark 45 = .ok (.ireturn, 1) := by decide +kernel
theorem dX1_closeWindows_0 : decode cX1_closeWindows 0 = .ok (.iconst 0, 1) := by decide +kernel
theorem dX1_closeWindows_1 : decode cX1_closeWindows 1 = .ok (.istore_n 3, 1) := by decide +kernel
theorem dX1_closeWindows_2 : decode cX1_closeWindows 2 = .ok (.iload_n 3, 1) := by decide +kernel
theorem dX1_closeWindows_3 : decode cX1_closeWindows 3 = .ok (.bipush 60, 2) := by decide +kernel
theorem dX1_closeWindows_5 : decode cX1_closeWindows 5 = .ok (.if_icmp .ge 62, 3) := by decide +kernel
theorem dX1_closeWindows_8 : decode cX1_closeWindows 8 = .ok (.aload_n 2, 1) := by decide +kernel
theorem dX1_closeWindows_9 : decode cX1_closeWindows 9 = .ok (.getfield 266, 3) := by decide +kernel
theorem dX1_closeWindows_12 : decode cX1_closeWindows 12 = .ok (.aload_n 2, 1) := by decide +kernel
theorem dX1_closeWindows_13 : decode cX1_closeWindows 13 = .ok (.getfield 105, 3) := by decide +kernel
theorem dX1_closeWindows_16 : decode cX1_closeWindows 16 = .ok (.invokevirtual 289, 3) := by decide +kernel
theorem dX1_closeWindows_19 : decode cX1_closeWindows 19 = .ok (.istore 4, 2) := by decide +kernel
theorem dX1_closeWindows_21 : decode cX1_closeWindows 21 = .ok (.iload 4, 2) := by decide +kernel
theorem dX1_closeWindows_23 : decode cX1_closeWindows 23 = .ok (.ifCond .ge 6, 3) := by decide +kernel
theorem dX1_closeWindows_26 : decode cX1_closeWindows 26 = .ok (.goto 41, 3) := by decide +kernel
theorem dX1_closeWindows_29 : decode cX1_closeWindows 29 = .ok (.aload_n 2, 1) := by decide +kernel
theorem dX1_closeWindows_30 : decode cX1_closeWindows 30 = .ok (.getfield 266, 3) := by decide +kernel
theorem dX1_closeWindows_33 : decode cX1_closeWindows 33 = .ok (.iload 4, 2) := by decide +kernel
theorem dX1_closeWindows_35 : decode cX1_closeWindows 35 = .ok (.aload_n 2, 1) := by decide +kernel
theorem dX1_closeWindows_36 : decode cX1_closeWindows 36 = .ok (.getfield 130, 3) := by decide +kernel
theorem dX1_closeWindows_39 : decode cX1_closeWindows 39 = .ok (.aload_n 2, 1) := by decide +kernel
theorem dX1_closeWindows_40 : decode cX1_closeWindows 40 = .ok (.getfield 120, 3) := by decide +kernel
theorem dX1_closeWindows_43 : decode cX1_closeWindows 43 = .ok (.iconst 2, 1) := by decide +kernel
theorem dX1_closeWindows_44 : decode cX1_closeWindows 44 = .ok (.isub, 1) := by decide +kernel
theorem dX1_closeWindows_45 : decode cX1_closeWindows 45 = .ok (.aload_n 0, 1) := by decide +kernel
theorem dX1_closeWindows_46 : decode cX1_closeWindows 46 = .ok (.getfield 25, 3) := by decide +kernel
theorem dX1_closeWindows_49 : decode cX1_closeWindows 49 = .ok (.invokevirtual 283, 3) := by decide +kernel
theorem dX1_closeWindows_52 : decode cX1_closeWindows 52 = .ok (.aload_n 0, 1) := by decide +kernel
theorem dX1_closeWindows_53 : decode cX1_closeWindows 53 = .ok (.iload_n 1, 1) := by decide +kernel
theorem dX1_closeWindows_54 : decode cX1_closeWindows 54 = .ok (.aload_n 0, 1) := by decide +kernel
theorem dX1_closeWindows_55 : decode cX1_closeWindows 55 = .ok (.getfield 25, 3) := by decide +kernel
theorem dX1_closeWindows_58 : decode cX1_closeWindows 58 = .ok (.invokevirtual 139, 3) := by decide +kernel
theorem dX1_closeWindows_61 : decode cX1_closeWindows 61 = .ok (.iinc 3 1, 3) := by decide +kernel
theorem dX1_closeWindows_64 : decode cX1_closeWindows 64 = .ok (.goto (-62), 3) := by decide +kernel
theorem dX1_closeWindows_67 : decode cX1_closeWindows 67 = .ok (.aload_n 2, 1) := by decide +kernel
theorem dX1_closeWindows_68 : decode cX1_closeWindows 68 = .ok (.getfield 266, 3) := by decide +kernel
theorem dX1_closeWindows_71 : decode cX1_closeWindows 71 = .ok (.aload_n 2, 1) := by decide +kernel
theorem dX1_closeWindows_72 : decode cX1_closeWindows 72 = .ok (.getfield 105, 3) := by decide +kernel
theorem dX1_closeWindows_75 : decode cX1_closeWindows 75 = .ok (.aload_n 2, 1) := by decide +kernel
theorem dX1_closeWindows_76 : decode cX1_closeWindows 76 = .ok (.getfield 263, 3) := by decide +kernel
theorem dX1_closeWindows_79 : decode cX1_closeWindows 79 = .ok (.invokevirtual 292, 3) := by decide +kernel
theorem dX1_closeWindows_82 : decode cX1_closeWindows 82 = .ok (.return_, 1) := by decide +kernel
theorem dX2_init_0 : decode cX2_init 0 = .ok (.aload_n 0, 1) := by decide +kernel
theorem dX2_init_1 : decode cX2_init 1 = .ok (.invokespecial 1, 3) := by decide +kernel
theorem dX2_init_4 : decode cX2_init 4 = .ok (.aload_n 0, 1) := by decide +kernel
theorem dX2_init_5 : decode cX2_init 5 = .ok (.new 7, 3) := by decide +kernel
theorem dX2_init_8 : decode cX2_init 8 = .ok (.dup, 1) := by decide +kernel
theorem dX2_init_9 : decode cX2_init 9 = .ok (.invokespecial 9, 3) := by decide +kernel
theorem dX2_init_12 : decode cX2_init 12 = .ok (.putfield 10, 3) := by decide +kernel
theorem dX2_init_15 : decode cX2_init 15 = .ok (.return_, 1) := by decide +kernel
theorem dX3_init_0 : decode cX3_init 0 = .ok (.aload_n 0, 1) := by decide +kernel
theorem dX3_init_1 : decode cX3_init 1 = .ok (.invokespecial 3, 3) := by decide +kernel
theorem dX3_init_4 : decode cX3_init 4 = .ok (.aload_n 0, 1) := by decide +kernel
theorem dX3_init_5 : decode cX3_init 5 = .ok (.sipush 1500, 3) := by decide +kernel
theorem dX3_init_8 : decode cX3_init 8 = .ok (.newarray .long, 2) := by decide +kernel
theorem dX3_init_10 : decode cX3_init 10 = .ok (.putfield 9, 3) := by decide +kernel
theorem dX3_init_13 : decode cX3_init 13 = .ok (.aload_n 0, 1) := by decide +kernel
theorem dX3_init_14 : decode cX3_init 14 = .ok (.aload_n 1, 1) := by decide +kernel
theorem dX3_init_15 : decode cX3_init 15 = .ok (.putfield 15, 3) := by decide +kernel
theorem dX3_init_18 : decode cX3_init 18 = .ok (.aload_n 0, 1) := by decide +kernel
theorem dX3_init_19 : decode cX3_init 19 = .ok (.aload_n 1, 1) := by decide +kernel
theorem dX3_init_20 : decode cX3_init 20 = .ok (.getfield 19, 3) := by decide +kernel
theorem dX3_init_23 : decode cX3_init 23 = .ok (.iconst 0, 1) := by decide +kernel
theorem dX3_init_24 : decode cX3_init 24 = .ok (.aaload, 1) := by decide +kernel
theorem dX3_init_25 : decode cX3_init 25 = .ok (.putfield 25, 3) := by decide +kernel
theorem dX3_init_28 : decode cX3_init 28 = .ok (.aload_n 0, 1) := by decide +kernel
theorem dX3_init_29 : decode cX3_init 29 = .ok (.aload_n 1, 1) := by decide +kernel
theorem dX3_init_30 : decode cX3_init 30 = .ok (.getfield 19, 3) := by decide +kernel
theorem dX3_init_33 : decode cX3_init 33 = .ok (.iconst 0, 1) := by decide +kernel
theorem dX3_init_34 : decode cX3_init 34 = .ok (.aaload, 1) := by decide +kernel
theorem dX3_init_35 : decode cX3_init 35 = .ok (.putfield 29, 3) := by decide +kernel
theorem dX3_init_38 : decode cX3_init 38 = .ok (.aload_n 0, 1) := by decide +kernel
theorem dX3_init_39 : decode cX3_init 39 = .ok (.aload_n 1, 1) := by decide +kernel
theorem dX3_init_40 : decode cX3_init 40 = .ok (.getfield 19, 3) := by decide +kernel
theorem dX3_init_43 : decode cX3_init 43 = .ok (.iconst 0, 1) := by decide +kernel
theorem dX3_init_44 : decode cX3_init 44 = .ok (.aaload, 1) := by decide +kernel
theorem dX3_init_45 : decode cX3_init 45 = .ok (.putfield 32, 3) := by decide +kernel
theorem dX3_init_48 : decode cX3_init 48 = .ok (.aload_n 0, 1) := by decide +kernel
theorem dX3_init_49 : decode cX3_init 49 = .ok (.aload_n 1, 1) := by decide +kernel
theorem dX3_init_50 : decode cX3_init 50 = .ok (.getfield 35, 3) := by decide +kernel
theorem dX3_init_53 : decode cX3_init 53 = .ok (.iconst 0, 1) := by decide +kernel
theorem dX3_init_54 : decode cX3_init 54 = .ok (.aaload, 1) := by decide +kernel
theorem dX3_init_55 : decode cX3_init 55 = .ok (.putfield 39, 3) := by decide +kernel
theorem dX3_init_58 : decode cX3_init 58 = .ok (.return_, 1) := by decide +kernel
theorem dX3_begin_0 : decode cX3_begin 0 = .ok (.aload_n 0, 1) := by decide +kernel
theorem dX3_begin_1 : decode cX3_begin 1 = .ok (.aload_n 1, 1) := by decide +kernel
theorem dX3_begin_2 : decode cX3_begin 2 = .ok (.putfield 15, 3) := by decide +kernel
theorem dX3_begin_5 : decode cX3_begin 5 = .ok (.aload_n 0, 1) := by decide +kernel
theorem dX3_begin_6 : decode cX3_begin 6 = .ok (.getfield 15, 3) := by decide +kernel
theorem dX3_begin_9 : decode cX3_begin 9 = .ok (.iconst 0, 1) := by decide +kernel
theorem dX3_begin_10 : decode cX3_begin 10 = .ok (.putfield 43, 3) := by decide +kernel
theorem dX3_begin_13 : decode cX3_begin 13 = .ok (.aload_n 0, 1) := by decide +kernel
theorem dX3_begin_14 : decode cX3_begin 14 = .ok (.getfield 15, 3) := by decide +kernel
theorem dX3_begin_17 : decode cX3_begin 17 = .ok (.iconst 0, 1) := by decide +kernel
theorem dX3_begin_18 : decode cX3_begin 18 = .ok (.putfield 47, 3) := by decide +kernel
theorem dX3_begin_21 : decode cX3_begin 21 = .ok (.aload_n 0, 1) := by decide +kernel
theorem dX3_begin_22 : decode cX3_begin 22 = .ok (.getfield 15, 3) := by decide +kernel
theorem dX3_begin_25 : decode cX3_begin 25 = .ok (.iconst 0, 1) := by decide +kernel
theorem dX3_begin_26 : decode cX3_begin 26 = .ok (.putfield 50, 3) := by decide +kernel
theorem dX3_begin_29 : decode cX3_begin 29 = .ok (.aload_n 0, 1) := by decide +kernel
theorem dX3_begin_30 : decode cX3_begin 30 = .ok (.iconst 0, 1) := by decide +kernel
theorem dX3_begin_31 : decode cX3_begin 31 = .ok (.putfield 53, 3) := by decide +kernel
theorem dX3_begin_34 : decode cX3_begin 34 = .ok (.aload_n 0, 1) := by decide +kernel
theorem dX3_begin_35 : decode cX3_begin 35 = .ok (.iconst (-1), 1) := by decide +kernel
theorem dX3_begin_36 : decode cX3_begin 36 = .ok (.putfield 56, 3) := by decide +kernel
theorem dX3_begin_39 : decode cX3_begin 39 = .ok (.return_, 1) := by decide +kernel
theorem dX3_startStream_0 : decode cX3_startStream 0 = .ok (.aload_n 0, 1) := by decide +kernel
theorem dX3_startStream_1 : decode cX3_startStream 1 = .ok (.getfield 53, 3) := by decide +kernel
theorem dX3_startStream_4 : decode cX3_startStream 4 = .ok (.ifCond .eq 4, 3) := by decide +kernel
theorem dX3_startStream_7 : decode cX3_startStream 7 = .ok (.return_, 1) := by decide +kernel
theorem dX3_startStream_8 : decode cX3_startStream 8 = .ok (.aload_n 0, 1) := by decide +kernel
theorem dX3_startStream_9 : decode cX3_startStream 9 = .ok (.iconst 0, 1) := by decide +kernel
theorem dX3_startStream_10 : decode cX3_startStream 10 = .ok (.putfield 59, 3) := by decide +kernel
theorem dX3_startStream_13 : decode cX3_startStream 13 = .ok (.aload_n 0, 1) := by decide +kernel
theorem dX3_startStream_14 : decode cX3_startStream 14 = .ok (.getfield 15, 3) := by decide +kernel
theorem dX3_startStream_17 : decode cX3_startStream 17 = .ok (.getfield 43, 3) := by decide +kernel
theorem dX3_startStream_20 : decode cX3_startStream 20 = .ok (.bipush 12, 2) := by decide +kernel
theorem dX3_startStream_22 : decode cX3_startStream 22 = .ok (.if_icmp .lt 10, 3) := by decide +kernel
theorem dX3_startStream_25 : decode cX3_startStream 25 = .ok (.aload_n 0, 1) := by decide +kernel
theorem dX3_startStream_26 : decode cX3_startStream 26 = .ok (.iconst 4, 1) := by decide +kernel
theorem dX3_startStream_27 : decode cX3_startStream 27 = .ok (.iload_n 1, 1) := by decide +kernel
theorem dX3_startStream_28 : decode cX3_startStream 28 = .ok (.invokevirtual 63, 3) := by decide +kernel
theorem dX3_startStream_31 : decode cX3_startStream 31 = .ok (.return_, 1) := by decide +kernel
theorem dX3_startStream_32 : decode cX3_startStream 32 = .ok (.aload_n 0, 1) := by decide +kernel
theorem dX3_startStream_33 : decode cX3_startStream 33 = .ok (.aload_n 0, 1) := by decide +kernel
theorem dX3_startStream_34 : decode cX3_startStream 34 = .ok (.getfield 15, 3) := by decide +kernel
theorem dX3_startStream_37 : decode cX3_startStream 37 = .ok (.getfield 19, 3) := by decide +kernel
theorem dX3_startStream_40 : decode cX3_startStream 40 = .ok (.aload_n 0, 1) := by decide +kernel
theorem dX3_startStream_41 : decode cX3_startStream 41 = .ok (.getfield 15, 3) := by decide +kernel
theorem dX3_startStream_44 : decode cX3_startStream 44 = .ok (.getfield 43, 3) := by decide +kernel
theorem dX3_startStream_47 : decode cX3_startStream 47 = .ok (.aaload, 1) := by decide +kernel
theorem dX3_startStream_48 : decode cX3_startStream 48 = .ok (.putfield 25, 3) := by decide +kernel
theorem dX3_startStream_51 : decode cX3_startStream 51 = .ok (.aload_n 0, 1) := by decide +kernel
theorem dX3_startStream_52 : decode cX3_startStream 52 = .ok (.getfield 25, 3) := by decide +kernel
theorem dX3_startStream_55 : decode cX3_startStream 55 = .ok (.invokevirtual 67, 3) := by decide +kernel
theorem dX3_startStream_58 : decode cX3_startStream 58 = .ok (.aload_n 0, 1) := by decide +kernel
theorem dX3_startStream_59 : decode cX3_startStream 59 = .ok (.iconst 0, 1) := by decide +kernel
theorem dX3_startStream_60 : decode cX3_startStream 60 = .ok (.putfield 72, 3) := by decide +kernel
theorem dX3_startStream_63 : decode cX3_startStream 63 = .ok (.return_, 1) := by decide +kernel
theorem dX3_startCheck_0 : decode cX3_startCheck 0 = .ok (.aload_n 0, 1) := by decide +kernel
theorem dX3_startCheck_1 : decode cX3_startCheck 1 = .ok (.getfield 53, 3) := by decide +kernel
theorem dX3_startCheck_4 : decode cX3_startCheck 4 = .ok (.ifCond .eq 4, 3) := by decide +kernel
theorem dX3_startCheck_7 : decode cX3_startCheck 7 = .ok (.return_, 1) := by decide +kernel
theorem dX3_startCheck_8 : decode cX3_startCheck 8 = .ok (.aload_n 0, 1) := by decide +kernel
theorem dX3_startCheck_9 : decode cX3_startCheck 9 = .ok (.iconst 1, 1) := by decide +kernel
theorem dX3_startCheck_10 : decode cX3_startCheck 10 = .ok (.putfield 59, 3) := by decide +kernel
theorem dX3_startCheck_13 : decode cX3_startCheck 13 = .ok (.aload_n 0, 1) := by decide +kernel
theorem dX3_startCheck_14 : decode cX3_startCheck 14 = .ok (.getfield 15, 3) := by decide +kernel
theorem dX3_startCheck_17 : decode cX3_startCheck 17 = .ok (.getfield 47, 3) := by decide +kernel
theorem dX3_startCheck_20 : decode cX3_startCheck 20 = .ok (.bipush 8, 2) := by decide +kernel
theorem dX3_startCheck_22 : decode cX3_startCheck 22 = .ok (.if_icmp .lt 10, 3) := by decide +kernel
theorem dX3_startCheck_25 : decode cX3_startCheck 25 = .ok (.aload_n 0, 1) := by decide +kernel
theorem dX3_startCheck_26 : decode cX3_startCheck 26 = .ok (.iconst 4, 1) := by decide +kernel
theorem dX3_startCheck_27 : decode cX3_startCheck 27 = .ok (.iload_n 1, 1) := by decide +kernel
theorem dX3_startCheck_28 : decode cX3_startCheck 28 = .ok (.invokevirtual 63, 3) := by decide +kernel
theorem dX3_startCheck_31 : decode cX3_startCheck 31 = .ok (.return_, 1) := by decide +kernel
theorem dX3_startCheck_32 : decode cX3_startCheck 32 = .ok (.aload_n 0, 1) := by decide +kernel
theorem dX3_startCheck_33 : decode cX3_startCheck 33 = .ok (.aload_n 0, 1) := by decide +kernel
theorem dX3_startCheck_34 : decode cX3_startCheck 34 = .ok (.getfield 15, 3) := by decide +kernel
theorem dX3_startCheck_37 : decode cX3_startCheck 37 = .ok (.getfield 35, 3) := by decide +kernel
theorem dX3_startCheck_40 : decode cX3_startCheck 40 = .ok (.aload_n 0, 1) := by decide +kernel
theorem dX3_startCheck_41 : decode cX3_startCheck 41 = .ok (.getfield 15, 3) := by decide +kernel
theorem dX3_startCheck_44 : decode cX3_startCheck 44 = .ok (.getfield 47, 3) := by decide +kernel
theorem dX3_startCheck_47 : decode cX3_startCheck 47 = .ok (.aaload, 1) := by decide +kernel
theorem dX3_startCheck_48 : decode cX3_startCheck 48 = .ok (.putfield 39, 3) := by decide +kernel
theorem dX3_startCheck_51 : decode cX3_startCheck 51 = .ok (.return_, 1) := by decide +kernel
theorem dX3_startWork_0 : decode cX3_startWork 0 = .ok (.aload_n 0, 1) := by decide +kernel
theorem dX3_startWork_1 : decode cX3_startWork 1 = .ok (.getfield 53, 3) := by decide +kernel
theorem dX3_startWork_4 : decode cX3_startWork 4 = .ok (.ifCond .ne 16, 3) := by decide +kernel
theorem dX3_startWork_7 : decode cX3_startWork 7 = .ok (.aload_n 0, 1) := by decide +kernel
theorem dX3_startWork_8 : decode cX3_startWork 8 = .ok (.getfield 25, 3) := by decide +kernel
theorem dX3_startWork_11 : decode cX3_startWork 11 = .ok (.iload_n 1, 1) := by decide +kernel
theorem dX3_startWork_12 : decode cX3_startWork 12 = .ok (.putfield 75, 3) := by decide +kernel
theorem dX3_startWork_15 : decode cX3_startWork 15 = .ok (.aload_n 0, 1) := by decide +kernel
theorem dX3_startWork_16 : decode cX3_startWork 16 = .ok (.iload_n 2, 1) := by decide +kernel
theorem dX3_startWork_17 : decode cX3_startWork 17 = .ok (.putfield 78, 3) := by decide +kernel
theorem dX3_startWork_20 : decode cX3_startWork 20 = .ok (.return_, 1) := by decide +kernel
theorem dX3_lookAtName_0 : decode cX3_lookAtName 0 = .ok (.aload_n 0, 1) := by decide +kernel
theorem dX3_lookAtName_1 : decode cX3_lookAtName 1 = .ok (.getfield 53, 3) := by decide +kernel
theorem dX3_lookAtName_4 : decode cX3_lookAtName 4 = .ok (.ifCond .eq 4, 3) := by decide +kernel
theorem dX3_lookAtName_7 : decode cX3_lookAtName 7 = .ok (.return_, 1) := by decide +kernel
theorem dX3_lookAtName_8 : decode cX3_lookAtName 8 = .ok (.iload_n 1, 1) := by decide +kernel
theorem dX3_lookAtName_9 : decode cX3_lookAtName 9 = .ok (.tableswitch 99 0 5 #[39, 49, 59, 69, 79, 89], 39) := by decide +kernel
theorem dX3_lookAtName_48 : decode cX3_lookAtName 48 = .ok (.aload_n 0, 1) := by decide +kernel
theorem dX3_lookAtName_49 : decode cX3_lookAtName 49 = .ok (.lload_n 2, 1) := by decide +kernel
theorem dX3_lookAtName_50 : decode cX3_lookAtName 50 = .ok (.iload 4, 2) := by decide +kernel
theorem dX3_lookAtName_52 : decode cX3_lookAtName 52 = .ok (.invokevirtual 81, 3) := by decide +kernel
theorem dX3_lookAtName_55 : decode cX3_lookAtName 55 = .ok (.goto 53, 3) := by decide +kernel
theorem dX3_lookAtName_58 : decode cX3_lookAtName 58 = .ok (.aload_n 0, 1) := by decide +kernel
theorem dX3_lookAtName_59 : decode cX3_lookAtName 59 = .ok (.lload_n 2, 1) := by decide +kernel
theorem dX3_lookAtName_60 : decode cX3_lookAtName 60 = .ok (.iload 4, 2) := by decide +kernel
theorem dX3_lookAtName_62 : decode cX3_lookAtName 62 = .ok (.invokevirtual 85, 3) := by decide +kernel
theorem dX3_lookAtName_65 : decode cX3_lookAtName 65 = .ok (.goto 43, 3) := by decide +kernel
theorem dX3_lookAtName_68 : decode cX3_lookAtName 68 = .ok (.aload_n 0, 1) := by decide +kernel
theorem dX3_lookAtName_69 : decode cX3_lookAtName 69 = .ok (.lload_n 2, 1) := by decide +kernel
theorem dX3_lookAtName_70 : decode cX3_lookAtName 70 = .ok (.iload 4, 2) := by decide +kernel
theorem dX3_lookAtName_72 : decode cX3_lookAtName 72 = .ok (.invokevirtual 88, 3) := by decide +kernel
theorem dX3_lookAtName_75 : decode cX3_lookAtName 75 = .ok (.goto 33, 3) := by decide +kernel
theorem dX3_lookAtName_78 : decode cX3_lookAtName 78 = .ok (.aload_n 0, 1) := by decide +kernel
theorem dX3_lookAtName_79 : decode cX3_lookAtName 79 = .ok (.lload_n 2, 1) := by decide +kernel
theorem dX3_lookAtName_80 : decode cX3_lookAtName 80 = .ok (.iload 4, 2) := by decide +kernel
theorem dX3_lookAtName_82 : decode cX3_lookAtName 82 = .ok (.invokevirtual 91, 3) := by decide +kernel
theorem dX3_lookAtName_85 : decode cX3_lookAtName 85 = .ok (.goto 23, 3) := by decide +kernel
theorem dX3_lookAtName_88 : decode cX3_lookAtName 88 = .ok (.aload_n 0, 1) := by decide +kernel
theorem dX3_lookAtName_89 : decode cX3_lookAtName 89 = .ok (.lload_n 2, 1) := by decide +kernel
theorem dX3_lookAtName_90 : decode cX3_lookAtName 90 = .ok (.iload 4, 2) := by decide +kernel
theorem dX3_lookAtName_92 : decode cX3_lookAtName 92 = .ok (.invokevirtual 94, 3) := by decide +kernel
theorem dX3_lookAtName_95 : decode cX3_lookAtName 95 = .ok (.goto 13, 3) := by decide +kernel
theorem dX3_lookAtName_98 : decode cX3_lookAtName 98 = .ok (.aload_n 0, 1) := by decide +kernel
theorem dX3_lookAtName_99 : decode cX3_lookAtName 99 = .ok (.lload_n 2, 1) := by decide +kernel
theorem dX3_lookAtName_100 : decode cX3_lookAtName 100 = .ok (.iload 4, 2) := by decide +kernel
theorem dX3_lookAtName_102 : decode cX3_lookAtName 102 = .ok (.invokevirtual 97, 3) := by decide +kernel
theorem dX3_lookAtName_105 : decode cX3_lookAtName 105 = .ok (.goto 3, 3) := by decide +kernel
theorem dX3_lookAtName_108 : decode cX3_lookAtName 108 = .ok (.return_, 1) := by decide +kernel
theorem dX3_lookAtRange_0 : decode cX3_lookAtRange 0 = .ok (.aload_n 0, 1) := by decide +kernel
theorem dX3_lookAtRange_1 : decode cX3_lookAtRange 1 = .ok (.getfield 53, 3) := by decide +kernel
theorem dX3_lookAtRange_4 : decode cX3_lookAtRange 4 = .ok (.ifCond .eq 4, 3) := by decide +kernel
theorem dX3_lookAtRange_7 : decode cX3_lookAtRange 7 = .ok (.return_, 1) := by decide +kernel
theorem dX3_lookAtRange_8 : decode cX3_lookAtRange 8 = .ok (.iload_n 1, 1) := by decide +kernel
theorem dX3_lookAtRange_9 : decode cX3_lookAtRange 9 = .ok (.sipush 143, 3) := by decide +kernel
theorem dX3_lookAtRange_12 : decode cX3_lookAtRange 12 = .ok (.if_icmp .ne 7, 3) := by decide +kernel
theorem dX3_lookAtRange_15 : decode cX3_lookAtRange 15 = .ok (.lconst 1, 1) := by decide +kernel
theorem dX3_lookAtRange_16 : decode cX3_lookAtRange 16 = .ok (.goto 4, 3) := by decide +kernel
theorem dX3_lookAtRange_19 : decode cX3_lookAtRange 19 = .ok (.lconst 0, 1) := by decide +kernel
theorem dX3_lookAtRange_20 : decode cX3_lookAtRange 20 = .ok (.lstore 5, 2) := by decide +kernel
theorem dX3_lookAtRange_22 : decode cX3_lookAtRange 22 = .ok (.lload_n 2, 1) := by decide +kernel
theorem dX3_lookAtRange_23 : decode cX3_lookAtRange 23 = .ok (.lload 5, 2) := by decide +kernel
theorem dX3_lookAtRange_25 : decode cX3_lookAtRange 25 = .ok (.lcmp, 1) := by decide +kernel
theorem dX3_lookAtRange_26 : decode cX3_lookAtRange 26 = .ok (.ifCond .lt 11, 3) := by decide +kernel
theorem dX3_lookAtRange_29 : decode cX3_lookAtRange 29 = .ok (.lload_n 2, 1) := by decide +kernel
theorem dX3_lookAtRange_30 : decode cX3_lookAtRange 30 = .ok (.ldc2_w 100, 3) := by decide +kernel
theorem dX3_lookAtRange_33 : decode cX3_lookAtRange 33 = .ok (.lcmp, 1) := by decide +kernel
theorem dX3_lookAtRange_34 : decode cX3_lookAtRange 34 = .ok (.ifCond .le 14, 3) := by decide +kernel
theorem dX3_lookAtRange_37 : decode cX3_lookAtRange 37 = .ok (.aload_n 0, 1) := by decide +kernel
theorem dX3_lookAtRange_38 : decode cX3_lookAtRange 38 = .ok (.bipush 6, 2) := by decide +kernel
theorem dX3_lookAtRange_40 : decode cX3_lookAtRange 40 = .ok (.iload 4, 2) := by decide +kernel
theorem dX3_lookAtRange_42 : decode cX3_lookAtRange 42 = .ok (.invokevirtual 63, 3) := by decide +kernel
theorem dX3_lookAtRange_45 : decode cX3_lookAtRange 45 = .ok (.goto 31, 3) := by decide +kernel
theorem dX3_lookAtRange_48 : decode cX3_lookAtRange 48 = .ok (.iload_n 1, 1) := by decide +kernel
theorem dX3_lookAtRange_49 : decode cX3_lookAtRange 49 = .ok (.sipush 144, 3) := by decide +kernel
theorem dX3_lookAtRange_52 : decode cX3_lookAtRange 52 = .ok (.if_icmp .ne 15, 3) := by decide +kernel
theorem dX3_lookAtRange_55 : decode cX3_lookAtRange 55 = .ok (.aload_n 0, 1) := by decide +kernel
theorem dX3_lookAtRange_56 : decode cX3_lookAtRange 56 = .ok (.getfield 25, 3) := by decide +kernel
theorem dX3_lookAtRange_59 : decode cX3_lookAtRange 59 = .ok (.lload_n 2, 1) := by decide +kernel
theorem dX3_lookAtRange_60 : decode cX3_lookAtRange 60 = .ok (.l2i, 1) := by decide +kernel
theorem dX3_lookAtRange_61 : decode cX3_lookAtRange 61 = .ok (.putfield 102, 3) := by decide +kernel
theorem dX3_lookAtRange_64 : decode cX3_lookAtRange 64 = .ok (.goto 12, 3) := by decide +kernel
theorem dX3_lookAtRange_67 : decode cX3_lookAtRange 67 = .ok (.aload_n 0, 1) := by decide +kernel
theorem dX3_lookAtRange_68 : decode cX3_lookAtRange 68 = .ok (.getfield 25, 3) := by decide +kernel
theorem dX3_lookAtRange_71 : decode cX3_lookAtRange 71 = .ok (.lload_n 2, 1) := by decide +kernel
theorem dX3_lookAtRange_72 : decode cX3_lookAtRange 72 = .ok (.l2i, 1) := by decide +kernel
theorem dX3_lookAtRange_73 : decode cX3_lookAtRange 73 = .ok (.putfield 105, 3) := by decide +kernel
theorem dX3_lookAtRange_76 : decode cX3_lookAtRange 76 = .ok (.return_, 1) := by decide +kernel
theorem dX3_setTotal_0 : decode cX3_setTotal 0 = .ok (.aload_n 0, 1) := by decide +kernel
theorem dX3_setTotal_1 : decode cX3_setTotal 1 = .ok (.getfield 53, 3) := by decide +kernel
theorem dX3_setTotal_4 : decode cX3_setTotal 4 = .ok (.ifCond .ne 17, 3) := by decide +kernel
theorem dX3_setTotal_7 : decode cX3_setTotal 7 = .ok (.aload_n 0, 1) := by decide +kernel
theorem dX3_setTotal_8 : decode cX3_setTotal 8 = .ok (.getfield 25, 3) := by decide +kernel
theorem dX3_setTotal_11 : decode cX3_setTotal 11 = .ok (.aload_n 0, 1) := by decide +kernel
theorem dX3_setTotal_12 : decode cX3_setTotal 12 = .ok (.getfield 72, 3) := by decide +kernel
theorem dX3_setTotal_15 : decode cX3_setTotal 15 = .ok (.iconst 1, 1) := by decide +kernel
theorem dX3_setTotal_16 : decode cX3_setTotal 16 = .ok (.isub, 1) := by decide +kernel
theorem dX3_setTotal_17 : decode cX3_setTotal 17 = .ok (.iload_n 1, 1) := by decide +kernel
theorem dX3_setTotal_18 : decode cX3_setTotal 18 = .ok (.invokevirtual 108, 3) := by decide +kernel
theorem dX3_setTotal_21 : decode cX3_setTotal 21 = .ok (.return_, 1) := by decide +kernel
theorem dX3_startExpression_0 : decode cX3_startExpression 0 = .ok (.aload_n 0, 1) := by decide +kernel
theorem dX3_startExpression_1 : decode cX3_startExpression 1 = .ok (.aload_n 0, 1) := by decide +kernel
theorem dX3_startExpression_2 : decode cX3_startExpression 2 = .ok (.getfield 15, 3) := by decide +kernel
theorem dX3_startExpression_5 : decode cX3_startExpression 5 = .ok (.getfield 50, 3) := by decide +kernel
theorem dX3_startExpression_8 : decode cX3_startExpression 8 = .ok (.putfield 111, 3) := by decide +kernel
theorem dX3_startExpression_11 : decode cX3_startExpression 11 = .ok (.return_, 1) := by decide +kernel
theorem dX3_endExpression_0 : decode cX3_endExpression 0 = .ok (.aload_n 0, 1) := by decide +kernel
theorem dX3_endExpression_1 : decode cX3_endExpression 1 = .ok (.getfield 53, 3) := by decide +kernel
theorem dX3_endExpression_4 : decode cX3_endExpression 4 = .ok (.ifCond .eq 4, 3) := by decide +kernel
theorem dX3_endExpression_7 : decode cX3_endExpression 7 = .ok (.return_, 1) := by decide +kernel
theorem dX3_endExpression_8 : decode cX3_endExpression 8 = .ok (.aload_n 0, 1) := by decide +kernel
theorem dX3_endExpression_9 : decode cX3_endExpression 9 = .ok (.getfield 59, 3) := by decide +kernel
theorem dX3_endExpression_12 : decode cX3_endExpression 12 = .ok (.ifCond .eq 31, 3) := by decide +kernel
theorem dX3_endExpression_15 : decode cX3_endExpression 15 = .ok (.aload_n 0, 1) := by decide +kernel
theorem dX3_endExpression_16 : decode cX3_endExpression 16 = .ok (.getfield 39, 3) := by decide +kernel
theorem dX3_endExpression_19 : decode cX3_endExpression 19 = .ok (.aload_n 0, 1) := by decide +kernel
theorem dX3_endExpression_20 : decode cX3_endExpression 20 = .ok (.getfield 111, 3) := by decide +kernel
theorem dX3_endExpression_23 : decode cX3_endExpression 23 = .ok (.putfield 114, 3) := by decide +kernel
theorem dX3_endExpression_26 : decode cX3_endExpression 26 = .ok (.aload_n 0, 1) := by decide +kernel
theorem dX3_endExpression_27 : decode cX3_endExpression 27 = .ok (.getfield 39, 3) := by decide +kernel
theorem dX3_endExpression_30 : decode cX3_endExpression 30 = .ok (.aload_n 0, 1) := by decide +kernel
theorem dX3_endExpression_31 : decode cX3_endExpression 31 = .ok (.getfield 15, 3) := by decide +kernel
theorem dX3_endExpression_34 : decode cX3_endExpression 34 = .ok (.getfield 50, 3) := by decide +kernel
theorem dX3_endExpression_37 : decode cX3_endExpression 37 = .ok (.putfield 117, 3) := by decide +kernel
theorem dX3_endExpression_40 : decode cX3_endExpression 40 = .ok (.goto 44, 3) := by decide +kernel
theorem dX3_endExpression_43 : decode cX3_endExpression 43 = .ok (.aload_n 0, 1) := by decide +kernel
theorem dX3_endExpression_44 : decode cX3_endExpression 44 = .ok (.getfield 25, 3) := by decide +kernel
theorem dX3_endExpression_47 : decode cX3_endExpression 47 = .ok (.getfield 75, 3) := by decide +kernel
theorem dX3_endExpression_50 : decode cX3_endExpression 50 = .ok (.iconst 1, 1) := by decide +kernel
theorem dX3_endExpression_51 : decode cX3_endExpression 51 = .ok (.if_icmp .ne 7, 3) := by decide +kernel
theorem dX3_endExpression_54 : decode cX3_endExpression 54 = .ok (.iconst 0, 1) := by decide +kernel
theorem dX3_endExpression_55 : decode cX3_endExpression 55 = .ok (.goto 9, 3) := by decide +kernel
theorem dX3_endExpression_58 : decode cX3_endExpression 58 = .ok (.aload_n 0, 1) := by decide +kernel
theorem dX3_endExpression_59 : decode cX3_endExpression 59 = .ok (.getfield 72, 3) := by decide +kernel
theorem dX3_endExpression_62 : decode cX3_endExpression 62 = .ok (.iconst 1, 1) := by decide +kernel
theorem dX3_endExpression_63 : decode cX3_endExpression 63 = .ok (.isub, 1) := by decide +kernel
theorem dX3_endExpression_64 : decode cX3_endExpression 64 = .ok (.istore_n 1, 1) := by decide +kernel
theorem dX3_endExpression_65 : decode cX3_endExpression 65 = .ok (.aload_n 0, 1) := by decide +kernel
theorem dX3_endExpression_66 : decode cX3_endExpression 66 = .ok (.getfield 25, 3) := by decide +kernel
theorem dX3_endExpression_69 : decode cX3_endExpression 69 = .ok (.iload_n 1, 1) := by decide +kernel
theorem dX3_endExpression_70 : decode cX3_endExpression 70 = .ok (.aload_n 0, 1) := by decide +kernel
theorem dX3_endExpression_71 : decode cX3_endExpression 71 = .ok (.getfield 111, 3) := by decide +kernel
theorem dX3_endExpression_74 : decode cX3_endExpression 74 = .ok (.aload_n 0, 1) := by decide +kernel
theorem dX3_endExpression_75 : decode cX3_endExpression 75 = .ok (.getfield 15, 3) := by decide +kernel
theorem dX3_endExpression_78 : decode cX3_endExpression 78 = .ok (.getfield 50, 3) := by decide +kernel
theorem dX3_endExpression_81 : decode cX3_endExpression 81 = .ok (.invokevirtual 120, 3) := by decide +kernel
theorem dX3_endExpression_84 : decode cX3_endExpression 84 = .ok (.return_, 1) := by decide +kernel
theorem dX3_emit_0 : decode cX3_emit 0 = .ok (.aload_n 0, 1) := by decide +kernel
theorem dX3_emit_1 : decode cX3_emit 1 = .ok (.getfield 53, 3) := by decide +kernel
theorem dX3_emit_4 : decode cX3_emit 4 = .ok (.ifCond .ne 12, 3) := by decide +kernel
theorem dX3_emit_7 : decode cX3_emit 7 = .ok (.aload_n 0, 1) := by decide +kernel
theorem dX3_emit_8 : decode cX3_emit 8 = .ok (.getfield 15, 3) := by decide +kernel
theorem dX3_emit_11 : decode cX3_emit 11 = .ok (.iload_n 1, 1) := by decide +kernel
theorem dX3_emit_12 : decode cX3_emit 12 = .ok (.lload_n 2, 1) := by decide +kernel
theorem dX3_emit_13 : decode cX3_emit 13 = .ok (.invokevirtual 124, 3) := by decide +kernel
theorem dX3_emit_16 : decode cX3_emit 16 = .ok (.return_, 1) := by decide +kernel
theorem dX3_useColumn_0 : decode cX3_useColumn 0 = .ok (.aload_n 0, 1) := by decide +kernel
theorem dX3_useColumn_1 : decode cX3_useColumn 1 = .ok (.getfield 53, 3) := by decide +kernel
theorem dX3_useColumn_4 : decode cX3_useColumn 4 = .ok (.ifCond .eq 4, 3) := by decide +kernel
theorem dX3_useColumn_7 : decode cX3_useColumn 7 = .ok (.return_, 1) := by decide +kernel
theorem dX3_useColumn_8 : decode cX3_useColumn 8 = .ok (.aload_n 0, 1) := by decide +kernel
theorem dX3_useColumn_9 : decode cX3_useColumn 9 = .ok (.getfield 29, 3) := by decide +kernel
theorem dX3_useColumn_12 : decode cX3_useColumn 12 = .ok (.lload_n 1, 1) := by decide +kernel
theorem dX3_useColumn_13 : decode cX3_useColumn 13 = .ok (.invokevirtual 128, 3) := by decide +kernel
theorem dX3_useColumn_16 : decode cX3_useColumn 16 = .ok (.istore 4, 2) := by decide +kernel
theorem dX3_useColumn_18 : decode cX3_useColumn 18 = .ok (.iload 4, 2) := by decide +kernel
theorem dX3_useColumn_20 : decode cX3_useColumn 20 = .ok (.ifCond .ge 12, 3) := by decide +kernel
theorem dX3_useColumn_23 : decode cX3_useColumn 23 = .ok (.aload_n 0, 1) := by decide +kernel
theorem dX3_useColumn_24 : decode cX3_useColumn 24 = .ok (.iconst 2, 1) := by decide +kernel
theorem dX3_useColumn_25 : decode cX3_useColumn 25 = .ok (.iload_n 3, 1) := by decide +kernel
theorem dX3_useColumn_26 : decode cX3_useColumn 26 = .ok (.invokevirtual 63, 3) := by decide +kernel
theorem dX3_useColumn_29 : decode cX3_useColumn 29 = .ok (.goto 14, 3) := by decide +kernel
theorem dX3_useColumn_32 : decode cX3_useColumn 32 = .ok (.aload_n 0, 1) := by decide +kernel
theorem dX3_useColumn_33 : decode cX3_useColumn 33 = .ok (.getfield 15, 3) := by decide +kernel
theorem dX3_useColumn_36 : decode cX3_useColumn 36 = .ok (.iconst 2, 1) := by decide +kernel
theorem dX3_useColumn_37 : decode cX3_useColumn 37 = .ok (.iload 4, 2) := by decide +kernel
theorem dX3_useColumn_39 : decode cX3_useColumn 39 = .ok (.i2l, 1) := by decide +kernel
theorem dX3_useColumn_40 : decode cX3_useColumn 40 = .ok (.invokevirtual 124, 3) := by decide +kernel
theorem dX3_useColumn_43 : decode cX3_useColumn 43 = .ok (.return_, 1) := by decide +kernel
theorem dX3_endFunction_0 : decode cX3_endFunction 0 = .ok (.aload_n 0, 1) := by decide +kernel
theorem dX3_endFunction_1 : decode cX3_endFunction 1 = .ok (.getfield 53, 3) := by decide +kernel
theorem dX3_endFunction_4 : decode cX3_endFunction 4 = .ok (.ifCond .eq 4, 3) := by decide +kernel
theorem dX3_endFunction_7 : decode cX3_endFunction 7 = .ok (.return_, 1) := by decide +kernel
theorem dX3_endFunction_8 : decode cX3_endFunction 8 = .ok (.iload_n 2, 1) := by decide +kernel
theorem dX3_endFunction_9 : decode cX3_endFunction 9 = .ok (.iload_n 1, 1) := by decide +kernel
theorem dX3_endFunction_10 : decode cX3_endFunction 10 = .ok (.sipush 159, 3) := by decide +kernel
theorem dX3_endFunction_13 : decode cX3_endFunction 13 = .ok (.if_icmp .ne 7, 3) := by decide +kernel
theorem dX3_endFunction_16 : decode cX3_endFunction 16 = .ok (.iconst 1, 1) := by decide +kernel
theorem dX3_endFunction_17 : decode cX3_endFunction 17 = .ok (.goto 4, 3) := by decide +kernel
theorem dX3_endFunction_20 : decode cX3_endFunction 20 = .ok (.iconst 2, 1) := by decide +kernel
theorem dX3_endFunction_21 : decode cX3_endFunction 21 = .ok (.if_icmp .eq 12, 3) := by decide +kernel
theorem dX3_endFunction_24 : decode cX3_endFunction 24 = .ok (.aload_n 0, 1) := by decide +kernel
theorem dX3_endFunction_25 : decode cX3_endFunction 25 = .ok (.iconst 3, 1) := by decide +kernel
theorem dX3_endFunction_26 : decode cX3_endFunction 26 = .ok (.iload_n 3, 1) := by decide +kernel
theorem dX3_endFunction_27 : decode cX3_endFunction 27 = .ok (.invokevirtual 63, 3) := by decide +kernel
theorem dX3_endFunction_30 : decode cX3_endFunction 30 = .ok (.goto 12, 3) := by decide +kernel
theorem dX3_endFunction_33 : decode cX3_endFunction 33 = .ok (.aload_n 0, 1) := by decide +kernel
theorem dX3_endFunction_34 : decode cX3_endFunction 34 = .ok (.getfield 15, 3) := by decide +kernel
theorem dX3_endFunction_37 : decode cX3_endFunction 37 = .ok (.iload_n 1, 1) := by decide +kernel
theorem dX3_endFunction_38 : decode cX3_endFunction 38 = .ok (.lconst 0, 1) := by decide +kernel
theorem dX3_endFunction_39 : decode cX3_endFunction 39 = .ok (.invokevirtual 124, 3) := by decide +kernel
theorem dX3_endFunction_42 : decode cX3_endFunction 42 = .ok (.return_, 1) := by decide +kernel
theorem dX3_endCheck_0 : decode cX3_endCheck 0 = .ok (.aload_n 0, 1) := by decide +kernel
theorem dX3_endCheck_1 : decode cX3_endCheck 1 = .ok (.getfield 53, 3) := by decide +kernel
theorem dX3_endCheck_4 : decode cX3_endCheck 4 = .ok (.ifCond .ne 24, 3) := by decide +kernel
theorem dX3_endCheck_7 : decode cX3_endCheck 7 = .ok (.aload_n 0, 1) := by decide +kernel
theorem dX3_endCheck_8 : decode cX3_endCheck 8 = .ok (.getfield 39, 3) := by decide +kernel
theorem dX3_endCheck_11 : decode cX3_endCheck 11 = .ok (.iload_n 1, 1) := by decide +kernel
theorem dX3_endCheck_12 : decode cX3_endCheck 12 = .ok (.putfield 132, 3) := by decide +kernel
theorem dX3_endCheck_15 : decode cX3_endCheck 15 = .ok (.aload_n 0, 1) := by decide +kernel
theorem dX3_endCheck_16 : decode cX3_endCheck 16 = .ok (.getfield 15, 3) := by decide +kernel
theorem dX3_endCheck_19 : decode cX3_endCheck 19 = .ok (.dup, 1) := by decide +kernel
theorem dX3_endCheck_20 : decode cX3_endCheck 20 = .ok (.getfield 47, 3) := by decide +kernel
theorem dX3_endCheck_23 : decode cX3_endCheck 23 = .ok (.iconst 1, 1) := by decide +kernel
theorem dX3_endCheck_24 : decode cX3_endCheck 24 = .ok (.iadd, 1) := by decide +kernel
theorem dX3_endCheck_25 : decode cX3_endCheck 25 = .ok (.putfield 47, 3) := by decide +kernel
theorem dX3_endCheck_28 : decode cX3_endCheck 28 = .ok (.return_, 1) := by decide +kernel
theorem dX3_endStream_0 : decode cX3_endStream 0 = .ok (.aload_n 0, 1) := by decide +kernel
theorem dX3_endStream_1 : decode cX3_endStream 1 = .ok (.getfield 53, 3) := by decide +kernel
theorem dX3_endStream_4 : decode cX3_endStream 4 = .ok (.ifCond .ne 37, 3) := by decide +kernel
theorem dX3_endStream_7 : decode cX3_endStream 7 = .ok (.aload_n 0, 1) := by decide +kernel
theorem dX3_endStream_8 : decode cX3_endStream 8 = .ok (.getfield 25, 3) := by decide +kernel
theorem dX3_endStream_11 : decode cX3_endStream 11 = .ok (.getfield 75, 3) := by decide +kernel
theorem dX3_endStream_14 : decode cX3_endStream 14 = .ok (.iconst 4, 1) := by decide +kernel
theorem dX3_endStream_15 : decode cX3_endStream 15 = .ok (.if_icmp .ne 26, 3) := by decide +kernel
theorem dX3_endStream_18 : decode cX3_endStream 18 = .ok (.aload_n 0, 1) := by decide +kernel
theorem dX3_endStream_19 : decode cX3_endStream 19 = .ok (.getfield 29, 3) := by decide +kernel
theorem dX3_endStream_22 : decode cX3_endStream 22 = .ok (.aload_n 0, 1) := by decide +kernel
theorem dX3_endStream_23 : decode cX3_endStream 23 = .ok (.getfield 32, 3) := by decide +kernel
theorem dX3_endStream_26 : decode cX3_endStream 26 = .ok (.invokevirtual 135, 3) := by decide +kernel
theorem dX3_endStream_29 : decode cX3_endStream 29 = .ok (.ifCond .ne 12, 3) := by decide +kernel
theorem dX3_endStream_32 : decode cX3_endStream 32 = .ok (.aload_n 0, 1) := by decide +kernel
theorem dX3_endStream_33 : decode cX3_endStream 33 = .ok (.iconst 3, 1) := by decide +kernel
theorem dX3_endStream_34 : decode cX3_endStream 34 = .ok (.aload_n 0, 1) := by decide +kernel
theorem dX3_endStream_35 : decode cX3_endStream 35 = .ok (.getfield 78, 3) := by decide +kernel
theorem dX3_endStream_38 : decode cX3_endStream 38 = .ok (.invokevirtual 63, 3) := by decide +kernel
theorem dX3_endStream_41 : decode cX3_endStream 41 = .ok (.aload_n 0, 1) := by decide +kernel
theorem dX3_endStream_42 : decode cX3_endStream 42 = .ok (.getfield 53, 3) := by decide +kernel
theorem dX3_endStream_45 : decode cX3_endStream 45 = .ok (.ifCond .ne 18, 3) := by decide +kernel
theorem dX3_endStream_48 : decode cX3_endStream 48 = .ok (.aload_n 0, 1) := by decide +kernel
theorem dX3_endStream_49 : decode cX3_endStream 49 = .ok (.getfield 25, 3) := by decide +kernel
theorem dX3_endStream_52 : decode cX3_endStream 52 = .ok (.getfield 75, 3) := by decide +kernel
theorem dX3_endStream_55 : decode cX3_endStream 55 = .ok (.iconst 5, 1) := by decide +kernel
theorem dX3_endStream_56 : decode cX3_endStream 56 = .ok (.if_icmp .ne 7, 3) := by decide +kernel
theorem dX3_endStream_59 : decode cX3_endStream 59 = .ok (.aload_n 0, 1) := by decide +kernel
theorem dX3_endStream_60 : decode cX3_endStream 60 = .ok (.invokevirtual 139, 3) := by decide +kernel
theorem dX3_endStream_63 : decode cX3_endStream 63 = .ok (.aload_n 0, 1) := by decide +kernel
theorem dX3_endStream_64 : decode cX3_endStream 64 = .ok (.getfield 53, 3) := by decide +kernel
theorem dX3_endStream_67 : decode cX3_endStream 67 = .ok (.ifCond .ne 21, 3) := by decide +kernel
theorem dX3_endStream_70 : decode cX3_endStream 70 = .ok (.aload_n 0, 1) := by decide +kernel
theorem dX3_endStream_71 : decode cX3_endStream 71 = .ok (.getfield 72, 3) := by decide +kernel
theorem dX3_endStream_74 : decode cX3_endStream 74 = .ok (.bipush 6, 2) := by decide +kernel
theorem dX3_endStream_76 : decode cX3_endStream 76 = .ok (.if_icmp .le 12, 3) := by decide +kernel
theorem dX3_endStream_79 : decode cX3_endStream 79 = .ok (.aload_n 0, 1) := by decide +kernel
theorem dX3_endStream_80 : decode cX3_endStream 80 = .ok (.iconst 4, 1) := by decide +kernel
theorem dX3_endStream_81 : decode cX3_endStream 81 = .ok (.aload_n 0, 1) := by decide +kernel
theorem dX3_endStream_82 : decode cX3_endStream 82 = .ok (.getfield 142, 3) := by decide +kernel
theorem dX3_endStream_85 : decode cX3_endStream 85 = .ok (.invokevirtual 63, 3) := by decide +kernel
theorem dX3_endStream_88 : decode cX3_endStream 88 = .ok (.aload_n 0, 1) := by decide +kernel
theorem dX3_endStream_89 : decode cX3_endStream 89 = .ok (.getfield 53, 3) := by decide +kernel
theorem dX3_endStream_92 : decode cX3_endStream 92 = .ok (.ifCond .ne 31, 3) := by decide +kernel
theorem dX3_endStream_95 : decode cX3_endStream 95 = .ok (.aload_n 0, 1) := by decide +kernel
theorem dX3_endStream_96 : decode cX3_endStream 96 = .ok (.getfield 25, 3) := by decide +kernel
theorem dX3_endStream_99 : decode cX3_endStream 99 = .ok (.aload_n 0, 1) := by decide +kernel
theorem dX3_endStream_100 : decode cX3_endStream 100 = .ok (.getfield 9, 3) := by decide +kernel
theorem dX3_endStream_103 : decode cX3_endStream 103 = .ok (.aload_n 0, 1) := by decide +kernel
theorem dX3_endStream_104 : decode cX3_endStream 104 = .ok (.getfield 72, 3) := by decide +kernel
theorem dX3_endStream_107 : decode cX3_endStream 107 = .ok (.invokevirtual 145, 3) := by decide +kernel
theorem dX3_endStream_110 : decode cX3_endStream 110 = .ok (.aload_n 0, 1) := by decide +kernel
theorem dX3_endStream_111 : decode cX3_endStream 111 = .ok (.getfield 15, 3) := by decide +kernel
theorem dX3_endStream_114 : decode cX3_endStream 114 = .ok (.dup, 1) := by decide +kernel
theorem dX3_endStream_115 : decode cX3_endStream 115 = .ok (.getfield 43, 3) := by decide +kernel
theorem dX3_endStream_118 : decode cX3_endStream 118 = .ok (.iconst 1, 1) := by decide +kernel
theorem dX3_endStream_119 : decode cX3_endStream 119 = .ok (.iadd, 1) := by decide +kernel
theorem dX3_endStream_120 : decode cX3_endStream 120 = .ok (.putfield 43, 3) := by decide +kernel
theorem dX3_endStream_123 : decode cX3_endStream 123 = .ok (.return_, 1) := by decide +kernel
theorem dX3_nameStream_0 : decode cX3_nameStream 0 = .ok (.aload_n 0, 1) := by decide +kernel
theorem dX3_nameStream_1 : decode cX3_nameStream 1 = .ok (.getfield 15, 3) := by decide +kernel
theorem dX3_nameStream_4 : decode cX3_nameStream 4 = .ok (.lload_n 1, 1) := by decide +kernel
theorem dX3_nameStream_5 : decode cX3_nameStream 5 = .ok (.invokevirtual 149, 3) := by decide +kernel
theorem dX3_nameStream_8 : decode cX3_nameStream 8 = .ok (.ifCond .lt 9, 3) := by decide +kernel
theorem dX3_nameStream_11 : decode cX3_nameStream 11 = .ok (.aload_n 0, 1) := by decide +kernel
theorem dX3_nameStream_12 : decode cX3_nameStream 12 = .ok (.iconst 5, 1) := by decide +kernel
theorem dX3_nameStream_13 : decode cX3_nameStream 13 = .ok (.iload_n 3, 1) := by decide +kernel
theorem dX3_nameStream_14 : decode cX3_nameStream 14 = .ok (.invokevirtual 63, 3) := by decide +kernel
theorem dX3_nameStream_17 : decode cX3_nameStream 17 = .ok (.aload_n 0, 1) := by decide +kernel
theorem dX3_nameStream_18 : decode cX3_nameStream 18 = .ok (.getfield 25, 3) := by decide +kernel
theorem dX3_nameStream_21 : decode cX3_nameStream 21 = .ok (.lload_n 1, 1) := by decide +kernel
theorem dX3_nameStream_22 : decode cX3_nameStream 22 = .ok (.putfield 152, 3) := by decide +kernel
theorem dX3_nameStream_25 : decode cX3_nameStream 25 = .ok (.aload_n 0, 1) := by decide +kernel
theorem dX3_nameStream_26 : decode cX3_nameStream 26 = .ok (.iload_n 3, 1) := by decide +kernel
theorem dX3_nameStream_27 : decode cX3_nameStream 27 = .ok (.putfield 142, 3) := by decide +kernel
theorem dX3_nameStream_30 : decode cX3_nameStream 30 = .ok (.return_, 1) := by decide +kernel
theorem dX3_nameColumn_0 : decode cX3_nameColumn 0 = .ok (.aload_n 0, 1) := by decide +kernel
theorem dX3_nameColumn_1 : decode cX3_nameColumn 1 = .ok (.lload_n 1, 1) := by decide +kernel
theorem dX3_nameColumn_2 : decode cX3_nameColumn 2 = .ok (.invokevirtual 156, 3) := by decide +kernel
theorem dX3_nameColumn_5 : decode cX3_nameColumn 5 = .ok (.ifCond .ne 9, 3) := by decide +kernel
theorem dX3_nameColumn_8 : decode cX3_nameColumn 8 = .ok (.aload_n 0, 1) := by decide +kernel
theorem dX3_nameColumn_9 : decode cX3_nameColumn 9 = .ok (.iconst 5, 1) := by decide +kernel
theorem dX3_nameColumn_10 : decode cX3_nameColumn 10 = .ok (.iload_n 3, 1) := by decide +kernel
theorem dX3_nameColumn_11 : decode cX3_nameColumn 11 = .ok (.invokevirtual 63, 3) := by decide +kernel
theorem dX3_nameColumn_14 : decode cX3_nameColumn 14 = .ok (.return_, 1) := by decide +kernel
theorem dX3_addColumn_0 : decode cX3_addColumn 0 = .ok (.iconst 0, 1) := by decide +kernel
theorem dX3_addColumn_1 : decode cX3_addColumn 1 = .ok (.istore_n 3, 1) := by decide +kernel
theorem dX3_addColumn_2 : decode cX3_addColumn 2 = .ok (.iload_n 3, 1) := by decide +kernel
theorem dX3_addColumn_3 : decode cX3_addColumn 3 = .ok (.aload_n 0, 1) := by decide +kernel
theorem dX3_addColumn_4 : decode cX3_addColumn 4 = .ok (.getfield 72, 3) := by decide +kernel
theorem dX3_addColumn_7 : decode cX3_addColumn 7 = .ok (.if_icmp .ge 31, 3) := by decide +kernel
theorem dX3_addColumn_10 : decode cX3_addColumn 10 = .ok (.iload_n 3, 1) := by decide +kernel
theorem dX3_addColumn_11 : decode cX3_addColumn 11 = .ok (.aload_n 0, 1) := by decide +kernel
theorem dX3_addColumn_12 : decode cX3_addColumn 12 = .ok (.getfield 9, 3) := by decide +kernel
theorem dX3_addColumn_15 : decode cX3_addColumn 15 = .ok (.arraylength, 1) := by decide +kernel
theorem dX3_addColumn_16 : decode cX3_addColumn 16 = .ok (.if_icmp .ge 22, 3) := by decide +kernel
theorem dX3_addColumn_19 : decode cX3_addColumn 19 = .ok (.aload_n 0, 1) := by decide +kernel
theorem dX3_addColumn_20 : decode cX3_addColumn 20 = .ok (.getfield 9, 3) := by decide +kernel
theorem dX3_addColumn_23 : decode cX3_addColumn 23 = .ok (.iload_n 3, 1) := by decide +kernel
theorem dX3_addColumn_24 : decode cX3_addColumn 24 = .ok (.laload, 1) := by decide +kernel
theorem dX3_addColumn_25 : decode cX3_addColumn 25 = .ok (.lload_n 1, 1) := by decide +kernel
theorem dX3_addColumn_26 : decode cX3_addColumn 26 = .ok (.lcmp, 1) := by decide +kernel
theorem dX3_addColumn_27 : decode cX3_addColumn 27 = .ok (.ifCond .ne 5, 3) := by decide +kernel
theorem dX3_addColumn_30 : decode cX3_addColumn 30 = .ok (.iconst 0, 1) := by decide +kernel
theorem dX3_addColumn_31 : decode cX3_addColumn 31 = .ok (.ireturn, 1) := by decide +kernel
theorem dX3_addColumn_32 : decode cX3_addColumn 32 = .ok (.iinc 3 1, 3) := by decide +kernel
theorem dX3_addColumn_35 : decode cX3_addColumn 35 = .ok (.goto (-33), 3) := by decide +kernel
theorem dX3_addColumn_38 : decode cX3_addColumn 38 = .ok (.aload_n 0, 1) := by decide +kernel
theorem dX3_addColumn_39 : decode cX3_addColumn 39 = .ok (.getfield 72, 3) := by decide +kernel
theorem dX3_addColumn_42 : decode cX3_addColumn 42 = .ok (.aload_n 0, 1) := by decide +kernel
theorem dX3_addColumn_43 : decode cX3_addColumn 43 = .ok (.getfield 9, 3) := by decide +kernel
theorem dX3_addColumn_46 : decode cX3_addColumn 46 = .ok (.arraylength, 1) := by decide +kernel
theorem dX3_addColumn_47 : decode cX3_addColumn 47 = .ok (.if_icmp .ge 23, 3) := by decide +kernel
theorem dX3_addColumn_50 : decode cX3_addColumn 50 = .ok (.aload_n 0, 1) := by decide +kernel
theorem dX3_addColumn_51 : decode cX3_addColumn 51 = .ok (.getfield 9, 3) := by decide +kernel
theorem dX3_addColumn_54 : decode cX3_addColumn 54 = .ok (.aload_n 0, 1) := by decide +kernel
theorem dX3_addColumn_55 : decode cX3_addColumn 55 = .ok (.getfield 72, 3) := by decide +kernel
theorem dX3_addColumn_58 : decode cX3_addColumn 58 = .ok (.lload_n 1, 1) := by decide +kernel
theorem dX3_addColumn_59 : decode cX3_addColumn 59 = .ok (.lastore, 1) := by decide +kernel
theorem dX3_addColumn_60 : decode cX3_addColumn 60 = .ok (.aload_n 0, 1) := by decide +kernel
theorem dX3_addColumn_61 : decode cX3_addColumn 61 = .ok (.dup, 1) := by decide +kernel
theorem dX3_addColumn_62 : decode cX3_addColumn 62 = .ok (.getfield 72, 3) := by decide +kernel
theorem dX3_addColumn_65 : decode cX3_addColumn 65 = .ok (.iconst 1, 1) := by decide +kernel
theorem dX3_addColumn_66 : decode cX3_addColumn 66 = .ok (.iadd, 1) := by decide +kernel
theorem dX3_addColumn_67 : decode cX3_addColumn 67 = .ok (.putfield 72, 3) := by decide +kernel
theorem dX3_addColumn_70 : decode cX3_addColumn 70 = .ok (.iconst 1, 1) := by decide +kernel
theorem dX3_addColumn_71 : decode cX3_addColumn 71 = .ok (.ireturn, 1) := by decide +kernel
theorem dX3_setFirstInput_0 : decode cX3_setFirstInput 0 = .ok (.aload_n 0, 1) := by decide +kernel
theorem dX3_setFirstInput_1 : decode cX3_setFirstInput 1 = .ok (.getfield 15, 3) := by decide +kernel
theorem dX3_setFirstInput_4 : decode cX3_setFirstInput 4 = .ok (.lload_n 1, 1) := by decide +kernel
theorem dX3_setFirstInput_5 : decode cX3_setFirstInput 5 = .ok (.invokevirtual 149, 3) := by decide +kernel
theorem dX3_setFirstInput_8 : decode cX3_setFirstInput 8 = .ok (.istore 4, 2) := by decide +kernel
theorem dX3_setFirstInput_10 : decode cX3_setFirstInput 10 = .ok (.iload 4, 2) := by decide +kernel
theorem dX3_setFirstInput_12 : decode cX3_setFirstInput 12 = .ok (.ifCond .ge 10, 3) := by decide +kernel
theorem dX3_setFirstInput_15 : decode cX3_setFirstInput 15 = .ok (.aload_n 0, 1) := by decide +kernel
theorem dX3_setFirstInput_16 : decode cX3_setFirstInput 16 = .ok (.iconst 2, 1) := by decide +kernel
theorem dX3_setFirstInput_17 : decode cX3_setFirstInput 17 = .ok (.iload_n 3, 1) := by decide +kernel
theorem dX3_setFirstInput_18 : decode cX3_setFirstInput 18 = .ok (.invokevirtual 63, 3) := by decide +kernel
theorem dX3_setFirstInput_21 : decode cX3_setFirstInput 21 = .ok (.return_, 1) := by decide +kernel
theorem dX3_setFirstInput_22 : decode cX3_setFirstInput 22 = .ok (.aload_n 0, 1) := by decide +kernel
theorem dX3_setFirstInput_23 : decode cX3_setFirstInput 23 = .ok (.aload_n 0, 1) := by decide +kernel
theorem dX3_setFirstInput_24 : decode cX3_setFirstInput 24 = .ok (.getfield 15, 3) := by decide +kernel
theorem dX3_setFirstInput_27 : decode cX3_setFirstInput 27 = .ok (.getfield 19, 3) := by decide +kernel
theorem dX3_setFirstInput_30 : decode cX3_setFirstInput 30 = .ok (.iload 4, 2) := by decide +kernel
theorem dX3_setFirstInput_32 : decode cX3_setFirstInput 32 = .ok (.aaload, 1) := by decide +kernel
theorem dX3_setFirstInput_33 : decode cX3_setFirstInput 33 = .ok (.putfield 29, 3) := by decide +kernel
theorem dX3_setFirstInput_36 : decode cX3_setFirstInput 36 = .ok (.aload_n 0, 1) := by decide +kernel
theorem dX3_setFirstInput_37 : decode cX3_setFirstInput 37 = .ok (.getfield 59, 3) := by decide +kernel
theorem dX3_setFirstInput_40 : decode cX3_setFirstInput 40 = .ok (.ifCond .eq 13, 3) := by decide +kernel
theorem dX3_setFirstInput_43 : decode cX3_setFirstInput 43 = .ok (.aload_n 0, 1) := by decide +kernel
theorem dX3_setFirstInput_44 : decode cX3_setFirstInput 44 = .ok (.getfield 39, 3) := by decide +kernel
theorem dX3_setFirstInput_47 : decode cX3_setFirstInput 47 = .ok (.iload 4, 2) := by decide +kernel
theorem dX3_setFirstInput_49 : decode cX3_setFirstInput 49 = .ok (.putfield 160, 3) := by decide +kernel
theorem dX3_setFirstInput_52 : decode cX3_setFirstInput 52 = .ok (.return_, 1) := by decide +kernel
theorem dX3_setFirstInput_53 : decode cX3_setFirstInput 53 = .ok (.aload_n 0, 1) := by decide +kernel
theorem dX3_setFirstInput_54 : decode cX3_setFirstInput 54 = .ok (.getfield 25, 3) := by decide +kernel
theorem dX3_setFirstInput_57 : decode cX3_setFirstInput 57 = .ok (.getfield 162, 3) := by decide +kernel
theorem dX3_setFirstInput_60 : decode cX3_setFirstInput 60 = .ok (.iconst 0, 1) := by decide +kernel
theorem dX3_setFirstInput_61 : decode cX3_setFirstInput 61 = .ok (.iload 4, 2) := by decide +kernel
theorem dX3_setFirstInput_63 : decode cX3_setFirstInput 63 = .ok (.iastore, 1) := by decide +kernel
theorem dX3_setFirstInput_64 : decode cX3_setFirstInput 64 = .ok (.aload_n 0, 1) := by decide +kernel
theorem dX3_setFirstInput_65 : decode cX3_setFirstInput 65 = .ok (.getfield 25, 3) := by decide +kernel
theorem dX3_setFirstInput_68 : decode cX3_setFirstInput 68 = .ok (.getfield 75, 3) := by decide +kernel
theorem dX3_setFirstInput_71 : decode cX3_setFirstInput 71 = .ok (.iconst 3, 1) := by decide +kernel
theorem dX3_setFirstInput_72 : decode cX3_setFirstInput 72 = .ok (.if_icmp .eq 30, 3) := by decide +kernel
theorem dX3_setFirstInput_75 : decode cX3_setFirstInput 75 = .ok (.aload_n 0, 1) := by decide +kernel
theorem dX3_setFirstInput_76 : decode cX3_setFirstInput 76 = .ok (.getfield 25, 3) := by decide +kernel
theorem dX3_setFirstInput_79 : decode cX3_setFirstInput 79 = .ok (.getfield 75, 3) := by decide +kernel
theorem dX3_setFirstInput_82 : decode cX3_setFirstInput 82 = .ok (.bipush 7, 2) := by decide +kernel
theorem dX3_setFirstInput_84 : decode cX3_setFirstInput 84 = .ok (.if_icmp .eq 18, 3) := by decide +kernel
theorem dX3_setFirstInput_87 : decode cX3_setFirstInput 87 = .ok (.aload_n 0, 1) := by decide +kernel
theorem dX3_setFirstInput_88 : decode cX3_setFirstInput 88 = .ok (.aload_n 0, 1) := by decide +kernel
theorem dX3_setFirstInput_89 : decode cX3_setFirstInput 89 = .ok (.getfield 29, 3) := by decide +kernel
theorem dX3_setFirstInput_92 : decode cX3_setFirstInput 92 = .ok (.aload_n 0, 1) := by decide +kernel
theorem dX3_setFirstInput_93 : decode cX3_setFirstInput 93 = .ok (.getfield 9, 3) := by decide +kernel
theorem dX3_setFirstInput_96 : decode cX3_setFirstInput 96 = .ok (.invokevirtual 166, 3) := by decide +kernel
theorem dX3_setFirstInput_99 : decode cX3_setFirstInput 99 = .ok (.putfield 72, 3) := by decide +kernel
theorem dX3_setFirstInput_102 : decode cX3_setFirstInput 102 = .ok (.return_, 1) := by decide +kernel
theorem dX3_setSecondInput_0 : decode cX3_setSecondInput 0 = .ok (.aload_n 0, 1) := by decide +kernel
theorem dX3_setSecondInput_1 : decode cX3_setSecondInput 1 = .ok (.getfield 15, 3) := by decide +kernel
theorem dX3_setSecondInput_4 : decode cX3_setSecondInput 4 = .ok (.lload_n 1, 1) := by decide +kernel
theorem dX3_setSecondInput_5 : decode cX3_setSecondInput 5 = .ok (.invokevirtual 149, 3) := by decide +kernel
theorem dX3_setSecondInput_8 : decode cX3_setSecondInput 8 = .ok (.istore 4, 2) := by decide +kernel
theorem dX3_setSecondInput_10 : decode cX3_setSecondInput 10 = .ok (.iload 4, 2) := by decide +kernel
theorem dX3_setSecondInput_12 : decode cX3_setSecondInput 12 = .ok (.ifCond .ge 10, 3) := by decide +kernel
theorem dX3_setSecondInput_15 : decode cX3_setSecondInput 15 = .ok (.aload_n 0, 1) := by decide +kernel
theorem dX3_setSecondInput_16 : decode cX3_setSecondInput 16 = .ok (.iconst 2, 1) := by decide +kernel
theorem dX3_setSecondInput_17 : decode cX3_setSecondInput 17 = .ok (.iload_n 3, 1) := by decide +kernel
theorem dX3_setSecondInput_18 : decode cX3_setSecondInput 18 = .ok (.invokevirtual 63, 3) := by decide +kernel
theorem dX3_setSecondInput_21 : decode cX3_setSecondInput 21 = .ok (.return_, 1) := by decide +kernel
theorem dX3_setSecondInput_22 : decode cX3_setSecondInput 22 = .ok (.aload_n 0, 1) := by decide +kernel
theorem dX3_setSecondInput_23 : decode cX3_setSecondInput 23 = .ok (.aload_n 0, 1) := by decide +kernel
theorem dX3_setSecondInput_24 : decode cX3_setSecondInput 24 = .ok (.getfield 15, 3) := by decide +kernel
theorem dX3_setSecondInput_27 : decode cX3_setSecondInput 27 = .ok (.getfield 19, 3) := by decide +kernel
theorem dX3_setSecondInput_30 : decode cX3_setSecondInput 30 = .ok (.iload 4, 2) := by decide +kernel
theorem dX3_setSecondInput_32 : decode cX3_setSecondInput 32 = .ok (.aaload, 1) := by decide +kernel
theorem dX3_setSecondInput_33 : decode cX3_setSecondInput 33 = .ok (.putfield 32, 3) := by decide +kernel
theorem dX3_setSecondInput_36 : decode cX3_setSecondInput 36 = .ok (.aload_n 0, 1) := by decide +kernel
theorem dX3_setSecondInput_37 : decode cX3_setSecondInput 37 = .ok (.getfield 25, 3) := by decide +kernel
theorem dX3_setSecondInput_40 : decode cX3_setSecondInput 40 = .ok (.getfield 162, 3) := by decide +kernel
theorem dX3_setSecondInput_43 : decode cX3_setSecondInput 43 = .ok (.iconst 1, 1) := by decide +kernel
theorem dX3_setSecondInput_44 : decode cX3_setSecondInput 44 = .ok (.iload 4, 2) := by decide +kernel
theorem dX3_setSecondInput_46 : decode cX3_setSecondInput 46 = .ok (.iastore, 1) := by decide +kernel
theorem dX3_setSecondInput_47 : decode cX3_setSecondInput 47 = .ok (.aload_n 0, 1) := by decide +kernel
theorem dX3_setSecondInput_48 : decode cX3_setSecondInput 48 = .ok (.iload_n 3, 1) := by decide +kernel
theorem dX3_setSecondInput_49 : decode cX3_setSecondInput 49 = .ok (.putfield 170, 3) := by decide +kernel
theorem dX3_setSecondInput_52 : decode cX3_setSecondInput 52 = .ok (.return_, 1) := by decide +kernel
theorem dX3_setKey_0 : decode cX3_setKey 0 = .ok (.aload_n 0, 1) := by decide +kernel
theorem dX3_setKey_1 : decode cX3_setKey 1 = .ok (.getfield 25, 3) := by decide +kernel
theorem dX3_setKey_4 : decode cX3_setKey 4 = .ok (.aload_n 0, 1) := by decide +kernel
theorem dX3_setKey_5 : decode cX3_setKey 5 = .ok (.getfield 29, 3) := by decide +kernel
theorem dX3_setKey_8 : decode cX3_setKey 8 = .ok (.lload_n 1, 1) := by decide +kernel
theorem dX3_setKey_9 : decode cX3_setKey 9 = .ok (.invokevirtual 128, 3) := by decide +kernel
theorem dX3_setKey_12 : decode cX3_setKey 12 = .ok (.putfield 173, 3) := by decide +kernel
theorem dX3_setKey_15 : decode cX3_setKey 15 = .ok (.aload_n 0, 1) := by decide +kernel
theorem dX3_setKey_16 : decode cX3_setKey 16 = .ok (.getfield 25, 3) := by decide +kernel
theorem dX3_setKey_19 : decode cX3_setKey 19 = .ok (.aload_n 0, 1) := by decide +kernel
theorem dX3_setKey_20 : decode cX3_setKey 20 = .ok (.getfield 25, 3) := by decide +kernel
theorem dX3_setKey_23 : decode cX3_setKey 23 = .ok (.getfield 75, 3) := by decide +kernel
theorem dX3_setKey_26 : decode cX3_setKey 26 = .ok (.iconst 5, 1) := by decide +kernel
theorem dX3_setKey_27 : decode cX3_setKey 27 = .ok (.if_icmp .ne 14, 3) := by decide +kernel
theorem dX3_setKey_30 : decode cX3_setKey 30 = .ok (.aload_n 0, 1) := by decide +kernel
theorem dX3_setKey_31 : decode cX3_setKey 31 = .ok (.getfield 32, 3) := by decide +kernel
theorem dX3_setKey_34 : decode cX3_setKey 34 = .ok (.lload_n 1, 1) := by decide +kernel
theorem dX3_setKey_35 : decode cX3_setKey 35 = .ok (.invokevirtual 128, 3) := by decide +kernel
theorem dX3_setKey_38 : decode cX3_setKey 38 = .ok (.goto 10, 3) := by decide +kernel
theorem dX3_setKey_41 : decode cX3_setKey 41 = .ok (.aload_n 0, 1) := by decide +kernel
theorem dX3_setKey_42 : decode cX3_setKey 42 = .ok (.getfield 25, 3) := by decide +kernel
theorem dX3_setKey_45 : decode cX3_setKey 45 = .ok (.getfield 173, 3) := by decide +kernel
theorem dX3_setKey_48 : decode cX3_setKey 48 = .ok (.putfield 176, 3) := by decide +kernel
theorem dX3_setKey_51 : decode cX3_setKey 51 = .ok (.aload_n 0, 1) := by decide +kernel
theorem dX3_setKey_52 : decode cX3_setKey 52 = .ok (.getfield 25, 3) := by decide +kernel
theorem dX3_setKey_55 : decode cX3_setKey 55 = .ok (.getfield 173, 3) := by decide +kernel
theorem dX3_setKey_58 : decode cX3_setKey 58 = .ok (.ifCond .lt 13, 3) := by decide +kernel
theorem dX3_setKey_61 : decode cX3_setKey 61 = .ok (.aload_n 0, 1) := by decide +kernel
theorem dX3_setKey_62 : decode cX3_setKey 62 = .ok (.getfield 25, 3) := by decide +kernel
theorem dX3_setKey_65 : decode cX3_setKey 65 = .ok (.getfield 176, 3) := by decide +kernel
theorem dX3_setKey_68 : decode cX3_setKey 68 = .ok (.ifCond .ge 12, 3) := by decide +kernel
theorem dX3_setKey_71 : decode cX3_setKey 71 = .ok (.aload_n 0, 1) := by decide +kernel
theorem dX3_setKey_72 : decode cX3_setKey 72 = .ok (.iconst 2, 1) := by decide +kernel
theorem dX3_setKey_73 : decode cX3_setKey 73 = .ok (.iload_n 3, 1) := by decide +kernel
theorem dX3_setKey_74 : decode cX3_setKey 74 = .ok (.invokevirtual 63, 3) := by decide +kernel
theorem dX3_setKey_77 : decode cX3_setKey 77 = .ok (.goto 39, 3) := by decide +kernel
theorem dX3_setKey_80 : decode cX3_setKey 80 = .ok (.aload_n 0, 1) := by decide +kernel
theorem dX3_setKey_81 : decode cX3_setKey 81 = .ok (.getfield 25, 3) := by decide +kernel
theorem dX3_setKey_84 : decode cX3_setKey 84 = .ok (.getfield 75, 3) := by decide +kernel
theorem dX3_setKey_87 : decode cX3_setKey 87 = .ok (.bipush 7, 2) := by decide +kernel
theorem dX3_setKey_89 : decode cX3_setKey 89 = .ok (.if_icmp .ne 27, 3) := by decide +kernel
theorem dX3_setKey_92 : decode cX3_setKey 92 = .ok (.aload_n 0, 1) := by decide +kernel
theorem dX3_setKey_93 : decode cX3_setKey 93 = .ok (.lload_n 1, 1) := by decide +kernel
theorem dX3_setKey_94 : decode cX3_setKey 94 = .ok (.invokevirtual 156, 3) := by decide +kernel
theorem dX3_setKey_97 : decode cX3_setKey 97 = .ok (.ifCond .eq 13, 3) := by decide +kernel
theorem dX3_setKey_100 : decode cX3_setKey 100 = .ok (.aload_n 0, 1) := by decide +kernel
theorem dX3_setKey_101 : decode cX3_setKey 101 = .ok (.ldc2_w 179, 3) := by decide +kernel
theorem dX3_setKey_104 : decode cX3_setKey 104 = .ok (.invokevirtual 156, 3) := by decide +kernel
theorem dX3_setKey_107 : decode cX3_setKey 107 = .ok (.ifCond .ne 9, 3) := by decide +kernel
theorem dX3_setKey_110 : decode cX3_setKey 110 = .ok (.aload_n 0, 1) := by decide +kernel
theorem dX3_setKey_111 : decode cX3_setKey 111 = .ok (.iconst 5, 1) := by decide +kernel
theorem dX3_setKey_112 : decode cX3_setKey 112 = .ok (.iload_n 3, 1) := by decide +kernel
theorem dX3_setKey_113 : decode cX3_setKey 113 = .ok (.invokevirtual 63, 3) := by decide +kernel
theorem dX3_setKey_116 : decode cX3_setKey 116 = .ok (.return_, 1) := by decide +kernel
theorem dX3_pickColumn_0 : decode cX3_pickColumn 0 = .ok (.aload_n 0, 1) := by decide +kernel
theorem dX3_pickColumn_1 : decode cX3_pickColumn 1 = .ok (.getfield 29, 3) := by decide +kernel
theorem dX3_pickColumn_4 : decode cX3_pickColumn 4 = .ok (.lload_n 1, 1) := by decide +kernel
theorem dX3_pickColumn_5 : decode cX3_pickColumn 5 = .ok (.invokevirtual 128, 3) := by decide +kernel
theorem dX3_pickColumn_8 : decode cX3_pickColumn 8 = .ok (.istore 4, 2) := by decide +kernel
theorem dX3_pickColumn_10 : decode cX3_pickColumn 10 = .ok (.iload 4, 2) := by decide +kernel
theorem dX3_pickColumn_12 : decode cX3_pickColumn 12 = .ok (.ifCond .ge 12, 3) := by decide +kernel
theorem dX3_pickColumn_15 : decode cX3_pickColumn 15 = .ok (.aload_n 0, 1) := by decide +kernel
theorem dX3_pickColumn_16 : decode cX3_pickColumn 16 = .ok (.iconst 2, 1) := by decide +kernel
theorem dX3_pickColumn_17 : decode cX3_pickColumn 17 = .ok (.iload_n 3, 1) := by decide +kernel
theorem dX3_pickColumn_18 : decode cX3_pickColumn 18 = .ok (.invokevirtual 63, 3) := by decide +kernel
theorem dX3_pickColumn_21 : decode cX3_pickColumn 21 = .ok (.goto 35, 3) := by decide +kernel
theorem dX3_pickColumn_24 : decode cX3_pickColumn 24 = .ok (.aload_n 0, 1) := by decide +kernel
theorem dX3_pickColumn_25 : decode cX3_pickColumn 25 = .ok (.lload_n 1, 1) := by decide +kernel
theorem dX3_pickColumn_26 : decode cX3_pickColumn 26 = .ok (.invokevirtual 156, 3) := by decide +kernel
theorem dX3_pickColumn_29 : decode cX3_pickColumn 29 = .ok (.ifCond .eq 21, 3) := by decide +kernel
theorem dX3_pickColumn_32 : decode cX3_pickColumn 32 = .ok (.aload_n 0, 1) := by decide +kernel
theorem dX3_pickColumn_33 : decode cX3_pickColumn 33 = .ok (.getfield 25, 3) := by decide +kernel
theorem dX3_pickColumn_36 : decode cX3_pickColumn 36 = .ok (.aload_n 0, 1) := by decide +kernel
theorem dX3_pickColumn_37 : decode cX3_pickColumn 37 = .ok (.getfield 72, 3) := by decide +kernel
theorem dX3_pickColumn_40 : decode cX3_pickColumn 40 = .ok (.iconst 1, 1) := by decide +kernel
theorem dX3_pickColumn_41 : decode cX3_pickColumn 41 = .ok (.isub, 1) := by decide +kernel
theorem dX3_pickColumn_42 : decode cX3_pickColumn 42 = .ok (.iload 4, 2) := by decide +kernel
