theorem dX0_init_0 : decode cX0_init 0 = .ok (.aload_n 0, 1) := by decide +kernel
theorem dX0_init_1 : decode cX0_init 1 = .ok (.invokespecial 1, 3) := by decide +kernel
theorem dX0_init_4 : decode cX0_init 4 = .ok (.return_, 1) := by decide +kernel
theorem dX1_init_0 : decode cX1_init 0 = .ok (.aload_n 0, 1) := by decide +kernel
theorem dX1_init_1 : decode cX1_init 1 = .ok (.invokespecial 3, 3) := by decide +kernel
theorem dX1_init_4 : decode cX1_init 4 = .ok (.aload_n 0, 1) := by decide +kernel
theorem dX1_init_5 : decode cX1_init 5 = .ok (.bipush 60, 2) := by decide +kernel
theorem dX1_init_7 : decode cX1_init 7 = .ok (.anewarray 9, 3) := by decide +kernel
theorem dX1_init_10 : decode cX1_init 10 = .ok (.putfield 11, 3) := by decide +kernel
theorem dX1_init_13 : decode cX1_init 13 = .ok (.aload_n 0, 1) := by decide +kernel
theorem dX1_init_14 : decode cX1_init 14 = .ok (.new 9, 3) := by decide +kernel
theorem dX1_init_17 : decode cX1_init 17 = .ok (.dup, 1) := by decide +kernel
theorem dX1_init_18 : decode cX1_init 18 = .ok (.invokespecial 17, 3) := by decide +kernel
theorem dX1_init_21 : decode cX1_init 21 = .ok (.putfield 18, 3) := by decide +kernel
theorem dX1_init_24 : decode cX1_init 24 = .ok (.aload_n 0, 1) := by decide +kernel
theorem dX1_init_25 : decode cX1_init 25 = .ok (.new 9, 3) := by decide +kernel
theorem dX1_init_28 : decode cX1_init 28 = .ok (.dup, 1) := by decide +kernel
theorem dX1_init_29 : decode cX1_init 29 = .ok (.invokespecial 17, 3) := by decide +kernel
theorem dX1_init_32 : decode cX1_init 32 = .ok (.putfield 22, 3) := by decide +kernel
theorem dX1_init_35 : decode cX1_init 35 = .ok (.aload_n 0, 1) := by decide +kernel
theorem dX1_init_36 : decode cX1_init 36 = .ok (.new 9, 3) := by decide +kernel
theorem dX1_init_39 : decode cX1_init 39 = .ok (.dup, 1) := by decide +kernel
theorem dX1_init_40 : decode cX1_init 40 = .ok (.invokespecial 17, 3) := by decide +kernel
theorem dX1_init_43 : decode cX1_init 43 = .ok (.putfield 25, 3) := by decide +kernel
theorem dX1_init_46 : decode cX1_init 46 = .ok (.aload_n 0, 1) := by decide +kernel
theorem dX1_init_47 : decode cX1_init 47 = .ok (.aload_n 1, 1) := by decide +kernel
theorem dX1_init_48 : decode cX1_init 48 = .ok (.putfield 28, 3) := by decide +kernel
theorem dX1_init_51 : decode cX1_init 51 = .ok (.iconst 0, 1) := by decide +kernel
theorem dX1_init_52 : decode cX1_init 52 = .ok (.istore_n 2, 1) := by decide +kernel
theorem dX1_init_53 : decode cX1_init 53 = .ok (.iload_n 2, 1) := by decide +kernel
theorem dX1_init_54 : decode cX1_init 54 = .ok (.aload_n 0, 1) := by decide +kernel
theorem dX1_init_55 : decode cX1_init 55 = .ok (.getfield 11, 3) := by decide +kernel
theorem dX1_init_58 : decode cX1_init 58 = .ok (.arraylength, 1) := by decide +kernel
theorem dX1_init_59 : decode cX1_init 59 = .ok (.if_icmp .ge 22, 3) := by decide +kernel
theorem dX1_init_62 : decode cX1_init 62 = .ok (.aload_n 0, 1) := by decide +kernel
theorem dX1_init_63 : decode cX1_init 63 = .ok (.getfield 11, 3) := by decide +kernel
theorem dX1_init_66 : decode cX1_init 66 = .ok (.iload_n 2, 1) := by decide +kernel
theorem dX1_init_67 : decode cX1_init 67 = .ok (.new 9, 3) := by decide +kernel
theorem dX1_init_70 : decode cX1_init 70 = .ok (.dup, 1) := by decide +kernel
theorem dX1_init_71 : decode cX1_init 71 = .ok (.invokespecial 17, 3) := by decide +kernel
theorem dX1_init_74 : decode cX1_init 74 = .ok (.aastore, 1) := by decide +kernel
theorem dX1_init_75 : decode cX1_init 75 = .ok (.iinc 2 1, 3) := by decide +kernel
theorem dX1_init_78 : decode cX1_init 78 = .ok (.goto (-25), 3) := by decide +kernel
theorem dX1_init_81 : decode cX1_init 81 = .ok (.return_, 1) := by decide +kernel
theorem dX1_start_0 : decode cX1_start 0 = .ok (.aload_n 0, 1) := by decide +kernel
theorem dX1_start_1 : decode cX1_start 1 = .ok (.aload_n 1, 1) := by decide +kernel
theorem dX1_start_2 : decode cX1_start 2 = .ok (.putfield 28, 3) := by decide +kernel
theorem dX1_start_5 : decode cX1_start 5 = .ok (.iconst 0, 1) := by decide +kernel
theorem dX1_start_6 : decode cX1_start 6 = .ok (.istore_n 2, 1) := by decide +kernel
theorem dX1_start_7 : decode cX1_start 7 = .ok (.iload_n 2, 1) := by decide +kernel
theorem dX1_start_8 : decode cX1_start 8 = .ok (.aload_n 0, 1) := by decide +kernel
theorem dX1_start_9 : decode cX1_start 9 = .ok (.getfield 28, 3) := by decide +kernel
theorem dX1_start_12 : decode cX1_start 12 = .ok (.getfield 32, 3) := by decide +kernel
theorem dX1_start_15 : decode cX1_start 15 = .ok (.if_icmp .ge 21, 3) := by decide +kernel
theorem dX1_start_18 : decode cX1_start 18 = .ok (.aload_n 0, 1) := by decide +kernel
theorem dX1_start_19 : decode cX1_start 19 = .ok (.getfield 28, 3) := by decide +kernel
theorem dX1_start_22 : decode cX1_start 22 = .ok (.getfield 38, 3) := by decide +kernel
theorem dX1_start_25 : decode cX1_start 25 = .ok (.iload_n 2, 1) := by decide +kernel
theorem dX1_start_26 : decode cX1_start 26 = .ok (.aaload, 1) := by decide +kernel
theorem dX1_start_27 : decode cX1_start 27 = .ok (.invokevirtual 42, 3) := by decide +kernel
theorem dX1_start_30 : decode cX1_start 30 = .ok (.iinc 2 1, 3) := by decide +kernel
theorem dX1_start_33 : decode cX1_start 33 = .ok (.goto (-26), 3) := by decide +kernel
theorem dX1_start_36 : decode cX1_start 36 = .ok (.iconst 0, 1) := by decide +kernel
theorem dX1_start_37 : decode cX1_start 37 = .ok (.istore_n 2, 1) := by decide +kernel
theorem dX1_start_38 : decode cX1_start 38 = .ok (.iload_n 2, 1) := by decide +kernel
theorem dX1_start_39 : decode cX1_start 39 = .ok (.aload_n 0, 1) := by decide +kernel
theorem dX1_start_40 : decode cX1_start 40 = .ok (.getfield 28, 3) := by decide +kernel
theorem dX1_start_43 : decode cX1_start 43 = .ok (.getfield 47, 3) := by decide +kernel
theorem dX1_start_46 : decode cX1_start 46 = .ok (.if_icmp .ge 22, 3) := by decide +kernel
theorem dX1_start_49 : decode cX1_start 49 = .ok (.aload_n 0, 1) := by decide +kernel
theorem dX1_start_50 : decode cX1_start 50 = .ok (.getfield 28, 3) := by decide +kernel
theorem dX1_start_53 : decode cX1_start 53 = .ok (.getfield 50, 3) := by decide +kernel
theorem dX1_start_56 : decode cX1_start 56 = .ok (.iload_n 2, 1) := by decide +kernel
theorem dX1_start_57 : decode cX1_start 57 = .ok (.aaload, 1) := by decide +kernel
theorem dX1_start_58 : decode cX1_start 58 = .ok (.iconst 0, 1) := by decide +kernel
theorem dX1_start_59 : decode cX1_start 59 = .ok (.putfield 54, 3) := by decide +kernel
theorem dX1_start_62 : decode cX1_start 62 = .ok (.iinc 2 1, 3) := by decide +kernel
theorem dX1_start_65 : decode cX1_start 65 = .ok (.goto (-27), 3) := by decide +kernel
theorem dX1_start_68 : decode cX1_start 68 = .ok (.aload_n 0, 1) := by decide +kernel
theorem dX1_start_69 : decode cX1_start 69 = .ok (.iconst 0, 1) := by decide +kernel
theorem dX1_start_70 : decode cX1_start 70 = .ok (.putfield 59, 3) := by decide +kernel
theorem dX1_start_73 : decode cX1_start 73 = .ok (.aload_n 0, 1) := by decide +kernel
theorem dX1_start_74 : decode cX1_start 74 = .ok (.iconst 0, 1) := by decide +kernel
theorem dX1_start_75 : decode cX1_start 75 = .ok (.putfield 62, 3) := by decide +kernel
theorem dX1_start_78 : decode cX1_start 78 = .ok (.aload_n 0, 1) := by decide +kernel
theorem dX1_start_79 : decode cX1_start 79 = .ok (.iconst 0, 1) := by decide +kernel
theorem dX1_start_80 : decode cX1_start 80 = .ok (.putfield 65, 3) := by decide +kernel
theorem dX1_start_83 : decode cX1_start 83 = .ok (.aload_n 0, 1) := by decide +kernel
theorem dX1_start_84 : decode cX1_start 84 = .ok (.iconst 0, 1) := by decide +kernel
theorem dX1_start_85 : decode cX1_start 85 = .ok (.putfield 69, 3) := by decide +kernel
theorem dX1_start_88 : decode cX1_start 88 = .ok (.return_, 1) := by decide +kernel
theorem dX1_perform_0 : decode cX1_perform 0 = .ok (.aload_n 0, 1) := by decide +kernel
theorem dX1_perform_1 : decode cX1_perform 1 = .ok (.iconst 0, 1) := by decide +kernel
theorem dX1_perform_2 : decode cX1_perform 2 = .ok (.putfield 72, 3) := by decide +kernel
theorem dX1_perform_5 : decode cX1_perform 5 = .ok (.aload_n 1, 1) := by decide +kernel
theorem dX1_perform_6 : decode cX1_perform 6 = .ok (.getfield 75, 3) := by decide +kernel
theorem dX1_perform_9 : decode cX1_perform 9 = .ok (.tableswitch 51 0 2 #[27, 33, 42], 27) := by decide +kernel
theorem dX1_perform_36 : decode cX1_perform 36 = .ok (.aload_n 0, 1) := by decide +kernel
theorem dX1_perform_37 : decode cX1_perform 37 = .ok (.aload_n 1, 1) := by decide +kernel
theorem dX1_perform_38 : decode cX1_perform 38 = .ok (.invokevirtual 80, 3) := by decide +kernel
theorem dX1_perform_41 : decode cX1_perform 41 = .ok (.ireturn, 1) := by decide +kernel
theorem dX1_perform_42 : decode cX1_perform 42 = .ok (.aload_n 0, 1) := by decide +kernel
theorem dX1_perform_43 : decode cX1_perform 43 = .ok (.aload_n 1, 1) := by decide +kernel
theorem dX1_perform_44 : decode cX1_perform 44 = .ok (.getfield 84, 3) := by decide +kernel
theorem dX1_perform_47 : decode cX1_perform 47 = .ok (.invokevirtual 87, 3) := by decide +kernel
theorem dX1_perform_50 : decode cX1_perform 50 = .ok (.ireturn, 1) := by decide +kernel
theorem dX1_perform_51 : decode cX1_perform 51 = .ok (.aload_n 0, 1) := by decide +kernel
theorem dX1_perform_52 : decode cX1_perform 52 = .ok (.aload_n 1, 1) := by decide +kernel
theorem dX1_perform_53 : decode cX1_perform 53 = .ok (.getfield 84, 3) := by decide +kernel
theorem dX1_perform_56 : decode cX1_perform 56 = .ok (.invokevirtual 91, 3) := by decide +kernel
theorem dX1_perform_59 : decode cX1_perform 59 = .ok (.ireturn, 1) := by decide +kernel
theorem dX1_perform_60 : decode cX1_perform 60 = .ok (.aload_n 0, 1) := by decide +kernel
theorem dX1_perform_61 : decode cX1_perform 61 = .ok (.getfield 65, 3) := by decide +kernel
theorem dX1_perform_64 : decode cX1_perform 64 = .ok (.istore_n 2, 1) := by decide +kernel
theorem dX1_perform_65 : decode cX1_perform 65 = .ok (.aload_n 0, 1) := by decide +kernel
theorem dX1_perform_66 : decode cX1_perform 66 = .ok (.iconst 0, 1) := by decide +kernel
theorem dX1_perform_67 : decode cX1_perform 67 = .ok (.putfield 65, 3) := by decide +kernel
theorem dX1_perform_70 : decode cX1_perform 70 = .ok (.iload_n 2, 1) := by decide +kernel
theorem dX1_perform_71 : decode cX1_perform 71 = .ok (.ireturn, 1) := by decide +kernel
theorem dX1_runSteps_0 : decode cX1_runSteps 0 = .ok (.iconst 0, 1) := by decide +kernel
theorem dX1_runSteps_1 : decode cX1_runSteps 1 = .ok (.istore_n 1, 1) := by decide +kernel
theorem dX1_runSteps_2 : decode cX1_runSteps 2 = .ok (.iload_n 1, 1) := by decide +kernel
theorem dX1_runSteps_3 : decode cX1_runSteps 3 = .ok (.aload_n 0, 1) := by decide +kernel
theorem dX1_runSteps_4 : decode cX1_runSteps 4 = .ok (.getfield 28, 3) := by decide +kernel
theorem dX1_runSteps_7 : decode cX1_runSteps 7 = .ok (.getfield 32, 3) := by decide +kernel
theorem dX1_runSteps_10 : decode cX1_runSteps 10 = .ok (.if_icmp .ge 67, 3) := by decide +kernel
theorem dX1_runSteps_13 : decode cX1_runSteps 13 = .ok (.aload_n 0, 1) := by decide +kernel
theorem dX1_runSteps_14 : decode cX1_runSteps 14 = .ok (.getfield 28, 3) := by decide +kernel
theorem dX1_runSteps_17 : decode cX1_runSteps 17 = .ok (.getfield 38, 3) := by decide +kernel
theorem dX1_runSteps_20 : decode cX1_runSteps 20 = .ok (.iload_n 1, 1) := by decide +kernel
theorem dX1_runSteps_21 : decode cX1_runSteps 21 = .ok (.aaload, 1) := by decide +kernel
theorem dX1_runSteps_22 : decode cX1_runSteps 22 = .ok (.astore_n 2, 1) := by decide +kernel
theorem dX1_runSteps_23 : decode cX1_runSteps 23 = .ok (.aload_n 2, 1) := by decide +kernel
theorem dX1_runSteps_24 : decode cX1_runSteps 24 = .ok (.getfield 94, 3) := by decide +kernel
theorem dX1_runSteps_27 : decode cX1_runSteps 27 = .ok (.ifCond .ne 6, 3) := by decide +kernel
theorem dX1_runSteps_30 : decode cX1_runSteps 30 = .ok (.goto 41, 3) := by decide +kernel
theorem dX1_runSteps_33 : decode cX1_runSteps 33 = .ok (.aload_n 0, 1) := by decide +kernel
theorem dX1_runSteps_34 : decode cX1_runSteps 34 = .ok (.iload_n 1, 1) := by decide +kernel
theorem dX1_runSteps_35 : decode cX1_runSteps 35 = .ok (.aload_n 2, 1) := by decide +kernel
theorem dX1_runSteps_36 : decode cX1_runSteps 36 = .ok (.iconst 0, 1) := by decide +kernel
theorem dX1_runSteps_37 : decode cX1_runSteps 37 = .ok (.invokevirtual 97, 3) := by decide +kernel
theorem dX1_runSteps_40 : decode cX1_runSteps 40 = .ok (.aload_n 0, 1) := by decide +kernel
theorem dX1_runSteps_41 : decode cX1_runSteps 41 = .ok (.iload_n 1, 1) := by decide +kernel
theorem dX1_runSteps_42 : decode cX1_runSteps 42 = .ok (.aload_n 2, 1) := by decide +kernel
theorem dX1_runSteps_43 : decode cX1_runSteps 43 = .ok (.iconst 1, 1) := by decide +kernel
theorem dX1_runSteps_44 : decode cX1_runSteps 44 = .ok (.invokevirtual 97, 3) := by decide +kernel
theorem dX1_runSteps_47 : decode cX1_runSteps 47 = .ok (.aload_n 2, 1) := by decide +kernel
theorem dX1_runSteps_48 : decode cX1_runSteps 48 = .ok (.aload_n 0, 1) := by decide +kernel
theorem dX1_runSteps_49 : decode cX1_runSteps 49 = .ok (.aload_n 2, 1) := by decide +kernel
theorem dX1_runSteps_50 : decode cX1_runSteps 50 = .ok (.invokevirtual 101, 3) := by decide +kernel
theorem dX1_runSteps_53 : decode cX1_runSteps 53 = .ok (.putfield 105, 3) := by decide +kernel
theorem dX1_runSteps_56 : decode cX1_runSteps 56 = .ok (.aload_n 2, 1) := by decide +kernel
theorem dX1_runSteps_57 : decode cX1_runSteps 57 = .ok (.getfield 94, 3) := by decide +kernel
theorem dX1_runSteps_60 : decode cX1_runSteps 60 = .ok (.bipush 7, 2) := by decide +kernel
theorem dX1_runSteps_62 : decode cX1_runSteps 62 = .ok (.if_icmp .ne 9, 3) := by decide +kernel
theorem dX1_runSteps_65 : decode cX1_runSteps 65 = .ok (.aload_n 0, 1) := by decide +kernel
theorem dX1_runSteps_66 : decode cX1_runSteps 66 = .ok (.iload_n 1, 1) := by decide +kernel
theorem dX1_runSteps_67 : decode cX1_runSteps 67 = .ok (.aload_n 2, 1) := by decide +kernel
theorem dX1_runSteps_68 : decode cX1_runSteps 68 = .ok (.invokevirtual 108, 3) := by decide +kernel
theorem dX1_runSteps_71 : decode cX1_runSteps 71 = .ok (.iinc 1 1, 3) := by decide +kernel
theorem dX1_runSteps_74 : decode cX1_runSteps 74 = .ok (.goto (-72), 3) := by decide +kernel
theorem dX1_runSteps_77 : decode cX1_runSteps 77 = .ok (.return_, 1) := by decide +kernel
theorem dX1_doPush_0 : decode cX1_doPush 0 = .ok (.aload_n 0, 1) := by decide +kernel
theorem dX1_doPush_1 : decode cX1_doPush 1 = .ok (.getfield 28, 3) := by decide +kernel
theorem dX1_doPush_4 : decode cX1_doPush 4 = .ok (.aload_n 1, 1) := by decide +kernel
theorem dX1_doPush_5 : decode cX1_doPush 5 = .ok (.getfield 112, 3) := by decide +kernel
theorem dX1_doPush_8 : decode cX1_doPush 8 = .ok (.invokevirtual 116, 3) := by decide +kernel
theorem dX1_doPush_11 : decode cX1_doPush 11 = .ok (.istore_n 2, 1) := by decide +kernel
theorem dX1_doPush_12 : decode cX1_doPush 12 = .ok (.aload_n 0, 1) := by decide +kernel
theorem dX1_doPush_13 : decode cX1_doPush 13 = .ok (.getfield 65, 3) := by decide +kernel
theorem dX1_doPush_16 : decode cX1_doPush 16 = .ok (.ifCond .ne 7, 3) := by decide +kernel
theorem dX1_doPush_19 : decode cX1_doPush 19 = .ok (.iload_n 2, 1) := by decide +kernel
theorem dX1_doPush_20 : decode cX1_doPush 20 = .ok (.ifCond .ge 5, 3) := by decide +kernel
theorem dX1_doPush_23 : decode cX1_doPush 23 = .ok (.iconst 0, 1) := by decide +kernel
theorem dX1_doPush_24 : decode cX1_doPush 24 = .ok (.ireturn, 1) := by decide +kernel
theorem dX1_doPush_25 : decode cX1_doPush 25 = .ok (.aload_n 0, 1) := by decide +kernel
theorem dX1_doPush_26 : decode cX1_doPush 26 = .ok (.getfield 28, 3) := by decide +kernel
theorem dX1_doPush_29 : decode cX1_doPush 29 = .ok (.getfield 38, 3) := by decide +kernel
theorem dX1_doPush_32 : decode cX1_doPush 32 = .ok (.iload_n 2, 1) := by decide +kernel
theorem dX1_doPush_33 : decode cX1_doPush 33 = .ok (.aaload, 1) := by decide +kernel
theorem dX1_doPush_34 : decode cX1_doPush 34 = .ok (.astore_n 3, 1) := by decide +kernel
theorem dX1_doPush_35 : decode cX1_doPush 35 = .ok (.aload_n 3, 1) := by decide +kernel
theorem dX1_doPush_36 : decode cX1_doPush 36 = .ok (.getfield 94, 3) := by decide +kernel
theorem dX1_doPush_39 : decode cX1_doPush 39 = .ok (.ifCond .ne 17, 3) := by decide +kernel
theorem dX1_doPush_42 : decode cX1_doPush 42 = .ok (.aload_n 3, 1) := by decide +kernel
theorem dX1_doPush_43 : decode cX1_doPush 43 = .ok (.getfield 120, 3) := by decide +kernel
theorem dX1_doPush_46 : decode cX1_doPush 46 = .ok (.aload_n 1, 1) := by decide +kernel
theorem dX1_doPush_47 : decode cX1_doPush 47 = .ok (.getfield 123, 3) := by decide +kernel
theorem dX1_doPush_50 : decode cX1_doPush 50 = .ok (.getfield 126, 3) := by decide +kernel
theorem dX1_doPush_53 : decode cX1_doPush 53 = .ok (.if_icmp .eq 5, 3) := by decide +kernel
theorem dX1_doPush_56 : decode cX1_doPush 56 = .ok (.iconst 0, 1) := by decide +kernel
theorem dX1_doPush_57 : decode cX1_doPush 57 = .ok (.ireturn, 1) := by decide +kernel
theorem dX1_doPush_58 : decode cX1_doPush 58 = .ok (.aload_n 0, 1) := by decide +kernel
theorem dX1_doPush_59 : decode cX1_doPush 59 = .ok (.dup, 1) := by decide +kernel
theorem dX1_doPush_60 : decode cX1_doPush 60 = .ok (.getfield 69, 3) := by decide +kernel
theorem dX1_doPush_63 : decode cX1_doPush 63 = .ok (.iconst 1, 1) := by decide +kernel
theorem dX1_doPush_64 : decode cX1_doPush 64 = .ok (.iadd, 1) := by decide +kernel
theorem dX1_doPush_65 : decode cX1_doPush 65 = .ok (.putfield 69, 3) := by decide +kernel
theorem dX1_doPush_68 : decode cX1_doPush 68 = .ok (.aload_n 3, 1) := by decide +kernel
theorem dX1_doPush_69 : decode cX1_doPush 69 = .ok (.aload_n 3, 1) := by decide +kernel
theorem dX1_doPush_70 : decode cX1_doPush 70 = .ok (.getfield 105, 3) := by decide +kernel
theorem dX1_doPush_73 : decode cX1_doPush 73 = .ok (.aload_n 1, 1) := by decide +kernel
theorem dX1_doPush_74 : decode cX1_doPush 74 = .ok (.getfield 123, 3) := by decide +kernel
theorem dX1_doPush_77 : decode cX1_doPush 77 = .ok (.getfield 127, 3) := by decide +kernel
theorem dX1_doPush_80 : decode cX1_doPush 80 = .ok (.aload_n 3, 1) := by decide +kernel
theorem dX1_doPush_81 : decode cX1_doPush 81 = .ok (.getfield 130, 3) := by decide +kernel
theorem dX1_doPush_84 : decode cX1_doPush 84 = .ok (.isub, 1) := by decide +kernel
theorem dX1_doPush_85 : decode cX1_doPush 85 = .ok (.invokestatic 133, 3) := by decide +kernel
theorem dX1_doPush_88 : decode cX1_doPush 88 = .ok (.putfield 105, 3) := by decide +kernel
theorem dX1_doPush_91 : decode cX1_doPush 91 = .ok (.aload_n 0, 1) := by decide +kernel
theorem dX1_doPush_92 : decode cX1_doPush 92 = .ok (.iload_n 2, 1) := by decide +kernel
theorem dX1_doPush_93 : decode cX1_doPush 93 = .ok (.aload_n 1, 1) := by decide +kernel
theorem dX1_doPush_94 : decode cX1_doPush 94 = .ok (.getfield 123, 3) := by decide +kernel
theorem dX1_doPush_97 : decode cX1_doPush 97 = .ok (.invokevirtual 139, 3) := by decide +kernel
theorem dX1_doPush_100 : decode cX1_doPush 100 = .ok (.iconst 1, 1) := by decide +kernel
theorem dX1_doPush_101 : decode cX1_doPush 101 = .ok (.ireturn, 1) := by decide +kernel
theorem dX1_doRelease_0 : decode cX1_doRelease 0 = .ok (.iload_n 1, 1) := by decide +kernel
theorem dX1_doRelease_1 : decode cX1_doRelease 1 = .ok (.ifCond .lt 11, 3) := by decide +kernel
theorem dX1_doRelease_4 : decode cX1_doRelease 4 = .ok (.iload_n 1, 1) := by decide +kernel
theorem dX1_doRelease_5 : decode cX1_doRelease 5 = .ok (.aload_n 0, 1) := by decide +kernel
theorem dX1_doRelease_6 : decode cX1_doRelease 6 = .ok (.getfield 59, 3) := by decide +kernel
theorem dX1_doRelease_9 : decode cX1_doRelease 9 = .ok (.if_icmp .lt 5, 3) := by decide +kernel
theorem dX1_doRelease_12 : decode cX1_doRelease 12 = .ok (.iconst 0, 1) := by decide +kernel
theorem dX1_doRelease_13 : decode cX1_doRelease 13 = .ok (.ireturn, 1) := by decide +kernel
theorem dX1_doRelease_14 : decode cX1_doRelease 14 = .ok (.aload_n 0, 1) := by decide +kernel
theorem dX1_doRelease_15 : decode cX1_doRelease 15 = .ok (.getfield 18, 3) := by decide +kernel
theorem dX1_doRelease_18 : decode cX1_doRelease 18 = .ok (.aload_n 0, 1) := by decide +kernel
theorem dX1_doRelease_19 : decode cX1_doRelease 19 = .ok (.getfield 11, 3) := by decide +kernel
theorem dX1_doRelease_22 : decode cX1_doRelease 22 = .ok (.iload_n 1, 1) := by decide +kernel
theorem dX1_doRelease_23 : decode cX1_doRelease 23 = .ok (.aaload, 1) := by decide +kernel
theorem dX1_doRelease_24 : decode cX1_doRelease 24 = .ok (.invokevirtual 143, 3) := by decide +kernel
theorem dX1_doRelease_27 : decode cX1_doRelease 27 = .ok (.aload_n 0, 1) := by decide +kernel
theorem dX1_doRelease_28 : decode cX1_doRelease 28 = .ok (.getfield 11, 3) := by decide +kernel
theorem dX1_doRelease_31 : decode cX1_doRelease 31 = .ok (.iload_n 1, 1) := by decide +kernel
theorem dX1_doRelease_32 : decode cX1_doRelease 32 = .ok (.aaload, 1) := by decide +kernel
theorem dX1_doRelease_33 : decode cX1_doRelease 33 = .ok (.getfield 147, 3) := by decide +kernel
theorem dX1_doRelease_36 : decode cX1_doRelease 36 = .ok (.istore_n 2, 1) := by decide +kernel
theorem dX1_doRelease_37 : decode cX1_doRelease 37 = .ok (.aload_n 0, 1) := by decide +kernel
theorem dX1_doRelease_38 : decode cX1_doRelease 38 = .ok (.getfield 11, 3) := by decide +kernel
theorem dX1_doRelease_41 : decode cX1_doRelease 41 = .ok (.iload_n 1, 1) := by decide +kernel
theorem dX1_doRelease_42 : decode cX1_doRelease 42 = .ok (.aaload, 1) := by decide +kernel
theorem dX1_doRelease_43 : decode cX1_doRelease 43 = .ok (.getfield 150, 3) := by decide +kernel
theorem dX1_doRelease_46 : decode cX1_doRelease 46 = .ok (.istore_n 3, 1) := by decide +kernel
theorem dX1_doRelease_47 : decode cX1_doRelease 47 = .ok (.aload_n 0, 1) := by decide +kernel
theorem dX1_doRelease_48 : decode cX1_doRelease 48 = .ok (.iload_n 1, 1) := by decide +kernel
theorem dX1_doRelease_49 : decode cX1_doRelease 49 = .ok (.invokevirtual 91, 3) := by decide +kernel
theorem dX1_doRelease_52 : decode cX1_doRelease 52 = .ok (.pop, 1) := by decide +kernel
theorem dX1_doRelease_53 : decode cX1_doRelease 53 = .ok (.iload_n 2, 1) := by decide +kernel
theorem dX1_doRelease_54 : decode cX1_doRelease 54 = .ok (.ifCond .lt 14, 3) := by decide +kernel
theorem dX1_doRelease_57 : decode cX1_doRelease 57 = .ok (.iload_n 2, 1) := by decide +kernel
theorem dX1_doRelease_58 : decode cX1_doRelease 58 = .ok (.aload_n 0, 1) := by decide +kernel
theorem dX1_doRelease_59 : decode cX1_doRelease 59 = .ok (.getfield 28, 3) := by decide +kernel
theorem dX1_doRelease_62 : decode cX1_doRelease 62 = .ok (.getfield 32, 3) := by decide +kernel
theorem dX1_doRelease_65 : decode cX1_doRelease 65 = .ok (.if_icmp .lt 5, 3) := by decide +kernel
theorem dX1_doRelease_68 : decode cX1_doRelease 68 = .ok (.iconst 1, 1) := by decide +kernel
theorem dX1_doRelease_69 : decode cX1_doRelease 69 = .ok (.ireturn, 1) := by decide +kernel
theorem dX1_doRelease_70 : decode cX1_doRelease 70 = .ok (.iload_n 3, 1) := by decide +kernel
theorem dX1_doRelease_71 : decode cX1_doRelease 71 = .ok (.iconst (-1), 1) := by decide +kernel
theorem dX1_doRelease_72 : decode cX1_doRelease 72 = .ok (.if_icmp .eq 15, 3) := by decide +kernel
theorem dX1_doRelease_75 : decode cX1_doRelease 75 = .ok (.aload_n 0, 1) := by decide +kernel
theorem dX1_doRelease_76 : decode cX1_doRelease 76 = .ok (.iload_n 2, 1) := by decide +kernel
theorem dX1_doRelease_77 : decode cX1_doRelease 77 = .ok (.aload_n 0, 1) := by decide +kernel
theorem dX1_doRelease_78 : decode cX1_doRelease 78 = .ok (.getfield 18, 3) := by decide +kernel
theorem dX1_doRelease_81 : decode cX1_doRelease 81 = .ok (.invokevirtual 153, 3) := by decide +kernel
theorem dX1_doRelease_84 : decode cX1_doRelease 84 = .ok (.goto 21, 3) := by decide +kernel
theorem dX1_doRelease_87 : decode cX1_doRelease 87 = .ok (.aload_n 0, 1) := by decide +kernel
theorem dX1_doRelease_88 : decode cX1_doRelease 88 = .ok (.iload_n 2, 1) := by decide +kernel
theorem dX1_doRelease_89 : decode cX1_doRelease 89 = .ok (.iconst 1, 1) := by decide +kernel
theorem dX1_doRelease_90 : decode cX1_doRelease 90 = .ok (.invokevirtual 156, 3) := by decide +kernel
theorem dX1_doRelease_93 : decode cX1_doRelease 93 = .ok (.ifCond .eq 12, 3) := by decide +kernel
theorem dX1_doRelease_96 : decode cX1_doRelease 96 = .ok (.aload_n 0, 1) := by decide +kernel
theorem dX1_doRelease_97 : decode cX1_doRelease 97 = .ok (.iload_n 2, 1) := by decide +kernel
theorem dX1_doRelease_98 : decode cX1_doRelease 98 = .ok (.aload_n 0, 1) := by decide +kernel
theorem dX1_doRelease_99 : decode cX1_doRelease 99 = .ok (.getfield 25, 3) := by decide +kernel
theorem dX1_doRelease_102 : decode cX1_doRelease 102 = .ok (.invokevirtual 139, 3) := by decide +kernel
theorem dX1_doRelease_105 : decode cX1_doRelease 105 = .ok (.iconst 1, 1) := by decide +kernel
theorem dX1_doRelease_106 : decode cX1_doRelease 106 = .ok (.ireturn, 1) := by decide +kernel
theorem dX1_removeHeld_0 : decode cX1_removeHeld 0 = .ok (.iload_n 1, 1) := by decide +kernel
theorem dX1_removeHeld_1 : decode cX1_removeHeld 1 = .ok (.ifCond .lt 11, 3) := by decide +kernel
theorem dX1_removeHeld_4 : decode cX1_removeHeld 4 = .ok (.iload_n 1, 1) := by decide +kernel
theorem dX1_removeHeld_5 : decode cX1_removeHeld 5 = .ok (.aload_n 0, 1) := by decide +kernel
theorem dX1_removeHeld_6 : decode cX1_removeHeld 6 = .ok (.getfield 59, 3) := by decide +kernel
theorem dX1_removeHeld_9 : decode cX1_removeHeld 9 = .ok (.if_icmp .lt 5, 3) := by decide +kernel
theorem dX1_removeHeld_12 : decode cX1_removeHeld 12 = .ok (.iconst 0, 1) := by decide +kernel
theorem dX1_removeHeld_13 : decode cX1_removeHeld 13 = .ok (.ireturn, 1) := by decide +kernel
theorem dX1_removeHeld_14 : decode cX1_removeHeld 14 = .ok (.aload_n 0, 1) := by decide +kernel
theorem dX1_removeHeld_15 : decode cX1_removeHeld 15 = .ok (.getfield 11, 3) := by decide +kernel
theorem dX1_removeHeld_18 : decode cX1_removeHeld 18 = .ok (.iload_n 1, 1) := by decide +kernel
theorem dX1_removeHeld_19 : decode cX1_removeHeld 19 = .ok (.aaload, 1) := by decide +kernel
theorem dX1_removeHeld_20 : decode cX1_removeHeld 20 = .ok (.astore_n 2, 1) := by decide +kernel
theorem dX1_removeHeld_21 : decode cX1_removeHeld 21 = .ok (.iload_n 1, 1) := by decide +kernel
theorem dX1_removeHeld_22 : decode cX1_removeHeld 22 = .ok (.istore_n 3, 1) := by decide +kernel
theorem dX1_removeHeld_23 : decode cX1_removeHeld 23 = .ok (.iload_n 3, 1) := by decide +kernel
theorem dX1_removeHeld_24 : decode cX1_removeHeld 24 = .ok (.aload_n 0, 1) := by decide +kernel
theorem dX1_removeHeld_25 : decode cX1_removeHeld 25 = .ok (.getfield 59, 3) := by decide +kernel
theorem dX1_removeHeld_28 : decode cX1_removeHeld 28 = .ok (.iconst 1, 1) := by decide +kernel
theorem dX1_removeHeld_29 : decode cX1_removeHeld 29 = .ok (.isub, 1) := by decide +kernel
theorem dX1_removeHeld_30 : decode cX1_removeHeld 30 = .ok (.if_icmp .ge 23, 3) := by decide +kernel
theorem dX1_removeHeld_33 : decode cX1_removeHeld 33 = .ok (.aload_n 0, 1) := by decide +kernel
theorem dX1_removeHeld_34 : decode cX1_removeHeld 34 = .ok (.getfield 11, 3) := by decide +kernel
theorem dX1_removeHeld_37 : decode cX1_removeHeld 37 = .ok (.iload_n 3, 1) := by decide +kernel
theorem dX1_removeHeld_38 : decode cX1_removeHeld 38 = .ok (.aload_n 0, 1) := by decide +kernel
theorem dX1_removeHeld_39 : decode cX1_removeHeld 39 = .ok (.getfield 11, 3) := by decide +kernel
theorem dX1_removeHeld_42 : decode cX1_removeHeld 42 = .ok (.iload_n 3, 1) := by decide +kernel
theorem dX1_removeHeld_43 : decode cX1_removeHeld 43 = .ok (.iconst 1, 1) := by decide +kernel
theorem dX1_removeHeld_44 : decode cX1_removeHeld 44 = .ok (.iadd, 1) := by decide +kernel
theorem dX1_removeHeld_45 : decode cX1_removeHeld 45 = .ok (.aaload, 1) := by decide +kernel
theorem dX1_removeHeld_46 : decode cX1_removeHeld 46 = .ok (.aastore, 1) := by decide +kernel
theorem dX1_removeHeld_47 : decode cX1_removeHeld 47 = .ok (.iinc 3 1, 3) := by decide +kernel
theorem dX1_removeHeld_50 : decode cX1_removeHeld 50 = .ok (.goto (-27), 3) := by decide +kernel
theorem dX1_removeHeld_53 : decode cX1_removeHeld 53 = .ok (.aload_n 0, 1) := by decide +kernel
theorem dX1_removeHeld_54 : decode cX1_removeHeld 54 = .ok (.getfield 11, 3) := by decide +kernel
theorem dX1_removeHeld_57 : decode cX1_removeHeld 57 = .ok (.aload_n 0, 1) := by decide +kernel
theorem dX1_removeHeld_58 : decode cX1_removeHeld 58 = .ok (.getfield 59, 3) := by decide +kernel
theorem dX1_removeHeld_61 : decode cX1_removeHeld 61 = .ok (.iconst 1, 1) := by decide +kernel
theorem dX1_removeHeld_62 : decode cX1_removeHeld 62 = .ok (.isub, 1) := by decide +kernel
theorem dX1_removeHeld_63 : decode cX1_removeHeld 63 = .ok (.aload_n 2, 1) := by decide +kernel
theorem dX1_removeHeld_64 : decode cX1_removeHeld 64 = .ok (.aastore, 1) := by decide +kernel
theorem dX1_removeHeld_65 : decode cX1_removeHeld 65 = .ok (.aload_n 0, 1) := by decide +kernel
theorem dX1_removeHeld_66 : decode cX1_removeHeld 66 = .ok (.dup, 1) := by decide +kernel
theorem dX1_removeHeld_67 : decode cX1_removeHeld 67 = .ok (.getfield 59, 3) := by decide +kernel
theorem dX1_removeHeld_70 : decode cX1_removeHeld 70 = .ok (.iconst 1, 1) := by decide +kernel
theorem dX1_removeHeld_71 : decode cX1_removeHeld 71 = .ok (.isub, 1) := by decide +kernel
theorem dX1_removeHeld_72 : decode cX1_removeHeld 72 = .ok (.putfield 59, 3) := by decide +kernel
theorem dX1_removeHeld_75 : decode cX1_removeHeld 75 = .ok (.iconst 1, 1) := by decide +kernel
theorem dX1_removeHeld_76 : decode cX1_removeHeld 76 = .ok (.ireturn, 1) := by decide +kernel
theorem dX1_give_0 : decode cX1_give 0 = .ok (.iconst 0, 1) := by decide +kernel
theorem dX1_give_1 : decode cX1_give 1 = .ok (.istore_n 3, 1) := by decide +kernel
theorem dX1_give_2 : decode cX1_give 2 = .ok (.iload_n 3, 1) := by decide +kernel
theorem dX1_give_3 : decode cX1_give 3 = .ok (.aload_n 0, 1) := by decide +kernel
theorem dX1_give_4 : decode cX1_give 4 = .ok (.getfield 28, 3) := by decide +kernel
theorem dX1_give_7 : decode cX1_give 7 = .ok (.getfield 47, 3) := by decide +kernel
theorem dX1_give_10 : decode cX1_give 10 = .ok (.if_icmp .ge 101, 3) := by decide +kernel
theorem dX1_give_13 : decode cX1_give 13 = .ok (.aload_n 0, 1) := by decide +kernel
theorem dX1_give_14 : decode cX1_give 14 = .ok (.getfield 28, 3) := by decide +kernel
theorem dX1_give_17 : decode cX1_give 17 = .ok (.getfield 50, 3) := by decide +kernel
theorem dX1_give_20 : decode cX1_give 20 = .ok (.iload_n 3, 1) := by decide +kernel
theorem dX1_give_21 : decode cX1_give 21 = .ok (.aaload, 1) := by decide +kernel
theorem dX1_give_22 : decode cX1_give 22 = .ok (.astore 4, 2) := by decide +kernel
theorem dX1_give_24 : decode cX1_give 24 = .ok (.aload 4, 2) := by decide +kernel
theorem dX1_give_26 : decode cX1_give 26 = .ok (.getfield 160, 3) := by decide +kernel
theorem dX1_give_29 : decode cX1_give 29 = .ok (.iload_n 1, 1) := by decide +kernel
theorem dX1_give_30 : decode cX1_give 30 = .ok (.if_icmp .ne 75, 3) := by decide +kernel
theorem dX1_give_33 : decode cX1_give 33 = .ok (.aload_n 0, 1) := by decide +kernel
theorem dX1_give_34 : decode cX1_give 34 = .ok (.getfield 28, 3) := by decide +kernel
theorem dX1_give_37 : decode cX1_give 37 = .ok (.aload 4, 2) := by decide +kernel
theorem dX1_give_39 : decode cX1_give 39 = .ok (.getfield 161, 3) := by decide +kernel
theorem dX1_give_42 : decode cX1_give 42 = .ok (.aload 4, 2) := by decide +kernel
theorem dX1_give_44 : decode cX1_give 44 = .ok (.getfield 164, 3) := by decide +kernel
theorem dX1_give_47 : decode cX1_give 47 = .ok (.aload_n 2, 1) := by decide +kernel
theorem dX1_give_48 : decode cX1_give 48 = .ok (.invokevirtual 167, 3) := by decide +kernel
theorem dX1_give_51 : decode cX1_give 51 = .ok (.lconst 0, 1) := by decide +kernel
theorem dX1_give_52 : decode cX1_give 52 = .ok (.lcmp, 1) := by decide +kernel
theorem dX1_give_53 : decode cX1_give 53 = .ok (.ifCond .eq 6, 3) := by decide +kernel
theorem dX1_give_56 : decode cX1_give 56 = .ok (.goto 49, 3) := by decide +kernel
theorem dX1_give_59 : decode cX1_give 59 = .ok (.aload 4, 2) := by decide +kernel
theorem dX1_give_61 : decode cX1_give 61 = .ok (.dup, 1) := by decide +kernel
theorem dX1_give_62 : decode cX1_give 62 = .ok (.getfield 54, 3) := by decide +kernel
theorem dX1_give_65 : decode cX1_give 65 = .ok (.iconst 1, 1) := by decide +kernel
theorem dX1_give_66 : decode cX1_give 66 = .ok (.iadd, 1) := by decide +kernel
theorem dX1_give_67 : decode cX1_give 67 = .ok (.putfield 54, 3) := by decide +kernel
theorem dX1_give_70 : decode cX1_give 70 = .ok (.aload 4, 2) := by decide +kernel
theorem dX1_give_72 : decode cX1_give 72 = .ok (.getfield 171, 3) := by decide +kernel
theorem dX1_give_75 : decode cX1_give 75 = .ok (.sipush 149, 3) := by decide +kernel
theorem dX1_give_78 : decode cX1_give 78 = .ok (.if_icmp .ne 8, 3) := by decide +kernel
theorem dX1_give_81 : decode cX1_give 81 = .ok (.aload_n 0, 1) := by decide +kernel
theorem dX1_give_82 : decode cX1_give 82 = .ok (.iconst 1, 1) := by decide +kernel
theorem dX1_give_83 : decode cX1_give 83 = .ok (.putfield 65, 3) := by decide +kernel
theorem dX1_give_86 : decode cX1_give 86 = .ok (.aload 4, 2) := by decide +kernel
theorem dX1_give_88 : decode cX1_give 88 = .ok (.getfield 171, 3) := by decide +kernel
theorem dX1_give_91 : decode cX1_give 91 = .ok (.sipush 147, 3) := by decide +kernel
theorem dX1_give_94 : decode cX1_give 94 = .ok (.if_icmp .eq 10, 3) := by decide +kernel
theorem dX1_give_97 : decode cX1_give 97 = .ok (.aload_n 0, 1) := by decide +kernel
theorem dX1_give_98 : decode cX1_give 98 = .ok (.iload_n 1, 1) := by decide +kernel
theorem dX1_give_99 : decode cX1_give 99 = .ok (.iload_n 3, 1) := by decide +kernel
theorem dX1_give_100 : decode cX1_give 100 = .ok (.aload_n 2, 1) := by decide +kernel
theorem dX1_give_101 : decode cX1_give 101 = .ok (.invokevirtual 174, 3) := by decide +kernel
theorem dX1_give_104 : decode cX1_give 104 = .ok (.return_, 1) := by decide +kernel
theorem dX1_give_105 : decode cX1_give 105 = .ok (.iinc 3 1, 3) := by decide +kernel
theorem dX1_give_108 : decode cX1_give 108 = .ok (.goto (-106), 3) := by decide +kernel
theorem dX1_give_111 : decode cX1_give 111 = .ok (.aload_n 0, 1) := by decide +kernel
theorem dX1_give_112 : decode cX1_give 112 = .ok (.iload_n 1, 1) := by decide +kernel
theorem dX1_give_113 : decode cX1_give 113 = .ok (.aload_n 2, 1) := by decide +kernel
theorem dX1_give_114 : decode cX1_give 114 = .ok (.invokevirtual 153, 3) := by decide +kernel
theorem dX1_give_117 : decode cX1_give 117 = .ok (.return_, 1) := by decide +kernel
theorem dX1_accept_0 : decode cX1_accept 0 = .ok (.aload_n 0, 1) := by decide +kernel
theorem dX1_accept_1 : decode cX1_accept 1 = .ok (.getfield 28, 3) := by decide +kernel
theorem dX1_accept_4 : decode cX1_accept 4 = .ok (.getfield 38, 3) := by decide +kernel
theorem dX1_accept_7 : decode cX1_accept 7 = .ok (.iload_n 1, 1) := by decide +kernel
theorem dX1_accept_8 : decode cX1_accept 8 = .ok (.aaload, 1) := by decide +kernel
theorem dX1_accept_9 : decode cX1_accept 9 = .ok (.getfield 178, 3) := by decide +kernel
theorem dX1_accept_12 : decode cX1_accept 12 = .ok (.aload_n 2, 1) := by decide +kernel
theorem dX1_accept_13 : decode cX1_accept 13 = .ok (.invokevirtual 182, 3) := by decide +kernel
theorem dX1_accept_16 : decode cX1_accept 16 = .ok (.ifCond .eq 16, 3) := by decide +kernel
theorem dX1_accept_19 : decode cX1_accept 19 = .ok (.aload_n 0, 1) := by decide +kernel
theorem dX1_accept_20 : decode cX1_accept 20 = .ok (.dup, 1) := by decide +kernel
theorem dX1_accept_21 : decode cX1_accept 21 = .ok (.getfield 72, 3) := by decide +kernel
theorem dX1_accept_24 : decode cX1_accept 24 = .ok (.iconst 1, 1) := by decide +kernel
theorem dX1_accept_25 : decode cX1_accept 25 = .ok (.iadd, 1) := by decide +kernel
theorem dX1_accept_26 : decode cX1_accept 26 = .ok (.putfield 72, 3) := by decide +kernel
theorem dX1_accept_29 : decode cX1_accept 29 = .ok (.goto 13, 3) := by decide +kernel
theorem dX1_accept_32 : decode cX1_accept 32 = .ok (.aload_n 0, 1) := by decide +kernel
theorem dX1_accept_33 : decode cX1_accept 33 = .ok (.dup, 1) := by decide +kernel
theorem dX1_accept_34 : decode cX1_accept 34 = .ok (.getfield 62, 3) := by decide +kernel
theorem dX1_accept_37 : decode cX1_accept 37 = .ok (.iconst 1, 1) := by decide +kernel
theorem dX1_accept_38 : decode cX1_accept 38 = .ok (.iadd, 1) := by decide +kernel
theorem dX1_accept_39 : decode cX1_accept 39 = .ok (.putfield 62, 3) := by decide +kernel
theorem dX1_accept_42 : decode cX1_accept 42 = .ok (.return_, 1) := by decide +kernel
theorem dX1_hold_0 : decode cX1_hold 0 = .ok (.aload_n 0, 1) := by decide +kernel
theorem dX1_hold_1 : decode cX1_hold 1 = .ok (.getfield 59, 3) := by decide +kernel
theorem dX1_hold_4 : decode cX1_hold 4 = .ok (.aload_n 0, 1) := by decide +kernel
theorem dX1_hold_5 : decode cX1_hold 5 = .ok (.getfield 11, 3) := by decide +kernel
theorem dX1_hold_8 : decode cX1_hold 8 = .ok (.arraylength, 1) := by decide +kernel
theorem dX1_hold_9 : decode cX1_hold 9 = .ok (.if_icmp .lt 14, 3) := by decide +kernel
theorem dX1_hold_12 : decode cX1_hold 12 = .ok (.aload_n 0, 1) := by decide +kernel
theorem dX1_hold_13 : decode cX1_hold 13 = .ok (.dup, 1) := by decide +kernel
theorem dX1_hold_14 : decode cX1_hold 14 = .ok (.getfield 62, 3) := by decide +kernel
theorem dX1_hold_17 : decode cX1_hold 17 = .ok (.iconst 1, 1) := by decide +kernel
theorem dX1_hold_18 : decode cX1_hold 18 = .ok (.iadd, 1) := by decide +kernel
theorem dX1_hold_19 : decode cX1_hold 19 = .ok (.putfield 62, 3) := by decide +kernel
theorem dX1_hold_22 : decode cX1_hold 22 = .ok (.return_, 1) := by decide +kernel
theorem dX1_hold_23 : decode cX1_hold 23 = .ok (.aload_n 0, 1) := by decide +kernel
theorem dX1_hold_24 : decode cX1_hold 24 = .ok (.getfield 11, 3) := by decide +kernel
theorem dX1_hold_27 : decode cX1_hold 27 = .ok (.aload_n 0, 1) := by decide +kernel
theorem dX1_hold_28 : decode cX1_hold 28 = .ok (.getfield 59, 3) := by decide +kernel
theorem dX1_hold_31 : decode cX1_hold 31 = .ok (.aaload, 1) := by decide +kernel
theorem dX1_hold_32 : decode cX1_hold 32 = .ok (.aload_n 3, 1) := by decide +kernel
theorem dX1_hold_33 : decode cX1_hold 33 = .ok (.invokevirtual 143, 3) := by decide +kernel
theorem dX1_hold_36 : decode cX1_hold 36 = .ok (.aload_n 0, 1) := by decide +kernel
theorem dX1_hold_37 : decode cX1_hold 37 = .ok (.getfield 11, 3) := by decide +kernel
theorem dX1_hold_40 : decode cX1_hold 40 = .ok (.aload_n 0, 1) := by decide +kernel
theorem dX1_hold_41 : decode cX1_hold 41 = .ok (.getfield 59, 3) := by decide +kernel
theorem dX1_hold_44 : decode cX1_hold 44 = .ok (.aaload, 1) := by decide +kernel
theorem dX1_hold_45 : decode cX1_hold 45 = .ok (.iload_n 1, 1) := by decide +kernel
theorem dX1_hold_46 : decode cX1_hold 46 = .ok (.putfield 147, 3) := by decide +kernel
theorem dX1_hold_49 : decode cX1_hold 49 = .ok (.aload_n 0, 1) := by decide +kernel
theorem dX1_hold_50 : decode cX1_hold 50 = .ok (.getfield 11, 3) := by decide +kernel
theorem dX1_hold_53 : decode cX1_hold 53 = .ok (.aload_n 0, 1) := by decide +kernel
theorem dX1_hold_54 : decode cX1_hold 54 = .ok (.getfield 59, 3) := by decide +kernel
theorem dX1_hold_57 : decode cX1_hold 57 = .ok (.aaload, 1) := by decide +kernel
theorem dX1_hold_58 : decode cX1_hold 58 = .ok (.iload_n 2, 1) := by decide +kernel
theorem dX1_hold_59 : decode cX1_hold 59 = .ok (.putfield 150, 3) := by decide +kernel
theorem dX1_hold_62 : decode cX1_hold 62 = .ok (.aload_n 0, 1) := by decide +kernel
theorem dX1_hold_63 : decode cX1_hold 63 = .ok (.dup, 1) := by decide +kernel
theorem dX1_hold_64 : decode cX1_hold 64 = .ok (.getfield 59, 3) := by decide +kernel
theorem dX1_hold_67 : decode cX1_hold 67 = .ok (.iconst 1, 1) := by decide +kernel
theorem dX1_hold_68 : decode cX1_hold 68 = .ok (.iadd, 1) := by decide +kernel
theorem dX1_hold_69 : decode cX1_hold 69 = .ok (.putfield 59, 3) := by decide +kernel
theorem dX1_hold_72 : decode cX1_hold 72 = .ok (.return_, 1) := by decide +kernel
theorem dX1_lookAtNewRows_0 : decode cX1_lookAtNewRows 0 = .ok (.aload_n 0, 1) := by decide +kernel
theorem dX1_lookAtNewRows_1 : decode cX1_lookAtNewRows 1 = .ok (.aload_n 2, 1) := by decide +kernel
theorem dX1_lookAtNewRows_2 : decode cX1_lookAtNewRows 2 = .ok (.iload_n 3, 1) := by decide +kernel
theorem dX1_lookAtNewRows_3 : decode cX1_lookAtNewRows 3 = .ok (.invokevirtual 188, 3) := by decide +kernel
theorem dX1_lookAtNewRows_6 : decode cX1_lookAtNewRows 6 = .ok (.astore 4, 2) := by decide +kernel
theorem dX1_lookAtNewRows_8 : decode cX1_lookAtNewRows 8 = .ok (.aload 4, 2) := by decide +kernel
theorem dX1_lookAtNewRows_10 : decode cX1_lookAtNewRows 10 = .ok (.ifnonnull 4, 3) := by decide +kernel
theorem dX1_lookAtNewRows_13 : decode cX1_lookAtNewRows 13 = .ok (.return_, 1) := by decide +kernel
theorem dX1_lookAtNewRows_14 : decode cX1_lookAtNewRows 14 = .ok (.aload_n 2, 1) := by decide +kernel
theorem dX1_lookAtNewRows_15 : decode cX1_lookAtNewRows 15 = .ok (.getfield 192, 3) := by decide +kernel
theorem dX1_lookAtNewRows_18 : decode cX1_lookAtNewRows 18 = .ok (.iload_n 3, 1) := by decide +kernel
theorem dX1_lookAtNewRows_19 : decode cX1_lookAtNewRows 19 = .ok (.iaload, 1) := by decide +kernel
theorem dX1_lookAtNewRows_20 : decode cX1_lookAtNewRows 20 = .ok (.istore 5, 2) := by decide +kernel
theorem dX1_lookAtNewRows_22 : decode cX1_lookAtNewRows 22 = .ok (.iload 5, 2) := by decide +kernel
theorem dX1_lookAtNewRows_24 : decode cX1_lookAtNewRows 24 = .ok (.aload 4, 2) := by decide +kernel
theorem dX1_lookAtNewRows_26 : decode cX1_lookAtNewRows 26 = .ok (.getfield 178, 3) := by decide +kernel
theorem dX1_lookAtNewRows_29 : decode cX1_lookAtNewRows 29 = .ok (.getfield 196, 3) := by decide +kernel
theorem dX1_lookAtNewRows_32 : decode cX1_lookAtNewRows 32 = .ok (.if_icmp .ge 74, 3) := by decide +kernel
theorem dX1_lookAtNewRows_35 : decode cX1_lookAtNewRows 35 = .ok (.aload 4, 2) := by decide +kernel
theorem dX1_lookAtNewRows_37 : decode cX1_lookAtNewRows 37 = .ok (.getfield 178, 3) := by decide +kernel
theorem dX1_lookAtNewRows_40 : decode cX1_lookAtNewRows 40 = .ok (.iload 5, 2) := by decide +kernel
theorem dX1_lookAtNewRows_42 : decode cX1_lookAtNewRows 42 = .ok (.aload_n 0, 1) := by decide +kernel
theorem dX1_lookAtNewRows_43 : decode cX1_lookAtNewRows 43 = .ok (.getfield 18, 3) := by decide +kernel
theorem dX1_lookAtNewRows_46 : decode cX1_lookAtNewRows 46 = .ok (.invokevirtual 199, 3) := by decide +kernel
theorem dX1_lookAtNewRows_49 : decode cX1_lookAtNewRows 49 = .ok (.aload_n 2, 1) := by decide +kernel
theorem dX1_lookAtNewRows_50 : decode cX1_lookAtNewRows 50 = .ok (.getfield 94, 3) := by decide +kernel
theorem dX1_lookAtNewRows_53 : decode cX1_lookAtNewRows 53 = .ok (.iconst 5, 1) := by decide +kernel
theorem dX1_lookAtNewRows_54 : decode cX1_lookAtNewRows 54 = .ok (.if_icmp .ne 21, 3) := by decide +kernel
theorem dX1_lookAtNewRows_57 : decode cX1_lookAtNewRows 57 = .ok (.aload_n 0, 1) := by decide +kernel
theorem dX1_lookAtNewRows_58 : decode cX1_lookAtNewRows 58 = .ok (.iload_n 1, 1) := by decide +kernel
theorem dX1_lookAtNewRows_59 : decode cX1_lookAtNewRows 59 = .ok (.aload_n 2, 1) := by decide +kernel
theorem dX1_lookAtNewRows_60 : decode cX1_lookAtNewRows 60 = .ok (.iload_n 3, 1) := by decide +kernel
theorem dX1_lookAtNewRows_61 : decode cX1_lookAtNewRows 61 = .ok (.ifCond .ne 7, 3) := by decide +kernel
theorem dX1_lookAtNewRows_64 : decode cX1_lookAtNewRows 64 = .ok (.iconst 1, 1) := by decide +kernel
theorem dX1_lookAtNewRows_65 : decode cX1_lookAtNewRows 65 = .ok (.goto 4, 3) := by decide +kernel
theorem dX1_lookAtNewRows_68 : decode cX1_lookAtNewRows 68 = .ok (.iconst 0, 1) := by decide +kernel
theorem dX1_lookAtNewRows_69 : decode cX1_lookAtNewRows 69 = .ok (.invokevirtual 202, 3) := by decide +kernel
theorem dX1_lookAtNewRows_72 : decode cX1_lookAtNewRows 72 = .ok (.goto 28, 3) := by decide +kernel
theorem dX1_lookAtNewRows_75 : decode cX1_lookAtNewRows 75 = .ok (.aload_n 0, 1) := by decide +kernel
theorem dX1_lookAtNewRows_76 : decode cX1_lookAtNewRows 76 = .ok (.iload_n 1, 1) := by decide +kernel
theorem dX1_lookAtNewRows_77 : decode cX1_lookAtNewRows 77 = .ok (.aload_n 2, 1) := by decide +kernel
theorem dX1_lookAtNewRows_78 : decode cX1_lookAtNewRows 78 = .ok (.aload 4, 2) := by decide +kernel
theorem dX1_lookAtNewRows_80 : decode cX1_lookAtNewRows 80 = .ok (.getfield 178, 3) := by decide +kernel
theorem dX1_lookAtNewRows_83 : decode cX1_lookAtNewRows 83 = .ok (.iload 5, 2) := by decide +kernel
theorem dX1_lookAtNewRows_85 : decode cX1_lookAtNewRows 85 = .ok (.invokevirtual 206, 3) := by decide +kernel
theorem dX1_lookAtNewRows_88 : decode cX1_lookAtNewRows 88 = .ok (.ifCond .eq 12, 3) := by decide +kernel
theorem dX1_lookAtNewRows_91 : decode cX1_lookAtNewRows 91 = .ok (.aload_n 0, 1) := by decide +kernel
theorem dX1_lookAtNewRows_92 : decode cX1_lookAtNewRows 92 = .ok (.iload_n 1, 1) := by decide +kernel
theorem dX1_lookAtNewRows_93 : decode cX1_lookAtNewRows 93 = .ok (.aload_n 0, 1) := by decide +kernel
theorem dX1_lookAtNewRows_94 : decode cX1_lookAtNewRows 94 = .ok (.getfield 25, 3) := by decide +kernel
theorem dX1_lookAtNewRows_97 : decode cX1_lookAtNewRows 97 = .ok (.invokevirtual 139, 3) := by decide +kernel
theorem dX1_lookAtNewRows_100 : decode cX1_lookAtNewRows 100 = .ok (.iinc 5 1, 3) := by decide +kernel
theorem dX1_lookAtNewRows_103 : decode cX1_lookAtNewRows 103 = .ok (.goto (-81), 3) := by decide +kernel
theorem dX1_lookAtNewRows_106 : decode cX1_lookAtNewRows 106 = .ok (.aload_n 2, 1) := by decide +kernel
theorem dX1_lookAtNewRows_107 : decode cX1_lookAtNewRows 107 = .ok (.getfield 192, 3) := by decide +kernel
theorem dX1_lookAtNewRows_110 : decode cX1_lookAtNewRows 110 = .ok (.iload_n 3, 1) := by decide +kernel
theorem dX1_lookAtNewRows_111 : decode cX1_lookAtNewRows 111 = .ok (.aload 4, 2) := by decide +kernel
theorem dX1_lookAtNewRows_113 : decode cX1_lookAtNewRows 113 = .ok (.getfield 178, 3) := by decide +kernel
theorem dX1_lookAtNewRows_116 : decode cX1_lookAtNewRows 116 = .ok (.getfield 196, 3) := by decide +kernel
theorem dX1_lookAtNewRows_119 : decode cX1_lookAtNewRows 119 = .ok (.iastore, 1) := by decide +kernel
theorem dX1_lookAtNewRows_120 : decode cX1_lookAtNewRows 120 = .ok (.return_, 1) := by decide +kernel
theorem dX1_inputOf_0 : decode cX1_inputOf 0 = .ok (.aload_n 1, 1) := by decide +kernel
theorem dX1_inputOf_1 : decode cX1_inputOf 1 = .ok (.getfield 210, 3) := by decide +kernel
theorem dX1_inputOf_4 : decode cX1_inputOf 4 = .ok (.iload_n 2, 1) := by decide +kernel
theorem dX1_inputOf_5 : decode cX1_inputOf 5 = .ok (.iaload, 1) := by decide +kernel
theorem dX1_inputOf_6 : decode cX1_inputOf 6 = .ok (.istore_n 3, 1) := by decide +kernel
theorem dX1_inputOf_7 : decode cX1_inputOf 7 = .ok (.iload_n 3, 1) := by decide +kernel
theorem dX1_inputOf_8 : decode cX1_inputOf 8 = .ok (.ifCond .lt 26, 3) := by decide +kernel
theorem dX1_inputOf_11 : decode cX1_inputOf 11 = .ok (.iload_n 3, 1) := by decide +kernel
theorem dX1_inputOf_12 : decode cX1_inputOf 12 = .ok (.aload_n 0, 1) := by decide +kernel
theorem dX1_inputOf_13 : decode cX1_inputOf 13 = .ok (.getfield 28, 3) := by decide +kernel
theorem dX1_inputOf_16 : decode cX1_inputOf 16 = .ok (.getfield 32, 3) := by decide +kernel
theorem dX1_inputOf_19 : decode cX1_inputOf 19 = .ok (.if_icmp .ge 15, 3) := by decide +kernel
theorem dX1_inputOf_22 : decode cX1_inputOf 22 = .ok (.aload_n 0, 1) := by decide +kernel
theorem dX1_inputOf_23 : decode cX1_inputOf 23 = .ok (.getfield 28, 3) := by decide +kernel
theorem dX1_inputOf_26 : decode cX1_inputOf 26 = .ok (.getfield 38, 3) := by decide +kernel
theorem dX1_inputOf_29 : decode cX1_inputOf 29 = .ok (.iload_n 3, 1) := by decide +kernel
theorem dX1_inputOf_30 : decode cX1_inputOf 30 = .ok (.aaload, 1) := by decide +kernel
theorem dX1_inputOf_31 : decode cX1_inputOf 31 = .ok (.goto 4, 3) := by decide +kernel
theorem dX1_inputOf_34 : decode cX1_inputOf 34 = .ok (.aconst_null, 1) := by decide +kernel
theorem dX1_inputOf_35 : decode cX1_inputOf 35 = .ok (.areturn, 1) := by decide +kernel
theorem dX1_comesOut_0 : decode cX1_comesOut 0 = .ok (.aload_n 2, 1) := by decide +kernel
theorem dX1_comesOut_1 : decode cX1_comesOut 1 = .ok (.getfield 94, 3) := by decide +kernel
theorem dX1_comesOut_4 : decode cX1_comesOut 4 = .ok (.tableswitch 267 1 7 #[44, 89, 165, 227, 267, 240, 260], 44) := by decide +kernel
theorem dX1_comesOut_48 : decode cX1_comesOut 48 = .ok (.aload_n 0, 1) := by decide +kernel
theorem dX1_comesOut_49 : decode cX1_comesOut 49 = .ok (.getfield 25, 3) := by decide +kernel
theorem dX1_comesOut_52 : decode cX1_comesOut 52 = .ok (.aload_n 0, 1) := by decide +kernel
theorem dX1_comesOut_53 : decode cX1_comesOut 53 = .ok (.getfield 18, 3) := by decide +kernel
theorem dX1_comesOut_56 : decode cX1_comesOut 56 = .ok (.invokevirtual 143, 3) := by decide +kernel
theorem dX1_comesOut_59 : decode cX1_comesOut 59 = .ok (.aload_n 0, 1) := by decide +kernel
theorem dX1_comesOut_60 : decode cX1_comesOut 60 = .ok (.getfield 28, 3) := by decide +kernel
theorem dX1_comesOut_63 : decode cX1_comesOut 63 = .ok (.aload_n 2, 1) := by decide +kernel
theorem dX1_comesOut_64 : decode cX1_comesOut 64 = .ok (.getfield 213, 3) := by decide +kernel
theorem dX1_comesOut_67 : decode cX1_comesOut 67 = .ok (.iconst 0, 1) := by decide +kernel
theorem dX1_comesOut_68 : decode cX1_comesOut 68 = .ok (.iaload, 1) := by decide +kernel
theorem dX1_comesOut_69 : decode cX1_comesOut 69 = .ok (.aload_n 2, 1) := by decide +kernel
theorem dX1_comesOut_70 : decode cX1_comesOut 70 = .ok (.getfield 216, 3) := by decide +kernel
theorem dX1_comesOut_73 : decode cX1_comesOut 73 = .ok (.iconst 0, 1) := by decide +kernel
theorem dX1_comesOut_74 : decode cX1_comesOut 74 = .ok (.iaload, 1) := by decide +kernel
theorem dX1_comesOut_75 : decode cX1_comesOut 75 = .ok (.aload_n 0, 1) := by decide +kernel
theorem dX1_comesOut_76 : decode cX1_comesOut 76 = .ok (.getfield 18, 3) := by decide +kernel
theorem dX1_comesOut_79 : decode cX1_comesOut 79 = .ok (.invokevirtual 167, 3) := by decide +kernel
theorem dX1_comesOut_82 : decode cX1_comesOut 82 = .ok (.lconst 0, 1) := by decide +kernel
theorem dX1_comesOut_83 : decode cX1_comesOut 83 = .ok (.lcmp, 1) := by decide +kernel
theorem dX1_comesOut_84 : decode cX1_comesOut 84 = .ok (.ifCond .eq 7, 3) := by decide +kernel
theorem dX1_comesOut_87 : decode cX1_comesOut 87 = .ok (.iconst 1, 1) := by decide +kernel
theorem dX1_comesOut_88 : decode cX1_comesOut 88 = .ok (.goto 4, 3) := by decide +kernel
theorem dX1_comesOut_91 : decode cX1_comesOut 91 = .ok (.iconst 0, 1) := by decide +kernel
theorem dX1_comesOut_92 : decode cX1_comesOut 92 = .ok (.ireturn, 1) := by decide +kernel
theorem dX1_comesOut_93 : decode cX1_comesOut 93 = .ok (.aload_n 0, 1) := by decide +kernel
theorem dX1_comesOut_94 : decode cX1_comesOut 94 = .ok (.getfield 25, 3) := by decide +kernel
theorem dX1_comesOut_97 : decode cX1_comesOut 97 = .ok (.aload_n 0, 1) := by decide +kernel
theorem dX1_comesOut_98 : decode cX1_comesOut 98 = .ok (.getfield 18, 3) := by decide +kernel
theorem dX1_comesOut_101 : decode cX1_comesOut 101 = .ok (.invokevirtual 143, 3) := by decide +kernel
theorem dX1_comesOut_104 : decode cX1_comesOut 104 = .ok (.aload_n 0, 1) := by decide +kernel
theorem dX1_comesOut_105 : decode cX1_comesOut 105 = .ok (.getfield 18, 3) := by decide +kernel
theorem dX1_comesOut_108 : decode cX1_comesOut 108 = .ok (.getfield 126, 3) := by decide +kernel
theorem dX1_comesOut_111 : decode cX1_comesOut 111 = .ok (.istore 5, 2) := by decide +kernel
theorem dX1_comesOut_113 : decode cX1_comesOut 113 = .ok (.iload 5, 2) := by decide +kernel
theorem dX1_comesOut_115 : decode cX1_comesOut 115 = .ok (.aload_n 2, 1) := by decide +kernel
theorem dX1_comesOut_116 : decode cX1_comesOut 116 = .ok (.getfield 120, 3) := by decide +kernel
theorem dX1_comesOut_119 : decode cX1_comesOut 119 = .ok (.if_icmp .ge 48, 3) := by decide +kernel
theorem dX1_comesOut_122 : decode cX1_comesOut 122 = .ok (.iload 5, 2) := by decide +kernel
theorem dX1_comesOut_124 : decode cX1_comesOut 124 = .ok (.bipush 6, 2) := by decide +kernel
theorem dX1_comesOut_126 : decode cX1_comesOut 126 = .ok (.if_icmp .ge 41, 3) := by decide +kernel
theorem dX1_comesOut_129 : decode cX1_comesOut 129 = .ok (.aload_n 0, 1) := by decide +kernel
theorem dX1_comesOut_130 : decode cX1_comesOut 130 = .ok (.getfield 25, 3) := by decide +kernel
theorem dX1_comesOut_133 : decode cX1_comesOut 133 = .ok (.aload_n 0, 1) := by decide +kernel
theorem dX1_comesOut_134 : decode cX1_comesOut 134 = .ok (.getfield 28, 3) := by decide +kernel
theorem dX1_comesOut_137 : decode cX1_comesOut 137 = .ok (.aload_n 2, 1) := by decide +kernel
theorem dX1_comesOut_138 : decode cX1_comesOut 138 = .ok (.getfield 213, 3) := by decide +kernel
theorem dX1_comesOut_141 : decode cX1_comesOut 141 = .ok (.iload 5, 2) := by decide +kernel
theorem dX1_comesOut_143 : decode cX1_comesOut 143 = .ok (.iaload, 1) := by decide +kernel
theorem dX1_comesOut_144 : decode cX1_comesOut 144 = .ok (.aload_n 2, 1) := by decide +kernel
theorem dX1_comesOut_145 : decode cX1_comesOut 145 = .ok (.getfield 216, 3) := by decide +kernel
theorem dX1_comesOut_148 : decode cX1_comesOut 148 = .ok (.iload 5, 2) := by decide +kernel
theorem dX1_comesOut_150 : decode cX1_comesOut 150 = .ok (.iaload, 1) := by decide +kernel
theorem dX1_comesOut_151 : decode cX1_comesOut 151 = .ok (.aload_n 0, 1) := by decide +kernel
theorem dX1_comesOut_152 : decode cX1_comesOut 152 = .ok (.getfield 18, 3) := by decide +kernel
theorem dX1_comesOut_155 : decode cX1_comesOut 155 = .ok (.invokevirtual 167, 3) := by decide +kernel
theorem dX1_comesOut_158 : decode cX1_comesOut 158 = .ok (.invokevirtual 219, 3) := by decide +kernel
theorem dX1_comesOut_161 : decode cX1_comesOut 161 = .ok (.iinc 5 1, 3) := by decide +kernel
theorem dX1_comesOut_164 : decode cX1_comesOut 164 = .ok (.goto (-51), 3) := by decide +kernel
theorem dX1_comesOut_167 : decode cX1_comesOut 167 = .ok (.iconst 1, 1) := by decide +kernel
theorem dX1_comesOut_168 : decode cX1_comesOut 168 = .ok (.ireturn, 1) := by decide +kernel
theorem dX1_comesOut_169 : decode cX1_comesOut 169 = .ok (.aload_n 0, 1) := by decide +kernel
theorem dX1_comesOut_170 : decode cX1_comesOut 170 = .ok (.getfield 25, 3) := by decide +kernel
theorem dX1_comesOut_173 : decode cX1_comesOut 173 = .ok (.aload_n 0, 1) := by decide +kernel
theorem dX1_comesOut_174 : decode cX1_comesOut 174 = .ok (.getfield 18, 3) := by decide +kernel
theorem dX1_comesOut_177 : decode cX1_comesOut 177 = .ok (.getfield 127, 3) := by decide +kernel
theorem dX1_comesOut_180 : decode cX1_comesOut 180 = .ok (.invokevirtual 223, 3) := by decide +kernel
theorem dX1_comesOut_183 : decode cX1_comesOut 183 = .ok (.iconst 0, 1) := by decide +kernel
theorem dX1_comesOut_184 : decode cX1_comesOut 184 = .ok (.istore 5, 2) := by decide +kernel
theorem dX1_comesOut_186 : decode cX1_comesOut 186 = .ok (.iload 5, 2) := by decide +kernel
theorem dX1_comesOut_188 : decode cX1_comesOut 188 = .ok (.aload_n 2, 1) := by decide +kernel
theorem dX1_comesOut_189 : decode cX1_comesOut 189 = .ok (.getfield 120, 3) := by decide +kernel
theorem dX1_comesOut_192 : decode cX1_comesOut 192 = .ok (.if_icmp .ge 37, 3) := by decide +kernel
theorem dX1_comesOut_195 : decode cX1_comesOut 195 = .ok (.iload 5, 2) := by decide +kernel
theorem dX1_comesOut_197 : decode cX1_comesOut 197 = .ok (.bipush 6, 2) := by decide +kernel
theorem dX1_comesOut_199 : decode cX1_comesOut 199 = .ok (.if_icmp .ge 30, 3) := by decide +kernel
theorem dX1_comesOut_202 : decode cX1_comesOut 202 = .ok (.aload_n 0, 1) := by decide +kernel
theorem dX1_comesOut_203 : decode cX1_comesOut 203 = .ok (.getfield 25, 3) := by decide +kernel
theorem dX1_comesOut_206 : decode cX1_comesOut 206 = .ok (.aload_n 0, 1) := by decide +kernel
theorem dX1_comesOut_207 : decode cX1_comesOut 207 = .ok (.getfield 18, 3) := by decide +kernel
theorem dX1_comesOut_210 : decode cX1_comesOut 210 = .ok (.aload_n 2, 1) := by decide +kernel
theorem dX1_comesOut_211 : decode cX1_comesOut 211 = .ok (.getfield 227, 3) := by decide +kernel
theorem dX1_comesOut_214 : decode cX1_comesOut 214 = .ok (.iload 5, 2) := by decide +kernel
theorem dX1_comesOut_216 : decode cX1_comesOut 216 = .ok (.iaload, 1) := by decide +kernel
theorem dX1_comesOut_217 : decode cX1_comesOut 217 = .ok (.invokevirtual 230, 3) := by decide +kernel
theorem dX1_comesOut_220 : decode cX1_comesOut 220 = .ok (.invokevirtual 219, 3) := by decide +kernel
theorem dX1_comesOut_223 : decode cX1_comesOut 223 = .ok (.iinc 5 1, 3) := by decide +kernel
theorem dX1_comesOut_226 : decode cX1_comesOut 226 = .ok (.goto (-40), 3) := by decide +kernel
theorem dX1_comesOut_229 : decode cX1_comesOut 229 = .ok (.iconst 1, 1) := by decide +kernel
theorem dX1_comesOut_230 : decode cX1_comesOut 230 = .ok (.ireturn, 1) := by decide +kernel
theorem dX1_comesOut_231 : decode cX1_comesOut 231 = .ok (.aload_n 0, 1) := by decide +kernel
theorem dX1_comesOut_232 : decode cX1_comesOut 232 = .ok (.getfield 25, 3) := by decide +kernel
theorem dX1_comesOut_235 : decode cX1_comesOut 235 = .ok (.aload_n 0, 1) := by decide +kernel
theorem dX1_comesOut_236 : decode cX1_comesOut 236 = .ok (.getfield 18, 3) := by decide +kernel
theorem dX1_comesOut_239 : decode cX1_comesOut 239 = .ok (.invokevirtual 143, 3) := by decide +kernel
theorem dX1_comesOut_242 : decode cX1_comesOut 242 = .ok (.iconst 1, 1) := by decide +kernel
theorem dX1_comesOut_243 : decode cX1_comesOut 243 = .ok (.ireturn, 1) := by decide +kernel
theorem dX1_comesOut_244 : decode cX1_comesOut 244 = .ok (.aload_n 0, 1) := by decide +kernel
theorem dX1_comesOut_245 : decode cX1_comesOut 245 = .ok (.getfield 25, 3) := by decide +kernel
theorem dX1_comesOut_248 : decode cX1_comesOut 248 = .ok (.aload_n 0, 1) := by decide +kernel
theorem dX1_comesOut_249 : decode cX1_comesOut 249 = .ok (.getfield 18, 3) := by decide +kernel
theorem dX1_comesOut_252 : decode cX1_comesOut 252 = .ok (.invokevirtual 143, 3) := by decide +kernel
theorem dX1_comesOut_255 : decode cX1_comesOut 255 = .ok (.aload_n 0, 1) := by decide +kernel
theorem dX1_comesOut_256 : decode cX1_comesOut 256 = .ok (.aload_n 2, 1) := by decide +kernel
theorem dX1_comesOut_257 : decode cX1_comesOut 257 = .ok (.aload_n 3, 1) := by decide +kernel
theorem dX1_comesOut_258 : decode cX1_comesOut 258 = .ok (.iload 4, 2) := by decide +kernel
theorem dX1_comesOut_260 : decode cX1_comesOut 260 = .ok (.invokevirtual 234, 3) := by decide +kernel
theorem dX1_comesOut_263 : decode cX1_comesOut 263 = .ok (.ireturn, 1) := by decide +kernel
theorem dX1_comesOut_264 : decode cX1_comesOut 264 = .ok (.aload_n 0, 1) := by decide +kernel
theorem dX1_comesOut_265 : decode cX1_comesOut 265 = .ok (.iload_n 1, 1) := by decide +kernel
theorem dX1_comesOut_266 : decode cX1_comesOut 266 = .ok (.iconst 0, 1) := by decide +kernel
theorem dX1_comesOut_267 : decode cX1_comesOut 267 = .ok (.invokevirtual 156, 3) := by decide +kernel
theorem dX1_comesOut_270 : decode cX1_comesOut 270 = .ok (.ireturn, 1) := by decide +kernel
theorem dX1_comesOut_271 : decode cX1_comesOut 271 = .ok (.iconst 0, 1) := by decide +kernel
theorem dX1_comesOut_272 : decode cX1_comesOut 272 = .ok (.ireturn, 1) := by decide +kernel
theorem dX1_isFirst_0 : decode cX1_isFirst 0 = .ok (.iconst 1, 1) := by decide +kernel
theorem dX1_isFirst_1 : decode cX1_isFirst 1 = .ok (.istore 4, 2) := by decide +kernel
theorem dX1_isFirst_3 : decode cX1_isFirst 3 = .ok (.iconst 0, 1) := by decide +kernel
theorem dX1_isFirst_4 : decode cX1_isFirst 4 = .ok (.istore 5, 2) := by decide +kernel
theorem dX1_isFirst_6 : decode cX1_isFirst 6 = .ok (.iload 5, 2) := by decide +kernel
theorem dX1_isFirst_8 : decode cX1_isFirst 8 = .ok (.iload_n 3, 1) := by decide +kernel
theorem dX1_isFirst_9 : decode cX1_isFirst 9 = .ok (.if_icmp .ge 81, 3) := by decide +kernel
theorem dX1_isFirst_12 : decode cX1_isFirst 12 = .ok (.iload 5, 2) := by decide +kernel
theorem dX1_isFirst_14 : decode cX1_isFirst 14 = .ok (.aload_n 1, 1) := by decide +kernel
theorem dX1_isFirst_15 : decode cX1_isFirst 15 = .ok (.getfield 238, 3) := by decide +kernel
theorem dX1_isFirst_18 : decode cX1_isFirst 18 = .ok (.arraylength, 1) := by decide +kernel
theorem dX1_isFirst_19 : decode cX1_isFirst 19 = .ok (.if_icmp .ge 71, 3) := by decide +kernel
theorem dX1_isFirst_22 : decode cX1_isFirst 22 = .ok (.aload_n 1, 1) := by decide +kernel
theorem dX1_isFirst_23 : decode cX1_isFirst 23 = .ok (.getfield 238, 3) := by decide +kernel
theorem dX1_isFirst_26 : decode cX1_isFirst 26 = .ok (.iload 5, 2) := by decide +kernel
theorem dX1_isFirst_28 : decode cX1_isFirst 28 = .ok (.baload, 1) := by decide +kernel
theorem dX1_isFirst_29 : decode cX1_isFirst 29 = .ok (.ifCond .eq 55, 3) := by decide +kernel
theorem dX1_isFirst_32 : decode cX1_isFirst 32 = .ok (.aload_n 2, 1) := by decide +kernel
theorem dX1_isFirst_33 : decode cX1_isFirst 33 = .ok (.iload 5, 2) := by decide +kernel
theorem dX1_isFirst_35 : decode cX1_isFirst 35 = .ok (.aload_n 1, 1) := by decide +kernel
theorem dX1_isFirst_36 : decode cX1_isFirst 36 = .ok (.getfield 242, 3) := by decide +kernel
theorem dX1_isFirst_39 : decode cX1_isFirst 39 = .ok (.invokevirtual 245, 3) := by decide +kernel
theorem dX1_isFirst_42 : decode cX1_isFirst 42 = .ok (.aload_n 0, 1) := by decide +kernel
theorem dX1_isFirst_43 : decode cX1_isFirst 43 = .ok (.getfield 18, 3) := by decide +kernel
theorem dX1_isFirst_46 : decode cX1_isFirst 46 = .ok (.aload_n 1, 1) := by decide +kernel
theorem dX1_isFirst_47 : decode cX1_isFirst 47 = .ok (.getfield 242, 3) := by decide +kernel
theorem dX1_isFirst_50 : decode cX1_isFirst 50 = .ok (.invokevirtual 230, 3) := by decide +kernel
theorem dX1_isFirst_53 : decode cX1_isFirst 53 = .ok (.lcmp, 1) := by decide +kernel
theorem dX1_isFirst_54 : decode cX1_isFirst 54 = .ok (.ifCond .ne 30, 3) := by decide +kernel
theorem dX1_isFirst_57 : decode cX1_isFirst 57 = .ok (.aload_n 2, 1) := by decide +kernel
theorem dX1_isFirst_58 : decode cX1_isFirst 58 = .ok (.iload 5, 2) := by decide +kernel
theorem dX1_isFirst_60 : decode cX1_isFirst 60 = .ok (.invokevirtual 249, 3) := by decide +kernel
theorem dX1_isFirst_63 : decode cX1_isFirst 63 = .ok (.aload_n 0, 1) := by decide +kernel
theorem dX1_isFirst_64 : decode cX1_isFirst 64 = .ok (.getfield 18, 3) := by decide +kernel
theorem dX1_isFirst_67 : decode cX1_isFirst 67 = .ok (.getfield 127, 3) := by decide +kernel
theorem dX1_isFirst_70 : decode cX1_isFirst 70 = .ok (.isub, 1) := by decide +kernel
theorem dX1_isFirst_71 : decode cX1_isFirst 71 = .ok (.invokestatic 253, 3) := by decide +kernel
theorem dX1_isFirst_74 : decode cX1_isFirst 74 = .ok (.aload_n 1, 1) := by decide +kernel
theorem dX1_isFirst_75 : decode cX1_isFirst 75 = .ok (.getfield 130, 3) := by decide +kernel
theorem dX1_isFirst_78 : decode cX1_isFirst 78 = .ok (.if_icmp .gt 6, 3) := by decide +kernel
theorem dX1_isFirst_81 : decode cX1_isFirst 81 = .ok (.iconst 0, 1) := by decide +kernel
theorem dX1_isFirst_82 : decode cX1_isFirst 82 = .ok (.istore 4, 2) := by decide +kernel
theorem dX1_isFirst_84 : decode cX1_isFirst 84 = .ok (.iinc 5 1, 3) := by decide +kernel
theorem dX1_isFirst_87 : decode cX1_isFirst 87 = .ok (.goto (-81), 3) := by decide +kernel
theorem dX1_isFirst_90 : decode cX1_isFirst 90 = .ok (.iload_n 3, 1) := by decide +kernel
theorem dX1_isFirst_91 : decode cX1_isFirst 91 = .ok (.aload_n 1, 1) := by decide +kernel
theorem dX1_isFirst_92 : decode cX1_isFirst 92 = .ok (.getfield 238, 3) := by decide +kernel
theorem dX1_isFirst_95 : decode cX1_isFirst 95 = .ok (.arraylength, 1) := by decide +kernel
theorem dX1_isFirst_96 : decode cX1_isFirst 96 = .ok (.if_icmp .ge 11, 3) := by decide +kernel
theorem dX1_isFirst_99 : decode cX1_isFirst 99 = .ok (.aload_n 1, 1) := by decide +kernel
theorem dX1_isFirst_100 : decode cX1_isFirst 100 = .ok (.getfield 238, 3) := by decide +kernel
theorem dX1_isFirst_103 : decode cX1_isFirst 103 = .ok (.iload_n 3, 1) := by decide +kernel
theorem dX1_isFirst_104 : decode cX1_isFirst 104 = .ok (.iload 4, 2) := by decide +kernel
theorem dX1_isFirst_106 : decode cX1_isFirst 106 = .ok (.bastore, 1) := by decide +kernel
theorem dX1_isFirst_107 : decode cX1_isFirst 107 = .ok (.iload 4, 2) := by decide +kernel
theorem dX1_isFirst_109 : decode cX1_isFirst 109 = .ok (.ireturn, 1) := by decide +kernel
theorem dX1_joinNewRow_0 : decode cX1_joinNewRow 0 = .ok (.aload_n 0, 1) := by decide +kernel
theorem dX1_joinNewRow_1 : decode cX1_joinNewRow 1 = .ok (.aload_n 2, 1) := by decide +kernel
theorem dX1_joinNewRow_2 : decode cX1_joinNewRow 2 = .ok (.iload_n 3, 1) := by decide +kernel
theorem dX1_joinNewRow_3 : decode cX1_joinNewRow 3 = .ok (.ifCond .eq 7, 3) := by decide +kernel
theorem dX1_joinNewRow_6 : decode cX1_joinNewRow 6 = .ok (.iconst 1, 1) := by decide +kernel
theorem dX1_joinNewRow_7 : decode cX1_joinNewRow 7 = .ok (.goto 4, 3) := by decide +kernel
theorem dX1_joinNewRow_10 : decode cX1_joinNewRow 10 = .ok (.iconst 0, 1) := by decide +kernel
theorem dX1_joinNewRow_11 : decode cX1_joinNewRow 11 = .ok (.invokevirtual 188, 3) := by decide +kernel
theorem dX1_joinNewRow_14 : decode cX1_joinNewRow 14 = .ok (.astore 4, 2) := by decide +kernel
theorem dX1_joinNewRow_16 : decode cX1_joinNewRow 16 = .ok (.aload 4, 2) := by decide +kernel
theorem dX1_joinNewRow_18 : decode cX1_joinNewRow 18 = .ok (.ifnonnull 4, 3) := by decide +kernel
theorem dX1_joinNewRow_21 : decode cX1_joinNewRow 21 = .ok (.return_, 1) := by decide +kernel
theorem dX1_joinNewRow_22 : decode cX1_joinNewRow 22 = .ok (.iload_n 3, 1) := by decide +kernel
theorem dX1_joinNewRow_23 : decode cX1_joinNewRow 23 = .ok (.ifCond .eq 12, 3) := by decide +kernel
theorem dX1_joinNewRow_26 : decode cX1_joinNewRow 26 = .ok (.aload_n 2, 1) := by decide +kernel
theorem dX1_joinNewRow_27 : decode cX1_joinNewRow 27 = .ok (.getfield 192, 3) := by decide +kernel
theorem dX1_joinNewRow_30 : decode cX1_joinNewRow 30 = .ok (.iconst 1, 1) := by decide +kernel
theorem dX1_joinNewRow_31 : decode cX1_joinNewRow 31 = .ok (.iaload, 1) := by decide +kernel
theorem dX1_joinNewRow_32 : decode cX1_joinNewRow 32 = .ok (.goto 11, 3) := by decide +kernel
theorem dX1_joinNewRow_35 : decode cX1_joinNewRow 35 = .ok (.aload 4, 2) := by decide +kernel
theorem dX1_joinNewRow_37 : decode cX1_joinNewRow 37 = .ok (.getfield 178, 3) := by decide +kernel
theorem dX1_joinNewRow_40 : decode cX1_joinNewRow 40 = .ok (.getfield 196, 3) := by decide +kernel
theorem dX1_joinNewRow_43 : decode cX1_joinNewRow 43 = .ok (.istore 5, 2) := by decide +kernel
theorem dX1_joinNewRow_45 : decode cX1_joinNewRow 45 = .ok (.iload_n 3, 1) := by decide +kernel
theorem dX1_joinNewRow_46 : decode cX1_joinNewRow 46 = .ok (.ifCond .eq 10, 3) := by decide +kernel
theorem dX1_joinNewRow_49 : decode cX1_joinNewRow 49 = .ok (.aload_n 2, 1) := by decide +kernel
theorem dX1_joinNewRow_50 : decode cX1_joinNewRow 50 = .ok (.getfield 256, 3) := by decide +kernel
theorem dX1_joinNewRow_53 : decode cX1_joinNewRow 53 = .ok (.goto 7, 3) := by decide +kernel
theorem dX1_joinNewRow_56 : decode cX1_joinNewRow 56 = .ok (.aload_n 2, 1) := by decide +kernel
theorem dX1_joinNewRow_57 : decode cX1_joinNewRow 57 = .ok (.getfield 242, 3) := by decide +kernel
theorem dX1_joinNewRow_60 : decode cX1_joinNewRow 60 = .ok (.istore 6, 2) := by decide +kernel
theorem dX1_joinNewRow_62 : decode cX1_joinNewRow 62 = .ok (.aload_n 0, 1) := by decide +kernel
theorem dX1_joinNewRow_63 : decode cX1_joinNewRow 63 = .ok (.getfield 18, 3) := by decide +kernel
theorem dX1_joinNewRow_66 : decode cX1_joinNewRow 66 = .ok (.iload_n 3, 1) := by decide +kernel
theorem dX1_joinNewRow_67 : decode cX1_joinNewRow 67 = .ok (.ifCond .eq 10, 3) := by decide +kernel
theorem dX1_joinNewRow_70 : decode cX1_joinNewRow 70 = .ok (.aload_n 2, 1) := by decide +kernel
theorem dX1_joinNewRow_71 : decode cX1_joinNewRow 71 = .ok (.getfield 242, 3) := by decide +kernel
theorem dX1_joinNewRow_74 : decode cX1_joinNewRow 74 = .ok (.goto 7, 3) := by decide +kernel
theorem dX1_joinNewRow_77 : decode cX1_joinNewRow 77 = .ok (.aload_n 2, 1) := by decide +kernel
theorem dX1_joinNewRow_78 : decode cX1_joinNewRow 78 = .ok (.getfield 256, 3) := by decide +kernel
theorem dX1_joinNewRow_81 : decode cX1_joinNewRow 81 = .ok (.invokevirtual 230, 3) := by decide +kernel
theorem dX1_joinNewRow_84 : decode cX1_joinNewRow 84 = .ok (.lstore 7, 2) := by decide +kernel
theorem dX1_joinNewRow_86 : decode cX1_joinNewRow 86 = .ok (.iconst 0, 1) := by decide +kernel
theorem dX1_joinNewRow_87 : decode cX1_joinNewRow 87 = .ok (.istore 9, 2) := by decide +kernel
theorem dX1_joinNewRow_89 : decode cX1_joinNewRow 89 = .ok (.iload 9, 2) := by decide +kernel
theorem dX1_joinNewRow_91 : decode cX1_joinNewRow 91 = .ok (.iload 5, 2) := by decide +kernel
theorem dX1_joinNewRow_93 : decode cX1_joinNewRow 93 = .ok (.if_icmp .ge 113, 3) := by decide +kernel
theorem dX1_joinNewRow_96 : decode cX1_joinNewRow 96 = .ok (.aload 4, 2) := by decide +kernel
theorem dX1_joinNewRow_98 : decode cX1_joinNewRow 98 = .ok (.getfield 178, 3) := by decide +kernel
theorem dX1_joinNewRow_101 : decode cX1_joinNewRow 101 = .ok (.iload 9, 2) := by decide +kernel
theorem dX1_joinNewRow_103 : decode cX1_joinNewRow 103 = .ok (.iload 6, 2) := by decide +kernel
theorem dX1_joinNewRow_105 : decode cX1_joinNewRow 105 = .ok (.invokevirtual 245, 3) := by decide +kernel
theorem dX1_joinNewRow_108 : decode cX1_joinNewRow 108 = .ok (.lload 7, 2) := by decide +kernel
theorem dX1_joinNewRow_110 : decode cX1_joinNewRow 110 = .ok (.lcmp, 1) := by decide +kernel
theorem dX1_joinNewRow_111 : decode cX1_joinNewRow 111 = .ok (.ifCond .ne 89, 3) := by decide +kernel
theorem dX1_joinNewRow_114 : decode cX1_joinNewRow 114 = .ok (.aload 4, 2) := by decide +kernel
theorem dX1_joinNewRow_116 : decode cX1_joinNewRow 116 = .ok (.getfield 178, 3) := by decide +kernel
theorem dX1_joinNewRow_119 : decode cX1_joinNewRow 119 = .ok (.iload 9, 2) := by decide +kernel
theorem dX1_joinNewRow_121 : decode cX1_joinNewRow 121 = .ok (.invokevirtual 249, 3) := by decide +kernel
theorem dX1_joinNewRow_124 : decode cX1_joinNewRow 124 = .ok (.aload_n 0, 1) := by decide +kernel
theorem dX1_joinNewRow_125 : decode cX1_joinNewRow 125 = .ok (.getfield 18, 3) := by decide +kernel
theorem dX1_joinNewRow_128 : decode cX1_joinNewRow 128 = .ok (.getfield 127, 3) := by decide +kernel
theorem dX1_joinNewRow_131 : decode cX1_joinNewRow 131 = .ok (.isub, 1) := by decide +kernel
theorem dX1_joinNewRow_132 : decode cX1_joinNewRow 132 = .ok (.invokestatic 253, 3) := by decide +kernel
theorem dX1_joinNewRow_135 : decode cX1_joinNewRow 135 = .ok (.aload_n 2, 1) := by decide +kernel
theorem dX1_joinNewRow_136 : decode cX1_joinNewRow 136 = .ok (.getfield 130, 3) := by decide +kernel
theorem dX1_joinNewRow_139 : decode cX1_joinNewRow 139 = .ok (.if_icmp .gt 61, 3) := by decide +kernel
theorem dX1_joinNewRow_142 : decode cX1_joinNewRow 142 = .ok (.aload 4, 2) := by decide +kernel
theorem dX1_joinNewRow_144 : decode cX1_joinNewRow 144 = .ok (.getfield 178, 3) := by decide +kernel
theorem dX1_joinNewRow_147 : decode cX1_joinNewRow 147 = .ok (.iload 9, 2) := by decide +kernel
theorem dX1_joinNewRow_149 : decode cX1_joinNewRow 149 = .ok (.aload_n 0, 1) := by decide +kernel
theorem dX1_joinNewRow_150 : decode cX1_joinNewRow 150 = .ok (.getfield 22, 3) := by decide +kernel
theorem dX1_joinNewRow_153 : decode cX1_joinNewRow 153 = .ok (.invokevirtual 199, 3) := by decide +kernel
theorem dX1_joinNewRow_156 : decode cX1_joinNewRow 156 = .ok (.aload_n 0, 1) := by decide +kernel
theorem dX1_joinNewRow_157 : decode cX1_joinNewRow 157 = .ok (.aload_n 2, 1) := by decide +kernel
theorem dX1_joinNewRow_158 : decode cX1_joinNewRow 158 = .ok (.iload_n 3, 1) := by decide +kernel
theorem dX1_joinNewRow_159 : decode cX1_joinNewRow 159 = .ok (.ifCond .eq 10, 3) := by decide +kernel
theorem dX1_joinNewRow_162 : decode cX1_joinNewRow 162 = .ok (.aload_n 0, 1) := by decide +kernel
theorem dX1_joinNewRow_163 : decode cX1_joinNewRow 163 = .ok (.getfield 18, 3) := by decide +kernel
theorem dX1_joinNewRow_166 : decode cX1_joinNewRow 166 = .ok (.goto 7, 3) := by decide +kernel
theorem dX1_joinNewRow_169 : decode cX1_joinNewRow 169 = .ok (.aload_n 0, 1) := by decide +kernel
theorem dX1_joinNewRow_170 : decode cX1_joinNewRow 170 = .ok (.getfield 22, 3) := by decide +kernel
theorem dX1_joinNewRow_173 : decode cX1_joinNewRow 173 = .ok (.iload_n 3, 1) := by decide +kernel
theorem dX1_joinNewRow_174 : decode cX1_joinNewRow 174 = .ok (.ifCond .eq 10, 3) := by decide +kernel
theorem dX1_joinNewRow_177 : decode cX1_joinNewRow 177 = .ok (.aload_n 0, 1) := by decide +kernel
theorem dX1_joinNewRow_178 : decode cX1_joinNewRow 178 = .ok (.getfield 22, 3) := by decide +kernel
theorem dX1_joinNewRow_181 : decode cX1_joinNewRow 181 = .ok (.goto 7, 3) := by decide +kernel
theorem dX1_joinNewRow_184 : decode cX1_joinNewRow 184 = .ok (.aload_n 0, 1) := by decide +kernel
theorem dX1_joinNewRow_185 : decode cX1_joinNewRow 185 = .ok (.getfield 18, 3) := by decide +kernel
theorem dX1_joinNewRow_188 : decode cX1_joinNewRow 188 = .ok (.invokevirtual 259, 3) := by decide +kernel
theorem dX1_joinNewRow_191 : decode cX1_joinNewRow 191 = .ok (.aload_n 0, 1) := by decide +kernel
theorem dX1_joinNewRow_192 : decode cX1_joinNewRow 192 = .ok (.iload_n 1, 1) := by decide +kernel
theorem dX1_joinNewRow_193 : decode cX1_joinNewRow 193 = .ok (.aload_n 0, 1) := by decide +kernel
theorem dX1_joinNewRow_194 : decode cX1_joinNewRow 194 = .ok (.getfield 25, 3) := by decide +kernel
theorem dX1_joinNewRow_197 : decode cX1_joinNewRow 197 = .ok (.invokevirtual 139, 3) := by decide +kernel
theorem dX1_joinNewRow_200 : decode cX1_joinNewRow 200 = .ok (.iinc 9 1, 3) := by decide +kernel
theorem dX1_joinNewRow_203 : decode cX1_joinNewRow 203 = .ok (.goto (-114), 3) := by decide +kernel
theorem dX1_joinNewRow_206 : decode cX1_joinNewRow 206 = .ok (.return_, 1) := by decide +kernel
theorem dX1_makeJoined_0 : decode cX1_makeJoined 0 = .ok (.aload_n 0, 1) := by decide +kernel
theorem dX1_makeJoined_1 : decode cX1_makeJoined 1 = .ok (.getfield 25, 3) := by decide +kernel
theorem dX1_makeJoined_4 : decode cX1_makeJoined 4 = .ok (.aload_n 2, 1) := by decide +kernel
theorem dX1_makeJoined_5 : decode cX1_makeJoined 5 = .ok (.invokevirtual 143, 3) := by decide +kernel
theorem dX1_makeJoined_8 : decode cX1_makeJoined 8 = .ok (.aload_n 0, 1) := by decide +kernel
theorem dX1_makeJoined_9 : decode cX1_makeJoined 9 = .ok (.getfield 25, 3) := by decide +kernel
theorem dX1_makeJoined_12 : decode cX1_makeJoined 12 = .ok (.aload_n 2, 1) := by decide +kernel
theorem dX1_makeJoined_13 : decode cX1_makeJoined 13 = .ok (.getfield 127, 3) := by decide +kernel
theorem dX1_makeJoined_16 : decode cX1_makeJoined 16 = .ok (.aload_n 3, 1) := by decide +kernel
theorem dX1_makeJoined_17 : decode cX1_makeJoined 17 = .ok (.getfield 127, 3) := by decide +kernel
theorem dX1_makeJoined_20 : decode cX1_makeJoined 20 = .ok (.invokestatic 133, 3) := by decide +kernel
theorem dX1_makeJoined_23 : decode cX1_makeJoined 23 = .ok (.putfield 127, 3) := by decide +kernel
theorem dX1_makeJoined_26 : decode cX1_makeJoined 26 = .ok (.iconst 0, 1) := by decide +kernel
theorem dX1_makeJoined_27 : decode cX1_makeJoined 27 = .ok (.istore 4, 2) := by decide +kernel
theorem dX1_makeJoined_29 : decode cX1_makeJoined 29 = .ok (.iload 4, 2) := by decide +kernel
theorem dX1_makeJoined_31 : decode cX1_makeJoined 31 = .ok (.aload_n 3, 1) := by decide +kernel
theorem dX1_makeJoined_32 : decode cX1_makeJoined 32 = .ok (.getfield 126, 3) := by decide +kernel
theorem dX1_makeJoined_35 : decode cX1_makeJoined 35 = .ok (.if_icmp .ge 31, 3) := by decide +kernel
theorem dX1_makeJoined_38 : decode cX1_makeJoined 38 = .ok (.iload 4, 2) := by decide +kernel
theorem dX1_makeJoined_40 : decode cX1_makeJoined 40 = .ok (.aload_n 1, 1) := by decide +kernel
theorem dX1_makeJoined_41 : decode cX1_makeJoined 41 = .ok (.getfield 256, 3) := by decide +kernel
theorem dX1_makeJoined_44 : decode cX1_makeJoined 44 = .ok (.if_icmp .eq 16, 3) := by decide +kernel
theorem dX1_makeJoined_47 : decode cX1_makeJoined 47 = .ok (.aload_n 0, 1) := by decide +kernel
theorem dX1_makeJoined_48 : decode cX1_makeJoined 48 = .ok (.getfield 25, 3) := by decide +kernel
theorem dX1_makeJoined_51 : decode cX1_makeJoined 51 = .ok (.aload_n 3, 1) := by decide +kernel
theorem dX1_makeJoined_52 : decode cX1_makeJoined 52 = .ok (.iload 4, 2) := by decide +kernel
theorem dX1_makeJoined_54 : decode cX1_makeJoined 54 = .ok (.invokevirtual 230, 3) := by decide +kernel
theorem dX1_makeJoined_57 : decode cX1_makeJoined 57 = .ok (.invokevirtual 219, 3) := by decide +kernel
theorem dX1_makeJoined_60 : decode cX1_makeJoined 60 = .ok (.iinc 4 1, 3) := by decide +kernel
theorem dX1_makeJoined_63 : decode cX1_makeJoined 63 = .ok (.goto (-34), 3) := by decide +kernel
theorem dX1_makeJoined_66 : decode cX1_makeJoined 66 = .ok (.return_, 1) := by decide +kernel
theorem dX1_enterWindow_0 : decode cX1_enterWindow 0 = .ok (.aload_n 0, 1) := by decide +kernel
theorem dX1_enterWindow_1 : decode cX1_enterWindow 1 = .ok (.getfield 28, 3) := by decide +kernel
theorem dX1_enterWindow_4 : decode cX1_enterWindow 4 = .ok (.getfield 38, 3) := by decide +kernel
theorem dX1_enterWindow_7 : decode cX1_enterWindow 7 = .ok (.iload_n 1, 1) := by decide +kernel
theorem dX1_enterWindow_8 : decode cX1_enterWindow 8 = .ok (.aaload, 1) := by decide +kernel
theorem dX1_enterWindow_9 : decode cX1_enterWindow 9 = .ok (.astore_n 3, 1) := by decide +kernel
theorem dX1_enterWindow_10 : decode cX1_enterWindow 10 = .ok (.aload_n 3, 1) := by decide +kernel
theorem dX1_enterWindow_11 : decode cX1_enterWindow 11 = .ok (.getfield 130, 3) := by decide +kernel
theorem dX1_enterWindow_14 : decode cX1_enterWindow 14 = .ok (.ifCond .gt 5, 3) := by decide +kernel
theorem dX1_enterWindow_17 : decode cX1_enterWindow 17 = .ok (.iconst 0, 1) := by decide +kernel
theorem dX1_enterWindow_18 : decode cX1_enterWindow 18 = .ok (.ireturn, 1) := by decide +kernel
theorem dX1_enterWindow_19 : decode cX1_enterWindow 19 = .ok (.aload_n 0, 1) := by decide +kernel
theorem dX1_enterWindow_20 : decode cX1_enterWindow 20 = .ok (.getfield 18, 3) := by decide +kernel
theorem dX1_enterWindow_23 : decode cX1_enterWindow 23 = .ok (.getfield 127, 3) := by decide +kernel
theorem dX1_enterWindow_26 : decode cX1_enterWindow 26 = .ok (.aload_n 0, 1) := by decide +kernel
theorem dX1_enterWindow_27 : decode cX1_enterWindow 27 = .ok (.getfield 18, 3) := by decide +kernel
theorem dX1_enterWindow_30 : decode cX1_enterWindow 30 = .ok (.getfield 127, 3) := by decide +kernel
theorem dX1_enterWindow_33 : decode cX1_enterWindow 33 = .ok (.aload_n 3, 1) := by decide +kernel
theorem dX1_enterWindow_34 : decode cX1_enterWindow 34 = .ok (.getfield 130, 3) := by decide +kernel
theorem dX1_enterWindow_37 : decode cX1_enterWindow 37 = .ok (.irem, 1) := by decide +kernel
theorem dX1_enterWindow_38 : decode cX1_enterWindow 38 = .ok (.isub, 1) := by decide +kernel
theorem dX1_enterWindow_39 : decode cX1_enterWindow 39 = .ok (.aload_n 3, 1) := by decide +kernel
theorem dX1_enterWindow_40 : decode cX1_enterWindow 40 = .ok (.getfield 130, 3) := by decide +kernel
theorem dX1_enterWindow_43 : decode cX1_enterWindow 43 = .ok (.iadd, 1) := by decide +kernel
theorem dX1_enterWindow_44 : decode cX1_enterWindow 44 = .ok (.istore 4, 2) := by decide +kernel
theorem dX1_enterWindow_46 : decode cX1_enterWindow 46 = .ok (.iload_n 2, 1) := by decide +kernel
theorem dX1_enterWindow_47 : decode cX1_enterWindow 47 = .ok (.ifCond .ne 29, 3) := by decide +kernel
theorem dX1_enterWindow_50 : decode cX1_enterWindow 50 = .ok (.aload_n 3, 1) := by decide +kernel
theorem dX1_enterWindow_51 : decode cX1_enterWindow 51 = .ok (.getfield 105, 3) := by decide +kernel
theorem dX1_enterWindow_54 : decode cX1_enterWindow 54 = .ok (.iload 4, 2) := by decide +kernel
theorem dX1_enterWindow_56 : decode cX1_enterWindow 56 = .ok (.aload_n 3, 1) := by decide +kernel
theorem dX1_enterWindow_57 : decode cX1_enterWindow 57 = .ok (.getfield 263, 3) := by decide +kernel
theorem dX1_enterWindow_60 : decode cX1_enterWindow 60 = .ok (.iadd, 1) := by decide +kernel
theorem dX1_enterWindow_61 : decode cX1_enterWindow 61 = .ok (.if_icmp .lt 15, 3) := by decide +kernel
theorem dX1_enterWindow_64 : decode cX1_enterWindow 64 = .ok (.aload_n 0, 1) := by decide +kernel
theorem dX1_enterWindow_65 : decode cX1_enterWindow 65 = .ok (.iload_n 1, 1) := by decide +kernel
theorem dX1_enterWindow_66 : decode cX1_enterWindow 66 = .ok (.iconst (-1), 1) := by decide +kernel
theorem dX1_enterWindow_67 : decode cX1_enterWindow 67 = .ok (.aload_n 0, 1) := by decide +kernel
theorem dX1_enterWindow_68 : decode cX1_enterWindow 68 = .ok (.getfield 18, 3) := by decide +kernel
theorem dX1_enterWindow_71 : decode cX1_enterWindow 71 = .ok (.invokevirtual 174, 3) := by decide +kernel
theorem dX1_enterWindow_74 : decode cX1_enterWindow 74 = .ok (.iconst 0, 1) := by decide +kernel
theorem dX1_enterWindow_75 : decode cX1_enterWindow 75 = .ok (.ireturn, 1) := by decide +kernel
theorem dX1_enterWindow_76 : decode cX1_enterWindow 76 = .ok (.aload_n 3, 1) := by decide +kernel
theorem dX1_enterWindow_77 : decode cX1_enterWindow 77 = .ok (.getfield 105, 3) := by decide +kernel
theorem dX1_enterWindow_80 : decode cX1_enterWindow 80 = .ok (.iload 4, 2) := by decide +kernel
theorem dX1_enterWindow_82 : decode cX1_enterWindow 82 = .ok (.if_icmp .lt 7, 3) := by decide +kernel
theorem dX1_enterWindow_85 : decode cX1_enterWindow 85 = .ok (.iconst 1, 1) := by decide +kernel
theorem dX1_enterWindow_86 : decode cX1_enterWindow 86 = .ok (.goto 4, 3) := by decide +kernel
theorem dX1_enterWindow_89 : decode cX1_enterWindow 89 = .ok (.iconst 0, 1) := by decide +kernel
theorem dX1_enterWindow_90 : decode cX1_enterWindow 90 = .ok (.istore 5, 2) := by decide +kernel
theorem dX1_enterWindow_92 : decode cX1_enterWindow 92 = .ok (.aload_n 3, 1) := by decide +kernel
theorem dX1_enterWindow_93 : decode cX1_enterWindow 93 = .ok (.getfield 266, 3) := by decide +kernel
theorem dX1_enterWindow_96 : decode cX1_enterWindow 96 = .ok (.astore 6, 2) := by decide +kernel
theorem dX1_enterWindow_98 : decode cX1_enterWindow 98 = .ok (.aload 6, 2) := by decide +kernel
theorem dX1_enterWindow_100 : decode cX1_enterWindow 100 = .ok (.aload_n 0, 1) := by decide +kernel
theorem dX1_enterWindow_101 : decode cX1_enterWindow 101 = .ok (.getfield 18, 3) := by decide +kernel
theorem dX1_enterWindow_104 : decode cX1_enterWindow 104 = .ok (.aload_n 3, 1) := by decide +kernel
theorem dX1_enterWindow_105 : decode cX1_enterWindow 105 = .ok (.getfield 242, 3) := by decide +kernel
theorem dX1_enterWindow_108 : decode cX1_enterWindow 108 = .ok (.invokevirtual 230, 3) := by decide +kernel
theorem dX1_enterWindow_111 : decode cX1_enterWindow 111 = .ok (.iload 4, 2) := by decide +kernel
theorem dX1_enterWindow_113 : decode cX1_enterWindow 113 = .ok (.iload 5, 2) := by decide +kernel
theorem dX1_enterWindow_115 : decode cX1_enterWindow 115 = .ok (.invokevirtual 270, 3) := by decide +kernel
theorem dX1_enterWindow_118 : decode cX1_enterWindow 118 = .ok (.istore 7, 2) := by decide +kernel
theorem dX1_enterWindow_120 : decode cX1_enterWindow 120 = .ok (.iload 7, 2) := by decide +kernel
theorem dX1_enterWindow_122 : decode cX1_enterWindow 122 = .ok (.ifCond .ge 15, 3) := by decide +kernel
theorem dX1_enterWindow_125 : decode cX1_enterWindow 125 = .ok (.aload_n 0, 1) := by decide +kernel
theorem dX1_enterWindow_126 : decode cX1_enterWindow 126 = .ok (.dup, 1) := by decide +kernel
theorem dX1_enterWindow_127 : decode cX1_enterWindow 127 = .ok (.getfield 62, 3) := by decide +kernel
theorem dX1_enterWindow_130 : decode cX1_enterWindow 130 = .ok (.iconst 1, 1) := by decide +kernel
theorem dX1_enterWindow_131 : decode cX1_enterWindow 131 = .ok (.iadd, 1) := by decide +kernel
theorem dX1_enterWindow_132 : decode cX1_enterWindow 132 = .ok (.putfield 62, 3) := by decide +kernel
theorem dX1_enterWindow_135 : decode cX1_enterWindow 135 = .ok (.iconst 0, 1) := by decide +kernel
theorem dX1_enterWindow_136 : decode cX1_enterWindow 136 = .ok (.ireturn, 1) := by decide +kernel
theorem dX1_enterWindow_137 : decode cX1_enterWindow 137 = .ok (.aload 6, 2) := by decide +kernel
theorem dX1_enterWindow_139 : decode cX1_enterWindow 139 = .ok (.iload 7, 2) := by decide +kernel
theorem dX1_enterWindow_141 : decode cX1_enterWindow 141 = .ok (.invokevirtual 276, 3) := by decide +kernel
theorem dX1_enterWindow_144 : decode cX1_enterWindow 144 = .ok (.iconst 2, 1) := by decide +kernel
theorem dX1_enterWindow_145 : decode cX1_enterWindow 145 = .ok (.istore 8, 2) := by decide +kernel
theorem dX1_enterWindow_147 : decode cX1_enterWindow 147 = .ok (.iload 8, 2) := by decide +kernel
theorem dX1_enterWindow_149 : decode cX1_enterWindow 149 = .ok (.aload_n 3, 1) := by decide +kernel
theorem dX1_enterWindow_150 : decode cX1_enterWindow 150 = .ok (.getfield 120, 3) := by decide +kernel
theorem dX1_enterWindow_153 : decode cX1_enterWindow 153 = .ok (.if_icmp .ge 80, 3) := by decide +kernel
theorem dX1_enterWindow_156 : decode cX1_enterWindow 156 = .ok (.iload 8, 2) := by decide +kernel
theorem dX1_enterWindow_158 : decode cX1_enterWindow 158 = .ok (.bipush 6, 2) := by decide +kernel
theorem dX1_enterWindow_160 : decode cX1_enterWindow 160 = .ok (.if_icmp .ge 73, 3) := by decide +kernel
theorem dX1_enterWindow_163 : decode cX1_enterWindow 163 = .ok (.aload_n 3, 1) := by decide +kernel
theorem dX1_enterWindow_164 : decode cX1_enterWindow 164 = .ok (.getfield 227, 3) := by decide +kernel
theorem dX1_enterWindow_167 : decode cX1_enterWindow 167 = .ok (.iload 8, 2) := by decide +kernel
theorem dX1_enterWindow_169 : decode cX1_enterWindow 169 = .ok (.iaload, 1) := by decide +kernel
theorem dX1_enterWindow_170 : decode cX1_enterWindow 170 = .ok (.sipush 151, 3) := by decide +kernel
theorem dX1_enterWindow_173 : decode cX1_enterWindow 173 = .ok (.if_icmp .ne 7, 3) := by decide +kernel
theorem dX1_enterWindow_176 : decode cX1_enterWindow 176 = .ok (.lconst 0, 1) := by decide +kernel
theorem dX1_enterWindow_177 : decode cX1_enterWindow 177 = .ok (.goto 28, 3) := by decide +kernel
theorem dX1_enterWindow_180 : decode cX1_enterWindow 180 = .ok (.aload_n 0, 1) := by decide +kernel
theorem dX1_enterWindow_181 : decode cX1_enterWindow 181 = .ok (.getfield 28, 3) := by decide +kernel
theorem dX1_enterWindow_184 : decode cX1_enterWindow 184 = .ok (.aload_n 3, 1) := by decide +kernel
theorem dX1_enterWindow_185 : decode cX1_enterWindow 185 = .ok (.getfield 213, 3) := by decide +kernel
theorem dX1_enterWindow_188 : decode cX1_enterWindow 188 = .ok (.iload 8, 2) := by decide +kernel
theorem dX1_enterWindow_190 : decode cX1_enterWindow 190 = .ok (.iaload, 1) := by decide +kernel
theorem dX1_enterWindow_191 : decode cX1_enterWindow 191 = .ok (.aload_n 3, 1) := by decide +kernel
theorem dX1_enterWindow_192 : decode cX1_enterWindow 192 = .ok (.getfield 216, 3) := by decide +kernel
theorem dX1_enterWindow_195 : decode cX1_enterWindow 195 = .ok (.iload 8, 2) := by decide +kernel
theorem dX1_enterWindow_197 : decode cX1_enterWindow 197 = .ok (.iaload, 1) := by decide +kernel
theorem dX1_enterWindow_198 : decode cX1_enterWindow 198 = .ok (.aload_n 0, 1) := by decide +kernel
theorem dX1_enterWindow_199 : decode cX1_enterWindow 199 = .ok (.getfield 18, 3) := by decide +kernel
theorem dX1_enterWindow_202 : decode cX1_enterWindow 202 = .ok (.invokevirtual 167, 3) := by decide +kernel
theorem dX1_enterWindow_205 : decode cX1_enterWindow 205 = .ok (.lstore 9, 2) := by decide +kernel
theorem dX1_enterWindow_207 : decode cX1_enterWindow 207 = .ok (.aload 6, 2) := by decide +kernel
theorem dX1_enterWindow_209 : decode cX1_enterWindow 209 = .ok (.iload 7, 2) := by decide +kernel
theorem dX1_enterWindow_211 : decode cX1_enterWindow 211 = .ok (.iload 8, 2) := by decide +kernel
theorem dX1_enterWindow_213 : decode cX1_enterWindow 213 = .ok (.iconst 2, 1) := by decide +kernel
theorem dX1_enterWindow_214 : decode cX1_enterWindow 214 = .ok (.isub, 1) := by decide +kernel
theorem dX1_enterWindow_215 : decode cX1_enterWindow 215 = .ok (.aload_n 3, 1) := by decide +kernel
theorem dX1_enterWindow_216 : decode cX1_enterWindow 216 = .ok (.getfield 227, 3) := by decide +kernel
theorem dX1_enterWindow_219 : decode cX1_enterWindow 219 = .ok (.iload 8, 2) := by decide +kernel
theorem dX1_enterWindow_221 : decode cX1_enterWindow 221 = .ok (.iaload, 1) := by decide +kernel
theorem dX1_enterWindow_222 : decode cX1_enterWindow 222 = .ok (.lload 9, 2) := by decide +kernel
theorem dX1_enterWindow_224 : decode cX1_enterWindow 224 = .ok (.invokevirtual 279, 3) := by decide +kernel
theorem dX1_enterWindow_227 : decode cX1_enterWindow 227 = .ok (.iinc 8 1, 3) := by decide +kernel
theorem dX1_enterWindow_230 : decode cX1_enterWindow 230 = .ok (.goto (-83), 3) := by decide +kernel
theorem dX1_enterWindow_233 : decode cX1_enterWindow 233 = .ok (.aload 6, 2) := by decide +kernel
theorem dX1_enterWindow_235 : decode cX1_enterWindow 235 = .ok (.iload 7, 2) := by decide +kernel
theorem dX1_enterWindow_237 : decode cX1_enterWindow 237 = .ok (.aload_n 3, 1) := by decide +kernel
theorem dX1_enterWindow_238 : decode cX1_enterWindow 238 = .ok (.getfield 130, 3) := by decide +kernel
theorem dX1_enterWindow_241 : decode cX1_enterWindow 241 = .ok (.aload_n 3, 1) := by decide +kernel
theorem dX1_enterWindow_242 : decode cX1_enterWindow 242 = .ok (.getfield 120, 3) := by decide +kernel
theorem dX1_enterWindow_245 : decode cX1_enterWindow 245 = .ok (.iconst 2, 1) := by decide +kernel
theorem dX1_enterWindow_246 : decode cX1_enterWindow 246 = .ok (.isub, 1) := by decide +kernel
theorem dX1_enterWindow_247 : decode cX1_enterWindow 247 = .ok (.aload_n 0, 1) := by decide +kernel
theorem dX1_enterWindow_248 : decode cX1_enterWindow 248 = .ok (.getfield 25, 3) := by decide +kernel
theorem dX1_enterWindow_251 : decode cX1_enterWindow 251 = .ok (.invokevirtual 283, 3) := by decide +kernel
theorem dX1_enterWindow_254 : decode cX1_enterWindow 254 = .ok (.iload 5, 2) := by decide +kernel
theorem dX1_enterWindow_256 : decode cX1_enterWindow 256 = .ok (.ifCond .ne 7, 3) := by decide +kernel
theorem dX1_enterWindow_259 : decode cX1_enterWindow 259 = .ok (.iload_n 2, 1) := by decide +kernel
theorem dX1_enterWindow_260 : decode cX1_enterWindow 260 = .ok (.ifCond .eq 7, 3) := by decide +kernel
theorem dX1_enterWindow_263 : decode cX1_enterWindow 263 = .ok (.iconst 1, 1) := by decide +kernel
theorem dX1_enterWindow_264 : decode cX1_enterWindow 264 = .ok (.goto 4, 3) := by decide +kernel
theorem dX1_enterWindow_267 : decode cX1_enterWindow 267 = .ok (.iconst 0, 1) := by decide +kernel
theorem dX1_enterWindow_268 : decode cX1_enterWindow 268 = .ok (.ireturn, 1) := by decide +kernel
theorem dX1_leastWatermark_0 : decode cX1_leastWatermark 0 = .ok (.aload_n 0, 1) := by decide +kernel
theorem dX1_leastWatermark_1 : decode cX1_leastWatermark 1 = .ok (.aload_n 1, 1) := by decide +kernel
theorem dX1_leastWatermark_2 : decode cX1_leastWatermark 2 = .ok (.iconst 0, 1) := by decide +kernel
theorem dX1_leastWatermark_3 : decode cX1_leastWatermark 3 = .ok (.invokevirtual 188, 3) := by decide +kernel
theorem dX1_leastWatermark_6 : decode cX1_leastWatermark 6 = .ok (.astore_n 2, 1) := by decide +kernel
theorem dX1_leastWatermark_7 : decode cX1_leastWatermark 7 = .ok (.aload_n 0, 1) := by decide +kernel
theorem dX1_leastWatermark_8 : decode cX1_leastWatermark 8 = .ok (.aload_n 1, 1) := by decide +kernel
theorem dX1_leastWatermark_9 : decode cX1_leastWatermark 9 = .ok (.iconst 1, 1) := by decide +kernel
theorem dX1_leastWatermark_10 : decode cX1_leastWatermark 10 = .ok (.invokevirtual 188, 3) := by decide +kernel
theorem dX1_leastWatermark_13 : decode cX1_leastWatermark 13 = .ok (.astore_n 3, 1) := by decide +kernel
theorem dX1_leastWatermark_14 : decode cX1_leastWatermark 14 = .ok (.aload_n 2, 1) := by decide +kernel
theorem dX1_leastWatermark_15 : decode cX1_leastWatermark 15 = .ok (.ifnonnull 8, 3) := by decide +kernel
theorem dX1_leastWatermark_18 : decode cX1_leastWatermark 18 = .ok (.aload_n 1, 1) := by decide +kernel
theorem dX1_leastWatermark_19 : decode cX1_leastWatermark 19 = .ok (.getfield 105, 3) := by decide +kernel
theorem dX1_leastWatermark_22 : decode cX1_leastWatermark 22 = .ok (.ireturn, 1) := by decide +kernel
theorem dX1_leastWatermark_23 : decode cX1_leastWatermark 23 = .ok (.aload_n 3, 1) := by decide +kernel
theorem dX1_leastWatermark_24 : decode cX1_leastWatermark 24 = .ok (.ifnonnull 10, 3) := by decide +kernel
theorem dX1_leastWatermark_27 : decode cX1_leastWatermark 27 = .ok (.aload_n 2, 1) := by decide +kernel
theorem dX1_leastWatermark_28 : decode cX1_leastWatermark 28 = .ok (.getfield 105, 3) := by decide +kernel
theorem dX1_leastWatermark_31 : decode cX1_leastWatermark 31 = .ok (.goto 14, 3) := by decide +kernel
theorem dX1_leastWatermark_34 : decode cX1_leastWatermark 34 = .ok (.aload_n 2, 1) := by decide +kernel
theorem dX1_leastWatermark_35 : decode cX1_leastWatermark 35 = .ok (.getfield 105, 3) := by decide +kernel
theorem dX1_leastWatermark_38 : decode cX1_leastWatermark 38 = .ok (.aload_n 3, 1) := by decide +kernel
theorem dX1_leastWatermark_39 : decode cX1_leastWatermark 39 = .ok (.getfield 105, 3) := by decide +kernel
theorem dX1_leastWatermark_42 : decode cX1_leastWatermark 42 = .ok (.invokestatic 286, 3) := by decide +kernel
theorem dX1_leastWatermark_45 : decode cX1_leastWatermark 45 = .ok (.ireturn, 1) := by decide +kernel
theorem dX1_closeWindows_0 : decode cX1_closeWindows 0 = .ok (.iconst 0, 1) := by decide +kernel
theorem dX1_closeWindows_1 : decode cX1_closeWindows 1 = .ok (.istore_n 3, 1) := by decide +kernel
theorem dX1_closeWindows_2 : decode cX1_closeWindows 2 = .ok (.iload_n 3, 1) := by decide +kernel
theorem dX1_closeWindows_3 : decode cX1_closeWindows 3 = .ok (.bipush 60, 2) := by decide +kernel
theorem dX1_closeWindows_5 : decode cX1_closeWindows 5 = .ok (.if_icmp .ge 62, 3) := by decide +kernel
theorem dX1_closeWindows_8 : decode cX1_closeWindows 8 = .ok (.aload_n 2, 1) := by decide +kernel
theorem dX1_closeWindows_9 : decode cX1_closeWindows 9 = .ok (.getfield 266, 3) := by decide +kernel
theorem dX1_closeWindows_12 : decode cX1_closeWindows 12 = .ok (.aload_n 2, 1) := by decide +kernel
theorem dX1_closeWindows_13 : decode cX1_closeWindows 13 = .ok (.getfield 105, 3) := by decide +kernel
theorem dX1_closeWindows_16 : decode cX1_closeWindows 16 = .ok (.invokevirtual 289, 3) := by decide +kernel
theorem dX1_closeWindows_19 : decode cX1_closeWindows 19 = .ok (.istore 4, 2) := by decide +kernel
theorem dX1_closeWindows_21 : decode cX1_closeWindows 21 = .ok (.iload 4, 2) := by decide +kernel
theorem dX1_closeWindows_23 : decode cX1_closeWindows 23 = .ok (.ifCond .ge 6, 3) := by decide +kernel
theorem dX1_closeWindows_26 : decode cX1_closeWindows 26 = .ok (.goto 41, 3) := by decide +kernel
theorem dX1_closeWindows_29 : decode cX1_closeWindows 29 = .ok (.aload_n 2, 1) := by decide +kernel
theorem dX1_closeWindows_30 : decode cX1_closeWindows 30 = .ok (.getfield 266, 3) := by decide +kernel
theorem dX1_closeWindows_33 : decode cX1_closeWindows 33 = .ok (.iload 4, 2) := by decide +kernel
theorem dX1_closeWindows_35 : decode cX1_closeWindows 35 = .ok (.aload_n 2, 1) := by decide +kernel
theorem dX1_closeWindows_36 : decode cX1_closeWindows 36 = .ok (.getfield 130, 3) := by decide +kernel
theorem dX1_closeWindows_39 : decode cX1_closeWindows 39 = .ok (.aload_n 2, 1) := by decide +kernel
theorem dX1_closeWindows_40 : decode cX1_closeWindows 40 = .ok (.getfield 120, 3) := by decide +kernel
theorem dX1_closeWindows_43 : decode cX1_closeWindows 43 = .ok (.iconst 2, 1) := by decide +kernel
theorem dX1_closeWindows_44 : decode cX1_closeWindows 44 = .ok (.isub, 1) := by decide +kernel
theorem dX1_closeWindows_45 : decode cX1_closeWindows 45 = .ok (.aload_n 0, 1) := by decide +kernel
theorem dX1_closeWindows_46 : decode cX1_closeWindows 46 = .ok (.getfield 25, 3) := by decide +kernel
theorem dX1_closeWindows_49 : decode cX1_closeWindows 49 = .ok (.invokevirtual 283, 3) := by decide +kernel
theorem dX1_closeWindows_52 : decode cX1_closeWindows 52 = .ok (.aload_n 0, 1) := by decide +kernel
theorem dX1_closeWindows_53 : decode cX1_closeWindows 53 = .ok (.iload_n 1, 1) := by decide +kernel
theorem dX1_closeWindows_54 : decode cX1_closeWindows 54 = .ok (.aload_n 0, 1) := by decide +kernel
theorem dX1_closeWindows_55 : decode cX1_closeWindows 55 = .ok (.getfield 25, 3) := by decide +kernel
theorem dX1_closeWindows_58 : decode cX1_closeWindows 58 = .ok (.invokevirtual 139, 3) := by decide +kernel
theorem dX1_closeWindows_61 : decode cX1_closeWindows 61 = .ok (.iinc 3 1, 3) := by decide +kernel
theorem dX1_closeWindows_64 : decode cX1_closeWindows 64 = .ok (.goto (-62), 3) := by decide +kernel
theorem dX1_closeWindows_67 : decode cX1_closeWindows 67 = .ok (.aload_n 2, 1) := by decide +kernel
theorem dX1_closeWindows_68 : decode cX1_closeWindows 68 = .ok (.getfield 266, 3) := by decide +kernel
theorem dX1_closeWindows_71 : decode cX1_closeWindows 71 = .ok (.aload_n 2, 1) := by decide +kernel
theorem dX1_closeWindows_72 : decode cX1_closeWindows 72 = .ok (.getfield 105, 3) := by decide +kernel
theorem dX1_closeWindows_75 : decode cX1_closeWindows 75 = .ok (.aload_n 2, 1) := by decide +kernel
theorem dX1_closeWindows_76 : decode cX1_closeWindows 76 = .ok (.getfield 263, 3) := by decide +kernel
theorem dX1_closeWindows_79 : decode cX1_closeWindows 79 = .ok (.invokevirtual 292, 3) := by decide +kernel
theorem dX1_closeWindows_82 : decode cX1_closeWindows 82 = .ok (.return_, 1) := by decide +kernel
theorem dX2_init_0 : decode cX2_init 0 = .ok (.aload_n 0, 1) := by decide +kernel
theorem dX2_init_1 : decode cX2_init 1 = .ok (.invokespecial 1, 3) := by decide +kernel
theorem dX2_init_4 : decode cX2_init 4 = .ok (.aload_n 0, 1) := by decide +kernel
theorem dX2_init_5 : decode cX2_init 5 = .ok (.new 7, 3) := by decide +kernel
theorem dX2_init_8 : decode cX2_init 8 = .ok (.dup, 1) := by decide +kernel
theorem dX2_init_9 : decode cX2_init 9 = .ok (.invokespecial 9, 3) := by decide +kernel
theorem dX2_init_12 : decode cX2_init 12 = .ok (.putfield 10, 3) := by decide +kernel
theorem dX2_init_15 : decode cX2_init 15 = .ok (.return_, 1) := by decide +kernel
theorem dX3_init_0 : decode cX3_init 0 = .ok (.aload_n 0, 1) := by decide +kernel
theorem dX3_init_1 : decode cX3_init 1 = .ok (.invokespecial 3, 3) := by decide +kernel
theorem dX3_init_4 : decode cX3_init 4 = .ok (.aload_n 0, 1) := by decide +kernel
theorem dX3_init_5 : decode cX3_init 5 = .ok (.sipush 1500, 3) := by decide +kernel
theorem dX3_init_8 : decode cX3_init 8 = .ok (.newarray .long, 2) := by decide +kernel
theorem dX3_init_10 : decode cX3_init 10 = .ok (.putfield 9, 3) := by decide +kernel
theorem dX3_init_13 : decode cX3_init 13 = .ok (.aload_n 0, 1) := by decide +kernel
theorem dX3_init_14 : decode cX3_init 14 = .ok (.aload_n 1, 1) := by decide +kernel
theorem dX3_init_15 : decode cX3_init 15 = .ok (.putfield 15, 3) := by decide +kernel
theorem dX3_init_18 : decode cX3_init 18 = .ok (.aload_n 0, 1) := by decide +kernel
theorem dX3_init_19 : decode cX3_init 19 = .ok (.aload_n 1, 1) := by decide +kernel
theorem dX3_init_20 : decode cX3_init 20 = .ok (.getfield 19, 3) := by decide +kernel
theorem dX3_init_23 : decode cX3_init 23 = .ok (.iconst 0, 1) := by decide +kernel
theorem dX3_init_24 : decode cX3_init 24 = .ok (.aaload, 1) := by decide +kernel
theorem dX3_init_25 : decode cX3_init 25 = .ok (.putfield 25, 3) := by decide +kernel
theorem dX3_init_28 : decode cX3_init 28 = .ok (.aload_n 0, 1) := by decide +kernel
theorem dX3_init_29 : decode cX3_init 29 = .ok (.aload_n 1, 1) := by decide +kernel
theorem dX3_init_30 : decode cX3_init 30 = .ok (.getfield 19, 3) := by decide +kernel
theorem dX3_init_33 : decode cX3_init 33 = .ok (.iconst 0, 1) := by decide +kernel
theorem dX3_init_34 : decode cX3_init 34 = .ok (.aaload, 1) := by decide +kernel
theorem dX3_init_35 : decode cX3_init 35 = .ok (.putfield 29, 3) := by decide +kernel
theorem dX3_init_38 : decode cX3_init 38 = .ok (.aload_n 0, 1) := by decide +kernel
theorem dX3_init_39 : decode cX3_init 39 = .ok (.aload_n 1, 1) := by decide +kernel
theorem dX3_init_40 : decode cX3_init 40 = .ok (.getfield 19, 3) := by decide +kernel
theorem dX3_init_43 : decode cX3_init 43 = .ok (.iconst 0, 1) := by decide +kernel
theorem dX3_init_44 : decode cX3_init 44 = .ok (.aaload, 1) := by decide +kernel
theorem dX3_init_45 : decode cX3_init 45 = .ok (.putfield 32, 3) := by decide +kernel
theorem dX3_init_48 : decode cX3_init 48 = .ok (.aload_n 0, 1) := by decide +kernel
theorem dX3_init_49 : decode cX3_init 49 = .ok (.aload_n 1, 1) := by decide +kernel
theorem dX3_init_50 : decode cX3_init 50 = .ok (.getfield 35, 3) := by decide +kernel
theorem dX3_init_53 : decode cX3_init 53 = .ok (.iconst 0, 1) := by decide +kernel
theorem dX3_init_54 : decode cX3_init 54 = .ok (.aaload, 1) := by decide +kernel
theorem dX3_init_55 : decode cX3_init 55 = .ok (.putfield 39, 3) := by decide +kernel
theorem dX3_init_58 : decode cX3_init 58 = .ok (.return_, 1) := by decide +kernel
theorem dX3_begin_0 : decode cX3_begin 0 = .ok (.aload_n 0, 1) := by decide +kernel
theorem dX3_begin_1 : decode cX3_begin 1 = .ok (.aload_n 1, 1) := by decide +kernel
theorem dX3_begin_2 : decode cX3_begin 2 = .ok (.putfield 15, 3) := by decide +kernel
theorem dX3_begin_5 : decode cX3_begin 5 = .ok (.aload_n 0, 1) := by decide +kernel
theorem dX3_begin_6 : decode cX3_begin 6 = .ok (.getfield 15, 3) := by decide +kernel
theorem dX3_begin_9 : decode cX3_begin 9 = .ok (.iconst 0, 1) := by decide +kernel
theorem dX3_begin_10 : decode cX3_begin 10 = .ok (.putfield 43, 3) := by decide +kernel
theorem dX3_begin_13 : decode cX3_begin 13 = .ok (.aload_n 0, 1) := by decide +kernel
theorem dX3_begin_14 : decode cX3_begin 14 = .ok (.getfield 15, 3) := by decide +kernel
theorem dX3_begin_17 : decode cX3_begin 17 = .ok (.iconst 0, 1) := by decide +kernel
theorem dX3_begin_18 : decode cX3_begin 18 = .ok (.putfield 47, 3) := by decide +kernel
theorem dX3_begin_21 : decode cX3_begin 21 = .ok (.aload_n 0, 1) := by decide +kernel
theorem dX3_begin_22 : decode cX3_begin 22 = .ok (.getfield 15, 3) := by decide +kernel
theorem dX3_begin_25 : decode cX3_begin 25 = .ok (.iconst 0, 1) := by decide +kernel
theorem dX3_begin_26 : decode cX3_begin 26 = .ok (.putfield 50, 3) := by decide +kernel
theorem dX3_begin_29 : decode cX3_begin 29 = .ok (.aload_n 0, 1) := by decide +kernel
theorem dX3_begin_30 : decode cX3_begin 30 = .ok (.iconst 0, 1) := by decide +kernel
theorem dX3_begin_31 : decode cX3_begin 31 = .ok (.putfield 53, 3) := by decide +kernel
theorem dX3_begin_34 : decode cX3_begin 34 = .ok (.aload_n 0, 1) := by decide +kernel
theorem dX3_begin_35 : decode cX3_begin 35 = .ok (.iconst (-1), 1) := by decide +kernel
theorem dX3_begin_36 : decode cX3_begin 36 = .ok (.putfield 56, 3) := by decide +kernel
theorem dX3_begin_39 : decode cX3_begin 39 = .ok (.return_, 1) := by decide +kernel
theorem dX3_startStream_0 : decode cX3_startStream 0 = .ok (.aload_n 0, 1) := by decide +kernel
theorem dX3_startStream_1 : decode cX3_startStream 1 = .ok (.getfield 53, 3) := by decide +kernel
theorem dX3_startStream_4 : decode cX3_startStream 4 = .ok (.ifCond .eq 4, 3) := by decide +kernel
theorem dX3_startStream_7 : decode cX3_startStream 7 = .ok (.return_, 1) := by decide +kernel
theorem dX3_startStream_8 : decode cX3_startStream 8 = .ok (.aload_n 0, 1) := by decide +kernel
theorem dX3_startStream_9 : decode cX3_startStream 9 = .ok (.iconst 0, 1) := by decide +kernel
theorem dX3_startStream_10 : decode cX3_startStream 10 = .ok (.putfield 59, 3) := by decide +kernel
theorem dX3_startStream_13 : decode cX3_startStream 13 = .ok (.aload_n 0, 1) := by decide +kernel
theorem dX3_startStream_14 : decode cX3_startStream 14 = .ok (.getfield 15, 3) := by decide +kernel
theorem dX3_startStream_17 : decode cX3_startStream 17 = .ok (.getfield 43, 3) := by decide +kernel
theorem dX3_startStream_20 : decode cX3_startStream 20 = .ok (.bipush 12, 2) := by decide +kernel
theorem dX3_startStream_22 : decode cX3_startStream 22 = .ok (.if_icmp .lt 10, 3) := by decide +kernel
theorem dX3_startStream_25 : decode cX3_startStream 25 = .ok (.aload_n 0, 1) := by decide +kernel
theorem dX3_startStream_26 : decode cX3_startStream 26 = .ok (.iconst 4, 1) := by decide +kernel
theorem dX3_startStream_27 : decode cX3_startStream 27 = .ok (.iload_n 1, 1) := by decide +kernel
theorem dX3_startStream_28 : decode cX3_startStream 28 = .ok (.invokevirtual 63, 3) := by decide +kernel
theorem dX3_startStream_31 : decode cX3_startStream 31 = .ok (.return_, 1) := by decide +kernel
theorem dX3_startStream_32 : decode cX3_startStream 32 = .ok (.aload_n 0, 1) := by decide +kernel
theorem dX3_startStream_33 : decode cX3_startStream 33 = .ok (.aload_n 0, 1) := by decide +kernel
theorem dX3_startStream_34 : decode cX3_startStream 34 = .ok (.getfield 15, 3) := by decide +kernel
theorem dX3_startStream_37 : decode cX3_startStream 37 = .ok (.getfield 19, 3) := by decide +kernel
theorem dX3_startStream_40 : decode cX3_startStream 40 = .ok (.aload_n 0, 1) := by decide +kernel
theorem dX3_startStream_41 : decode cX3_startStream 41 = .ok (.getfield 15, 3) := by decide +kernel
theorem dX3_startStream_44 : decode cX3_startStream 44 = .ok (.getfield 43, 3) := by decide +kernel
theorem dX3_startStream_47 : decode cX3_startStream 47 = .ok (.aaload, 1) := by decide +kernel
theorem dX3_startStream_48 : decode cX3_startStream 48 = .ok (.putfield 25, 3) := by decide +kernel
theorem dX3_startStream_51 : decode cX3_startStream 51 = .ok (.aload_n 0, 1) := by decide +kernel
theorem dX3_startStream_52 : decode cX3_startStream 52 = .ok (.getfield 25, 3) := by decide +kernel
theorem dX3_startStream_55 : decode cX3_startStream 55 = .ok (.invokevirtual 67, 3) := by decide +kernel
theorem dX3_startStream_58 : decode cX3_startStream 58 = .ok (.aload_n 0, 1) := by decide +kernel
theorem dX3_startStream_59 : decode cX3_startStream 59 = .ok (.iconst 0, 1) := by decide +kernel
theorem dX3_startStream_60 : decode cX3_startStream 60 = .ok (.putfield 72, 3) := by decide +kernel
theorem dX3_startStream_63 : decode cX3_startStream 63 = .ok (.return_, 1) := by decide +kernel
theorem dX3_startCheck_0 : decode cX3_startCheck 0 = .ok (.aload_n 0, 1) := by decide +kernel
theorem dX3_startCheck_1 : decode cX3_startCheck 1 = .ok (.getfield 53, 3) := by decide +kernel
theorem dX3_startCheck_4 : decode cX3_startCheck 4 = .ok (.ifCond .eq 4, 3) := by decide +kernel
theorem dX3_startCheck_7 : decode cX3_startCheck 7 = .ok (.return_, 1) := by decide +kernel
theorem dX3_startCheck_8 : decode cX3_startCheck 8 = .ok (.aload_n 0, 1) := by decide +kernel
theorem dX3_startCheck_9 : decode cX3_startCheck 9 = .ok (.iconst 1, 1) := by decide +kernel
theorem dX3_startCheck_10 : decode cX3_startCheck 10 = .ok (.putfield 59, 3) := by decide +kernel
theorem dX3_startCheck_13 : decode cX3_startCheck 13 = .ok (.aload_n 0, 1) := by decide +kernel
theorem dX3_startCheck_14 : decode cX3_startCheck 14 = .ok (.getfield 15, 3) := by decide +kernel
theorem dX3_startCheck_17 : decode cX3_startCheck 17 = .ok (.getfield 47, 3) := by decide +kernel
theorem dX3_startCheck_20 : decode cX3_startCheck 20 = .ok (.bipush 8, 2) := by decide +kernel
theorem dX3_startCheck_22 : decode cX3_startCheck 22 = .ok (.if_icmp .lt 10, 3) := by decide +kernel
theorem dX3_startCheck_25 : decode cX3_startCheck 25 = .ok (.aload_n 0, 1) := by decide +kernel
theorem dX3_startCheck_26 : decode cX3_startCheck 26 = .ok (.iconst 4, 1) := by decide +kernel
theorem dX3_startCheck_27 : decode cX3_startCheck 27 = .ok (.iload_n 1, 1) := by decide +kernel
theorem dX3_startCheck_28 : decode cX3_startCheck 28 = .ok (.invokevirtual 63, 3) := by decide +kernel
theorem dX3_startCheck_31 : decode cX3_startCheck 31 = .ok (.return_, 1) := by decide +kernel
theorem dX3_startCheck_32 : decode cX3_startCheck 32 = .ok (.aload_n 0, 1) := by decide +kernel
theorem dX3_startCheck_33 : decode cX3_startCheck 33 = .ok (.aload_n 0, 1) := by decide +kernel
theorem dX3_startCheck_34 : decode cX3_startCheck 34 = .ok (.getfield 15, 3) := by decide +kernel
theorem dX3_startCheck_37 : decode cX3_startCheck 37 = .ok (.getfield 35, 3) := by decide +kernel
theorem dX3_startCheck_40 : decode cX3_startCheck 40 = .ok (.aload_n 0, 1) := by decide +kernel
theorem dX3_startCheck_41 : decode cX3_startCheck 41 = .ok (.getfield 15, 3) := by decide +kernel
theorem dX3_startCheck_44 : decode cX3_startCheck 44 = .ok (.getfield 47, 3) := by decide +kernel
theorem dX3_startCheck_47 : decode cX3_startCheck 47 = .ok (.aaload, 1) := by decide +kernel
theorem dX3_startCheck_48 : decode cX3_startCheck 48 = .ok (.putfield 39, 3) := by decide +kernel
theorem dX3_startCheck_51 : decode cX3_startCheck 51 = .ok (.return_, 1) := by decide +kernel
theorem dX3_startWork_0 : decode cX3_startWork 0 = .ok (.aload_n 0, 1) := by decide +kernel
theorem dX3_startWork_1 : decode cX3_startWork 1 = .ok (.getfield 53, 3) := by decide +kernel
theorem dX3_startWork_4 : decode cX3_startWork 4 = .ok (.ifCond .ne 16, 3) := by decide +kernel
theorem dX3_startWork_7 : decode cX3_startWork 7 = .ok (.aload_n 0, 1) := by decide +kernel
theorem dX3_startWork_8 : decode cX3_startWork 8 = .ok (.getfield 25, 3) := by decide +kernel
theorem dX3_startWork_11 : decode cX3_startWork 11 = .ok (.iload_n 1, 1) := by decide +kernel
theorem dX3_startWork_12 : decode cX3_startWork 12 = .ok (.putfield 75, 3) := by decide +kernel
theorem dX3_startWork_15 : decode cX3_startWork 15 = .ok (.aload_n 0, 1) := by decide +kernel
theorem dX3_startWork_16 : decode cX3_startWork 16 = .ok (.iload_n 2, 1) := by decide +kernel
theorem dX3_startWork_17 : decode cX3_startWork 17 = .ok (.putfield 78, 3) := by decide +kernel
theorem dX3_startWork_20 : decode cX3_startWork 20 = .ok (.return_, 1) := by decide +kernel
theorem dX3_lookAtName_0 : decode cX3_lookAtName 0 = .ok (.aload_n 0, 1) := by decide +kernel
theorem dX3_lookAtName_1 : decode cX3_lookAtName 1 = .ok (.getfield 53, 3) := by decide +kernel
theorem dX3_lookAtName_4 : decode cX3_lookAtName 4 = .ok (.ifCond .eq 4, 3) := by decide +kernel
theorem dX3_lookAtName_7 : decode cX3_lookAtName 7 = .ok (.return_, 1) := by decide +kernel
theorem dX3_lookAtName_8 : decode cX3_lookAtName 8 = .ok (.iload_n 1, 1) := by decide +kernel
theorem dX3_lookAtName_9 : decode cX3_lookAtName 9 = .ok (.tableswitch 99 0 5 #[39, 49, 59, 69, 79, 89], 39) := by decide +kernel
theorem dX3_lookAtName_48 : decode cX3_lookAtName 48 = .ok (.aload_n 0, 1) := by decide +kernel
theorem dX3_lookAtName_49 : decode cX3_lookAtName 49 = .ok (.lload_n 2, 1) := by decide +kernel
theorem dX3_lookAtName_50 : decode cX3_lookAtName 50 = .ok (.iload 4, 2) := by decide +kernel
theorem dX3_lookAtName_52 : decode cX3_lookAtName 52 = .ok (.invokevirtual 81, 3) := by decide +kernel
theorem dX3_lookAtName_55 : decode cX3_lookAtName 55 = .ok (.goto 53, 3) := by decide +kernel
theorem dX3_lookAtName_58 : decode cX3_lookAtName 58 = .ok (.aload_n 0, 1) := by decide +kernel
theorem dX3_lookAtName_59 : decode cX3_lookAtName 59 = .ok (.lload_n 2, 1) := by decide +kernel
theorem dX3_lookAtName_60 : decode cX3_lookAtName 60 = .ok (.iload 4, 2) := by decide +kernel
theorem dX3_lookAtName_62 : decode cX3_lookAtName 62 = .ok (.invokevirtual 85, 3) := by decide +kernel
theorem dX3_lookAtName_65 : decode cX3_lookAtName 65 = .ok (.goto 43, 3) := by decide +kernel
theorem dX3_lookAtName_68 : decode cX3_lookAtName 68 = .ok (.aload_n 0, 1) := by decide +kernel
theorem dX3_lookAtName_69 : decode cX3_lookAtName 69 = .ok (.lload_n 2, 1) := by decide +kernel
theorem dX3_lookAtName_70 : decode cX3_lookAtName 70 = .ok (.iload 4, 2) := by decide +kernel
theorem dX3_lookAtName_72 : decode cX3_lookAtName 72 = .ok (.invokevirtual 88, 3) := by decide +kernel
theorem dX3_lookAtName_75 : decode cX3_lookAtName 75 = .ok (.goto 33, 3) := by decide +kernel
theorem dX3_lookAtName_78 : decode cX3_lookAtName 78 = .ok (.aload_n 0, 1) := by decide +kernel
theorem dX3_lookAtName_79 : decode cX3_lookAtName 79 = .ok (.lload_n 2, 1) := by decide +kernel
theorem dX3_lookAtName_80 : decode cX3_lookAtName 80 = .ok (.iload 4, 2) := by decide +kernel
theorem dX3_lookAtName_82 : decode cX3_lookAtName 82 = .ok (.invokevirtual 91, 3) := by decide +kernel
theorem dX3_lookAtName_85 : decode cX3_lookAtName 85 = .ok (.goto 23, 3) := by decide +kernel
theorem dX3_lookAtName_88 : decode cX3_lookAtName 88 = .ok (.aload_n 0, 1) := by decide +kernel
theorem dX3_lookAtName_89 : decode cX3_lookAtName 89 = .ok (.lload_n 2, 1) := by decide +kernel
theorem dX3_lookAtName_90 : decode cX3_lookAtName 90 = .ok (.iload 4, 2) := by decide +kernel
theorem dX3_lookAtName_92 : decode cX3_lookAtName 92 = .ok (.invokevirtual 94, 3) := by decide +kernel
theorem dX3_lookAtName_95 : decode cX3_lookAtName 95 = .ok (.goto 13, 3) := by decide +kernel
theorem dX3_lookAtName_98 : decode cX3_lookAtName 98 = .ok (.aload_n 0, 1) := by decide +kernel
theorem dX3_lookAtName_99 : decode cX3_lookAtName 99 = .ok (.lload_n 2, 1) := by decide +kernel
theorem dX3_lookAtName_100 : decode cX3_lookAtName 100 = .ok (.iload 4, 2) := by decide +kernel
theorem dX3_lookAtName_102 : decode cX3_lookAtName 102 = .ok (.invokevirtual 97, 3) := by decide +kernel
theorem dX3_lookAtName_105 : decode cX3_lookAtName 105 = .ok (.goto 3, 3) := by decide +kernel
theorem dX3_lookAtName_108 : decode cX3_lookAtName 108 = .ok (.return_, 1) := by decide +kernel
theorem dX3_lookAtRange_0 : decode cX3_lookAtRange 0 = .ok (.aload_n 0, 1) := by decide +kernel
theorem dX3_lookAtRange_1 : decode cX3_lookAtRange 1 = .ok (.getfield 53, 3) := by decide +kernel
theorem dX3_lookAtRange_4 : decode cX3_lookAtRange 4 = .ok (.ifCond .eq 4, 3) := by decide +kernel
theorem dX3_lookAtRange_7 : decode cX3_lookAtRange 7 = .ok (.return_, 1) := by decide +kernel
theorem dX3_lookAtRange_8 : decode cX3_lookAtRange 8 = .ok (.iload_n 1, 1) := by decide +kernel
theorem dX3_lookAtRange_9 : decode cX3_lookAtRange 9 = .ok (.sipush 143, 3) := by decide +kernel
theorem dX3_lookAtRange_12 : decode cX3_lookAtRange 12 = .ok (.if_icmp .ne 7, 3) := by decide +kernel
theorem dX3_lookAtRange_15 : decode cX3_lookAtRange 15 = .ok (.lconst 1, 1) := by decide +kernel
theorem dX3_lookAtRange_16 : decode cX3_lookAtRange 16 = .ok (.goto 4, 3) := by decide +kernel
theorem dX3_lookAtRange_19 : decode cX3_lookAtRange 19 = .ok (.lconst 0, 1) := by decide +kernel
theorem dX3_lookAtRange_20 : decode cX3_lookAtRange 20 = .ok (.lstore 5, 2) := by decide +kernel
theorem dX3_lookAtRange_22 : decode cX3_lookAtRange 22 = .ok (.lload_n 2, 1) := by decide +kernel
theorem dX3_lookAtRange_23 : decode cX3_lookAtRange 23 = .ok (.lload 5, 2) := by decide +kernel
theorem dX3_lookAtRange_25 : decode cX3_lookAtRange 25 = .ok (.lcmp, 1) := by decide +kernel
theorem dX3_lookAtRange_26 : decode cX3_lookAtRange 26 = .ok (.ifCond .lt 11, 3) := by decide +kernel
theorem dX3_lookAtRange_29 : decode cX3_lookAtRange 29 = .ok (.lload_n 2, 1) := by decide +kernel
theorem dX3_lookAtRange_30 : decode cX3_lookAtRange 30 = .ok (.ldc2_w 100, 3) := by decide +kernel
theorem dX3_lookAtRange_33 : decode cX3_lookAtRange 33 = .ok (.lcmp, 1) := by decide +kernel
theorem dX3_lookAtRange_34 : decode cX3_lookAtRange 34 = .ok (.ifCond .le 14, 3) := by decide +kernel
theorem dX3_lookAtRange_37 : decode cX3_lookAtRange 37 = .ok (.aload_n 0, 1) := by decide +kernel
theorem dX3_lookAtRange_38 : decode cX3_lookAtRange 38 = .ok (.bipush 6, 2) := by decide +kernel
theorem dX3_lookAtRange_40 : decode cX3_lookAtRange 40 = .ok (.iload 4, 2) := by decide +kernel
theorem dX3_lookAtRange_42 : decode cX3_lookAtRange 42 = .ok (.invokevirtual 63, 3) := by decide +kernel
theorem dX3_lookAtRange_45 : decode cX3_lookAtRange 45 = .ok (.goto 31, 3) := by decide +kernel
theorem dX3_lookAtRange_48 : decode cX3_lookAtRange 48 = .ok (.iload_n 1, 1) := by decide +kernel
theorem dX3_lookAtRange_49 : decode cX3_lookAtRange 49 = .ok (.sipush 144, 3) := by decide +kernel
theorem dX3_lookAtRange_52 : decode cX3_lookAtRange 52 = .ok (.if_icmp .ne 15, 3) := by decide +kernel
theorem dX3_lookAtRange_55 : decode cX3_lookAtRange 55 = .ok (.aload_n 0, 1) := by decide +kernel
theorem dX3_lookAtRange_56 : decode cX3_lookAtRange 56 = .ok (.getfield 25, 3) := by decide +kernel
theorem dX3_lookAtRange_59 : decode cX3_lookAtRange 59 = .ok (.lload_n 2, 1) := by decide +kernel
theorem dX3_lookAtRange_60 : decode cX3_lookAtRange 60 = .ok (.l2i, 1) := by decide +kernel
theorem dX3_lookAtRange_61 : decode cX3_lookAtRange 61 = .ok (.putfield 102, 3) := by decide +kernel
theorem dX3_lookAtRange_64 : decode cX3_lookAtRange 64 = .ok (.goto 12, 3) := by decide +kernel
theorem dX3_lookAtRange_67 : decode cX3_lookAtRange 67 = .ok (.aload_n 0, 1) := by decide +kernel
theorem dX3_lookAtRange_68 : decode cX3_lookAtRange 68 = .ok (.getfield 25, 3) := by decide +kernel
theorem dX3_lookAtRange_71 : decode cX3_lookAtRange 71 = .ok (.lload_n 2, 1) := by decide +kernel
theorem dX3_lookAtRange_72 : decode cX3_lookAtRange 72 = .ok (.l2i, 1) := by decide +kernel
theorem dX3_lookAtRange_73 : decode cX3_lookAtRange 73 = .ok (.putfield 105, 3) := by decide +kernel
theorem dX3_lookAtRange_76 : decode cX3_lookAtRange 76 = .ok (.return_, 1) := by decide +kernel
theorem dX3_setTotal_0 : decode cX3_setTotal 0 = .ok (.aload_n 0, 1) := by decide +kernel
theorem dX3_setTotal_1 : decode cX3_setTotal 1 = .ok (.getfield 53, 3) := by decide +kernel
theorem dX3_setTotal_4 : decode cX3_setTotal 4 = .ok (.ifCond .ne 17, 3) := by decide +kernel
theorem dX3_setTotal_7 : decode cX3_setTotal 7 = .ok (.aload_n 0, 1) := by decide +kernel
theorem dX3_setTotal_8 : decode cX3_setTotal 8 = .ok (.getfield 25, 3) := by decide +kernel
theorem dX3_setTotal_11 : decode cX3_setTotal 11 = .ok (.aload_n 0, 1) := by decide +kernel
theorem dX3_setTotal_12 : decode cX3_setTotal 12 = .ok (.getfield 72, 3) := by decide +kernel
theorem dX3_setTotal_15 : decode cX3_setTotal 15 = .ok (.iconst 1, 1) := by decide +kernel
theorem dX3_setTotal_16 : decode cX3_setTotal 16 = .ok (.isub, 1) := by decide +kernel
theorem dX3_setTotal_17 : decode cX3_setTotal 17 = .ok (.iload_n 1, 1) := by decide +kernel
theorem dX3_setTotal_18 : decode cX3_setTotal 18 = .ok (.invokevirtual 108, 3) := by decide +kernel
theorem dX3_setTotal_21 : decode cX3_setTotal 21 = .ok (.return_, 1) := by decide +kernel
theorem dX3_startExpression_0 : decode cX3_startExpression 0 = .ok (.aload_n 0, 1) := by decide +kernel
theorem dX3_startExpression_1 : decode cX3_startExpression 1 = .ok (.aload_n 0, 1) := by decide +kernel
theorem dX3_startExpression_2 : decode cX3_startExpression 2 = .ok (.getfield 15, 3) := by decide +kernel
theorem dX3_startExpression_5 : decode cX3_startExpression 5 = .ok (.getfield 50, 3) := by decide +kernel
theorem dX3_startExpression_8 : decode cX3_startExpression 8 = .ok (.putfield 111, 3) := by decide +kernel
theorem dX3_startExpression_11 : decode cX3_startExpression 11 = .ok (.return_, 1) := by decide +kernel
theorem dX3_endExpression_0 : decode cX3_endExpression 0 = .ok (.aload_n 0, 1) := by decide +kernel
theorem dX3_endExpression_1 : decode cX3_endExpression 1 = .ok (.getfield 53, 3) := by decide +kernel
theorem dX3_endExpression_4 : decode cX3_endExpression 4 = .ok (.ifCond .eq 4, 3) := by decide +kernel
theorem dX3_endExpression_7 : decode cX3_endExpression 7 = .ok (.return_, 1) := by decide +kernel
theorem dX3_endExpression_8 : decode cX3_endExpression 8 = .ok (.aload_n 0, 1) := by decide +kernel
theorem dX3_endExpression_9 : decode cX3_endExpression 9 = .ok (.getfield 59, 3) := by decide +kernel
theorem dX3_endExpression_12 : decode cX3_endExpression 12 = .ok (.ifCond .eq 31, 3) := by decide +kernel
theorem dX3_endExpression_15 : decode cX3_endExpression 15 = .ok (.aload_n 0, 1) := by decide +kernel
theorem dX3_endExpression_16 : decode cX3_endExpression 16 = .ok (.getfield 39, 3) := by decide +kernel
theorem dX3_endExpression_19 : decode cX3_endExpression 19 = .ok (.aload_n 0, 1) := by decide +kernel
theorem dX3_endExpression_20 : decode cX3_endExpression 20 = .ok (.getfield 111, 3) := by decide +kernel
theorem dX3_endExpression_23 : decode cX3_endExpression 23 = .ok (.putfield 114, 3) := by decide +kernel
theorem dX3_endExpression_26 : decode cX3_endExpression 26 = .ok (.aload_n 0, 1) := by decide +kernel
theorem dX3_endExpression_27 : decode cX3_endExpression 27 = .ok (.getfield 39, 3) := by decide +kernel
theorem dX3_endExpression_30 : decode cX3_endExpression 30 = .ok (.aload_n 0, 1) := by decide +kernel
theorem dX3_endExpression_31 : decode cX3_endExpression 31 = .ok (.getfield 15, 3) := by decide +kernel
theorem dX3_endExpression_34 : decode cX3_endExpression 34 = .ok (.getfield 50, 3) := by decide +kernel
theorem dX3_endExpression_37 : decode cX3_endExpression 37 = .ok (.putfield 117, 3) := by decide +kernel
theorem dX3_endExpression_40 : decode cX3_endExpression 40 = .ok (.goto 44, 3) := by decide +kernel
theorem dX3_endExpression_43 : decode cX3_endExpression 43 = .ok (.aload_n 0, 1) := by decide +kernel
theorem dX3_endExpression_44 : decode cX3_endExpression 44 = .ok (.getfield 25, 3) := by decide +kernel
theorem dX3_endExpression_47 : decode cX3_endExpression 47 = .ok (.getfield 75, 3) := by decide +kernel
theorem dX3_endExpression_50 : decode cX3_endExpression 50 = .ok (.iconst 1, 1) := by decide +kernel
theorem dX3_endExpression_51 : decode cX3_endExpression 51 = .ok (.if_icmp .ne 7, 3) := by decide +kernel
theorem dX3_endExpression_54 : decode cX3_endExpression 54 = .ok (.iconst 0, 1) := by decide +kernel
theorem dX3_endExpression_55 : decode cX3_endExpression 55 = .ok (.goto 9, 3) := by decide +kernel
theorem dX3_endExpression_58 : decode cX3_endExpression 58 = .ok (.aload_n 0, 1) := by decide +kernel
theorem dX3_endExpression_59 : decode cX3_endExpression 59 = .ok (.getfield 72, 3) := by decide +kernel
theorem dX3_endExpression_62 : decode cX3_endExpression 62 = .ok (.iconst 1, 1) := by decide +kernel
theorem dX3_endExpression_63 : decode cX3_endExpression 63 = .ok (.isub, 1) := by decide +kernel
theorem dX3_endExpression_64 : decode cX3_endExpression 64 = .ok (.istore_n 1, 1) := by decide +kernel
theorem dX3_endExpression_65 : decode cX3_endExpression 65 = .ok (.aload_n 0, 1) := by decide +kernel
theorem dX3_endExpression_66 : decode cX3_endExpression 66 = .ok (.getfield 25, 3) := by decide +kernel
theorem dX3_endExpression_69 : decode cX3_endExpression 69 = .ok (.iload_n 1, 1) := by decide +kernel
theorem dX3_endExpression_70 : decode cX3_endExpression 70 = .ok (.aload_n 0, 1) := by decide +kernel
theorem dX3_endExpression_71 : decode cX3_endExpression 71 = .ok (.getfield 111, 3) := by decide +kernel
theorem dX3_endExpression_74 : decode cX3_endExpression 74 = .ok (.aload_n 0, 1) := by decide +kernel
theorem dX3_endExpression_75 : decode cX3_endExpression 75 = .ok (.getfield 15, 3) := by decide +kernel
theorem dX3_endExpression_78 : decode cX3_endExpression 78 = .ok (.getfield 50, 3) := by decide +kernel
theorem dX3_endExpression_81 : decode cX3_endExpression 81 = .ok (.invokevirtual 120, 3) := by decide +kernel
theorem dX3_endExpression_84 : decode cX3_endExpression 84 = .ok (.return_, 1) := by decide +kernel
theorem dX3_emit_0 : decode cX3_emit 0 = .ok (.aload_n 0, 1) := by decide +kernel
theorem dX3_emit_1 : decode cX3_emit 1 = .ok (.getfield 53, 3) := by decide +kernel
theorem dX3_emit_4 : decode cX3_emit 4 = .ok (.ifCond .ne 12, 3) := by decide +kernel
theorem dX3_emit_7 : decode cX3_emit 7 = .ok (.aload_n 0, 1) := by decide +kernel
theorem dX3_emit_8 : decode cX3_emit 8 = .ok (.getfield 15, 3) := by decide +kernel
theorem dX3_emit_11 : decode cX3_emit 11 = .ok (.iload_n 1, 1) := by decide +kernel
theorem dX3_emit_12 : decode cX3_emit 12 = .ok (.lload_n 2, 1) := by decide +kernel
theorem dX3_emit_13 : decode cX3_emit 13 = .ok (.invokevirtual 124, 3) := by decide +kernel
theorem dX3_emit_16 : decode cX3_emit 16 = .ok (.return_, 1) := by decide +kernel
theorem dX3_useColumn_0 : decode cX3_useColumn 0 = .ok (.aload_n 0, 1) := by decide +kernel
theorem dX3_useColumn_1 : decode cX3_useColumn 1 = .ok (.getfield 53, 3) := by decide +kernel
theorem dX3_useColumn_4 : decode cX3_useColumn 4 = .ok (.ifCond .eq 4, 3) := by decide +kernel
theorem dX3_useColumn_7 : decode cX3_useColumn 7 = .ok (.return_, 1) := by decide +kernel
theorem dX3_useColumn_8 : decode cX3_useColumn 8 = .ok (.aload_n 0, 1) := by decide +kernel
theorem dX3_useColumn_9 : decode cX3_useColumn 9 = .ok (.getfield 29, 3) := by decide +kernel
theorem dX3_useColumn_12 : decode cX3_useColumn 12 = .ok (.lload_n 1, 1) := by decide +kernel
theorem dX3_useColumn_13 : decode cX3_useColumn 13 = .ok (.invokevirtual 128, 3) := by decide +kernel
theorem dX3_useColumn_16 : decode cX3_useColumn 16 = .ok (.istore 4, 2) := by decide +kernel
theorem dX3_useColumn_18 : decode cX3_useColumn 18 = .ok (.iload 4, 2) := by decide +kernel
theorem dX3_useColumn_20 : decode cX3_useColumn 20 = .ok (.ifCond .ge 12, 3) := by decide +kernel
theorem dX3_useColumn_23 : decode cX3_useColumn 23 = .ok (.aload_n 0, 1) := by decide +kernel
theorem dX3_useColumn_24 : decode cX3_useColumn 24 = .ok (.iconst 2, 1) := by decide +kernel
theorem dX3_useColumn_25 : decode cX3_useColumn 25 = .ok (.iload_n 3, 1) := by decide +kernel
theorem dX3_useColumn_26 : decode cX3_useColumn 26 = .ok (.invokevirtual 63, 3) := by decide +kernel
theorem dX3_useColumn_29 : decode cX3_useColumn 29 = .ok (.goto 14, 3) := by decide +kernel
theorem dX3_useColumn_32 : decode cX3_useColumn 32 = .ok (.aload_n 0, 1) := by decide +kernel
theorem dX3_useColumn_33 : decode cX3_useColumn 33 = .ok (.getfield 15, 3) := by decide +kernel
theorem dX3_useColumn_36 : decode cX3_useColumn 36 = .ok (.iconst 2, 1) := by decide +kernel
theorem dX3_useColumn_37 : decode cX3_useColumn 37 = .ok (.iload 4, 2) := by decide +kernel
theorem dX3_useColumn_39 : decode cX3_useColumn 39 = .ok (.i2l, 1) := by decide +kernel
theorem dX3_useColumn_40 : decode cX3_useColumn 40 = .ok (.invokevirtual 124, 3) := by decide +kernel
theorem dX3_useColumn_43 : decode cX3_useColumn 43 = .ok (.return_, 1) := by decide +kernel
theorem dX3_endFunction_0 : decode cX3_endFunction 0 = .ok (.aload_n 0, 1) := by decide +kernel
theorem dX3_endFunction_1 : decode cX3_endFunction 1 = .ok (.getfield 53, 3) := by decide +kernel
theorem dX3_endFunction_4 : decode cX3_endFunction 4 = .ok (.ifCond .eq 4, 3) := by decide +kernel
theorem dX3_endFunction_7 : decode cX3_endFunction 7 = .ok (.return_, 1) := by decide +kernel
theorem dX3_endFunction_8 : decode cX3_endFunction 8 = .ok (.iload_n 2, 1) := by decide +kernel
theorem dX3_endFunction_9 : decode cX3_endFunction 9 = .ok (.iload_n 1, 1) := by decide +kernel
theorem dX3_endFunction_10 : decode cX3_endFunction 10 = .ok (.sipush 159, 3) := by decide +kernel
theorem dX3_endFunction_13 : decode cX3_endFunction 13 = .ok (.if_icmp .ne 7, 3) := by decide +kernel
theorem dX3_endFunction_16 : decode cX3_endFunction 16 = .ok (.iconst 1, 1) := by decide +kernel
theorem dX3_endFunction_17 : decode cX3_endFunction 17 = .ok (.goto 4, 3) := by decide +kernel
theorem dX3_endFunction_20 : decode cX3_endFunction 20 = .ok (.iconst 2, 1) := by decide +kernel
theorem dX3_endFunction_21 : decode cX3_endFunction 21 = .ok (.if_icmp .eq 12, 3) := by decide +kernel
theorem dX3_endFunction_24 : decode cX3_endFunction 24 = .ok (.aload_n 0, 1) := by decide +kernel
theorem dX3_endFunction_25 : decode cX3_endFunction 25 = .ok (.iconst 3, 1) := by decide +kernel
theorem dX3_endFunction_26 : decode cX3_endFunction 26 = .ok (.iload_n 3, 1) := by decide +kernel
theorem dX3_endFunction_27 : decode cX3_endFunction 27 = .ok (.invokevirtual 63, 3) := by decide +kernel
theorem dX3_endFunction_30 : decode cX3_endFunction 30 = .ok (.goto 12, 3) := by decide +kernel
theorem dX3_endFunction_33 : decode cX3_endFunction 33 = .ok (.aload_n 0, 1) := by decide +kernel
theorem dX3_endFunction_34 : decode cX3_endFunction 34 = .ok (.getfield 15, 3) := by decide +kernel
theorem dX3_endFunction_37 : decode cX3_endFunction 37 = .ok (.iload_n 1, 1) := by decide +kernel
theorem dX3_endFunction_38 : decode cX3_endFunction 38 = .ok (.lconst 0, 1) := by decide +kernel
theorem dX3_endFunction_39 : decode cX3_endFunction 39 = .ok (.invokevirtual 124, 3) := by decide +kernel
theorem dX3_endFunction_42 : decode cX3_endFunction 42 = .ok (.return_, 1) := by decide +kernel
theorem dX3_endCheck_0 : decode cX3_endCheck 0 = .ok (.aload_n 0, 1) := by decide +kernel
theorem dX3_endCheck_1 : decode cX3_endCheck 1 = .ok (.getfield 53, 3) := by decide +kernel
theorem dX3_endCheck_4 : decode cX3_endCheck 4 = .ok (.ifCond .ne 24, 3) := by decide +kernel
theorem dX3_endCheck_7 : decode cX3_endCheck 7 = .ok (.aload_n 0, 1) := by decide +kernel
theorem dX3_endCheck_8 : decode cX3_endCheck 8 = .ok (.getfield 39, 3) := by decide +kernel
theorem dX3_endCheck_11 : decode cX3_endCheck 11 = .ok (.iload_n 1, 1) := by decide +kernel
theorem dX3_endCheck_12 : decode cX3_endCheck 12 = .ok (.putfield 132, 3) := by decide +kernel
theorem dX3_endCheck_15 : decode cX3_endCheck 15 = .ok (.aload_n 0, 1) := by decide +kernel
theorem dX3_endCheck_16 : decode cX3_endCheck 16 = .ok (.getfield 15, 3) := by decide +kernel
theorem dX3_endCheck_19 : decode cX3_endCheck 19 = .ok (.dup, 1) := by decide +kernel
theorem dX3_endCheck_20 : decode cX3_endCheck 20 = .ok (.getfield 47, 3) := by decide +kernel
theorem dX3_endCheck_23 : decode cX3_endCheck 23 = .ok (.iconst 1, 1) := by decide +kernel
theorem dX3_endCheck_24 : decode cX3_endCheck 24 = .ok (.iadd, 1) := by decide +kernel
theorem dX3_endCheck_25 : decode cX3_endCheck 25 = .ok (.putfield 47, 3) := by decide +kernel
theorem dX3_endCheck_28 : decode cX3_endCheck 28 = .ok (.return_, 1) := by decide +kernel
theorem dX3_endStream_0 : decode cX3_endStream 0 = .ok (.aload_n 0, 1) := by decide +kernel
theorem dX3_endStream_1 : decode cX3_endStream 1 = .ok (.getfield 53, 3) := by decide +kernel
theorem dX3_endStream_4 : decode cX3_endStream 4 = .ok (.ifCond .ne 37, 3) := by decide +kernel
theorem dX3_endStream_7 : decode cX3_endStream 7 = .ok (.aload_n 0, 1) := by decide +kernel
theorem dX3_endStream_8 : decode cX3_endStream 8 = .ok (.getfield 25, 3) := by decide +kernel
theorem dX3_endStream_11 : decode cX3_endStream 11 = .ok (.getfield 75, 3) := by decide +kernel
theorem dX3_endStream_14 : decode cX3_endStream 14 = .ok (.iconst 4, 1) := by decide +kernel
theorem dX3_endStream_15 : decode cX3_endStream 15 = .ok (.if_icmp .ne 26, 3) := by decide +kernel
theorem dX3_endStream_18 : decode cX3_endStream 18 = .ok (.aload_n 0, 1) := by decide +kernel
theorem dX3_endStream_19 : decode cX3_endStream 19 = .ok (.getfield 29, 3) := by decide +kernel
theorem dX3_endStream_22 : decode cX3_endStream 22 = .ok (.aload_n 0, 1) := by decide +kernel
theorem dX3_endStream_23 : decode cX3_endStream 23 = .ok (.getfield 32, 3) := by decide +kernel
theorem dX3_endStream_26 : decode cX3_endStream 26 = .ok (.invokevirtual 135, 3) := by decide +kernel
theorem dX3_endStream_29 : decode cX3_endStream 29 = .ok (.ifCond .ne 12, 3) := by decide +kernel
theorem dX3_endStream_32 : decode cX3_endStream 32 = .ok (.aload_n 0, 1) := by decide +kernel
theorem dX3_endStream_33 : decode cX3_endStream 33 = .ok (.iconst 3, 1) := by decide +kernel
theorem dX3_endStream_34 : decode cX3_endStream 34 = .ok (.aload_n 0, 1) := by decide +kernel
theorem dX3_endStream_35 : decode cX3_endStream 35 = .ok (.getfield 78, 3) := by decide +kernel
theorem dX3_endStream_38 : decode cX3_endStream 38 = .ok (.invokevirtual 63, 3) := by decide +kernel
theorem dX3_endStream_41 : decode cX3_endStream 41 = .ok (.aload_n 0, 1) := by decide +kernel
theorem dX3_endStream_42 : decode cX3_endStream 42 = .ok (.getfield 53, 3) := by decide +kernel
theorem dX3_endStream_45 : decode cX3_endStream 45 = .ok (.ifCond .ne 18, 3) := by decide +kernel
theorem dX3_endStream_48 : decode cX3_endStream 48 = .ok (.aload_n 0, 1) := by decide +kernel
theorem dX3_endStream_49 : decode cX3_endStream 49 = .ok (.getfield 25, 3) := by decide +kernel
theorem dX3_endStream_52 : decode cX3_endStream 52 = .ok (.getfield 75, 3) := by decide +kernel
theorem dX3_endStream_55 : decode cX3_endStream 55 = .ok (.iconst 5, 1) := by decide +kernel
theorem dX3_endStream_56 : decode cX3_endStream 56 = .ok (.if_icmp .ne 7, 3) := by decide +kernel
theorem dX3_endStream_59 : decode cX3_endStream 59 = .ok (.aload_n 0, 1) := by decide +kernel
theorem dX3_endStream_60 : decode cX3_endStream 60 = .ok (.invokevirtual 139, 3) := by decide +kernel
theorem dX3_endStream_63 : decode cX3_endStream 63 = .ok (.aload_n 0, 1) := by decide +kernel
theorem dX3_endStream_64 : decode cX3_endStream 64 = .ok (.getfield 53, 3) := by decide +kernel
theorem dX3_endStream_67 : decode cX3_endStream 67 = .ok (.ifCond .ne 21, 3) := by decide +kernel
theorem dX3_endStream_70 : decode cX3_endStream 70 = .ok (.aload_n 0, 1) := by decide +kernel
theorem dX3_endStream_71 : decode cX3_endStream 71 = .ok (.getfield 72, 3) := by decide +kernel
theorem dX3_endStream_74 : decode cX3_endStream 74 = .ok (.bipush 6, 2) := by decide +kernel
theorem dX3_endStream_76 : decode cX3_endStream 76 = .ok (.if_icmp .le 12, 3) := by decide +kernel
theorem dX3_endStream_79 : decode cX3_endStream 79 = .ok (.aload_n 0, 1) := by decide +kernel
theorem dX3_endStream_80 : decode cX3_endStream 80 = .ok (.iconst 4, 1) := by decide +kernel
theorem dX3_endStream_81 : decode cX3_endStream 81 = .ok (.aload_n 0, 1) := by decide +kernel
theorem dX3_endStream_82 : decode cX3_endStream 82 = .ok (.getfield 142, 3) := by decide +kernel
theorem dX3_endStream_85 : decode cX3_endStream 85 = .ok (.invokevirtual 63, 3) := by decide +kernel
theorem dX3_endStream_88 : decode cX3_endStream 88 = .ok (.aload_n 0, 1) := by decide +kernel
theorem dX3_endStream_89 : decode cX3_endStream 89 = .ok (.getfield 53, 3) := by decide +kernel
theorem dX3_endStream_92 : decode cX3_endStream 92 = .ok (.ifCond .ne 31, 3) := by decide +kernel
theorem dX3_endStream_95 : decode cX3_endStream 95 = .ok (.aload_n 0, 1) := by decide +kernel
theorem dX3_endStream_96 : decode cX3_endStream 96 = .ok (.getfield 25, 3) := by decide +kernel
theorem dX3_endStream_99 : decode cX3_endStream 99 = .ok (.aload_n 0, 1) := by decide +kernel
theorem dX3_endStream_100 : decode cX3_endStream 100 = .ok (.getfield 9, 3) := by decide +kernel
theorem dX3_endStream_103 : decode cX3_endStream 103 = .ok (.aload_n 0, 1) := by decide +kernel
theorem dX3_endStream_104 : decode cX3_endStream 104 = .ok (.getfield 72, 3) := by decide +kernel
theorem dX3_endStream_107 : decode cX3_endStream 107 = .ok (.invokevirtual 145, 3) := by decide +kernel
theorem dX3_endStream_110 : decode cX3_endStream 110 = .ok (.aload_n 0, 1) := by decide +kernel
theorem dX3_endStream_111 : decode cX3_endStream 111 = .ok (.getfield 15, 3) := by decide +kernel
theorem dX3_endStream_114 : decode cX3_endStream 114 = .ok (.dup, 1) := by decide +kernel
theorem dX3_endStream_115 : decode cX3_endStream 115 = .ok (.getfield 43, 3) := by decide +kernel
theorem dX3_endStream_118 : decode cX3_endStream 118 = .ok (.iconst 1, 1) := by decide +kernel
theorem dX3_endStream_119 : decode cX3_endStream 119 = .ok (.iadd, 1) := by decide +kernel
theorem dX3_endStream_120 : decode cX3_endStream 120 = .ok (.putfield 43, 3) := by decide +kernel
theorem dX3_endStream_123 : decode cX3_endStream 123 = .ok (.return_, 1) := by decide +kernel
theorem dX3_nameStream_0 : decode cX3_nameStream 0 = .ok (.aload_n 0, 1) := by decide +kernel
theorem dX3_nameStream_1 : decode cX3_nameStream 1 = .ok (.getfield 15, 3) := by decide +kernel
theorem dX3_nameStream_4 : decode cX3_nameStream 4 = .ok (.lload_n 1, 1) := by decide +kernel
theorem dX3_nameStream_5 : decode cX3_nameStream 5 = .ok (.invokevirtual 149, 3) := by decide +kernel
theorem dX3_nameStream_8 : decode cX3_nameStream 8 = .ok (.ifCond .lt 9, 3) := by decide +kernel
theorem dX3_nameStream_11 : decode cX3_nameStream 11 = .ok (.aload_n 0, 1) := by decide +kernel
theorem dX3_nameStream_12 : decode cX3_nameStream 12 = .ok (.iconst 5, 1) := by decide +kernel
theorem dX3_nameStream_13 : decode cX3_nameStream 13 = .ok (.iload_n 3, 1) := by decide +kernel
theorem dX3_nameStream_14 : decode cX3_nameStream 14 = .ok (.invokevirtual 63, 3) := by decide +kernel
theorem dX3_nameStream_17 : decode cX3_nameStream 17 = .ok (.aload_n 0, 1) := by decide +kernel
theorem dX3_nameStream_18 : decode cX3_nameStream 18 = .ok (.getfield 25, 3) := by decide +kernel
theorem dX3_nameStream_21 : decode cX3_nameStream 21 = .ok (.lload_n 1, 1) := by decide +kernel
theorem dX3_nameStream_22 : decode cX3_nameStream 22 = .ok (.putfield 152, 3) := by decide +kernel
theorem dX3_nameStream_25 : decode cX3_nameStream 25 = .ok (.aload_n 0, 1) := by decide +kernel
theorem dX3_nameStream_26 : decode cX3_nameStream 26 = .ok (.iload_n 3, 1) := by decide +kernel
theorem dX3_nameStream_27 : decode cX3_nameStream 27 = .ok (.putfield 142, 3) := by decide +kernel
theorem dX3_nameStream_30 : decode cX3_nameStream 30 = .ok (.return_, 1) := by decide +kernel
theorem dX3_nameColumn_0 : decode cX3_nameColumn 0 = .ok (.aload_n 0, 1) := by decide +kernel
theorem dX3_nameColumn_1 : decode cX3_nameColumn 1 = .ok (.lload_n 1, 1) := by decide +kernel
theorem dX3_nameColumn_2 : decode cX3_nameColumn 2 = .ok (.invokevirtual 156, 3) := by decide +kernel
theorem dX3_nameColumn_5 : decode cX3_nameColumn 5 = .ok (.ifCond .ne 9, 3) := by decide +kernel
theorem dX3_nameColumn_8 : decode cX3_nameColumn 8 = .ok (.aload_n 0, 1) := by decide +kernel
theorem dX3_nameColumn_9 : decode cX3_nameColumn 9 = .ok (.iconst 5, 1) := by decide +kernel
theorem dX3_nameColumn_10 : decode cX3_nameColumn 10 = .ok (.iload_n 3, 1) := by decide +kernel
theorem dX3_nameColumn_11 : decode cX3_nameColumn 11 = .ok (.invokevirtual 63, 3) := by decide +kernel
theorem dX3_nameColumn_14 : decode cX3_nameColumn 14 = .ok (.return_, 1) := by decide +kernel
theorem dX3_addColumn_0 : decode cX3_addColumn 0 = .ok (.iconst 0, 1) := by decide +kernel
theorem dX3_addColumn_1 : decode cX3_addColumn 1 = .ok (.istore_n 3, 1) := by decide +kernel
theorem dX3_addColumn_2 : decode cX3_addColumn 2 = .ok (.iload_n 3, 1) := by decide +kernel
theorem dX3_addColumn_3 : decode cX3_addColumn 3 = .ok (.aload_n 0, 1) := by decide +kernel
theorem dX3_addColumn_4 : decode cX3_addColumn 4 = .ok (.getfield 72, 3) := by decide +kernel
theorem dX3_addColumn_7 : decode cX3_addColumn 7 = .ok (.if_icmp .ge 31, 3) := by decide +kernel
theorem dX3_addColumn_10 : decode cX3_addColumn 10 = .ok (.iload_n 3, 1) := by decide +kernel
theorem dX3_addColumn_11 : decode cX3_addColumn 11 = .ok (.aload_n 0, 1) := by decide +kernel
theorem dX3_addColumn_12 : decode cX3_addColumn 12 = .ok (.getfield 9, 3) := by decide +kernel
theorem dX3_addColumn_15 : decode cX3_addColumn 15 = .ok (.arraylength, 1) := by decide +kernel
theorem dX3_addColumn_16 : decode cX3_addColumn 16 = .ok (.if_icmp .ge 22, 3) := by decide +kernel
theorem dX3_addColumn_19 : decode cX3_addColumn 19 = .ok (.aload_n 0, 1) := by decide +kernel
theorem dX3_addColumn_20 : decode cX3_addColumn 20 = .ok (.getfield 9, 3) := by decide +kernel
theorem dX3_addColumn_23 : decode cX3_addColumn 23 = .ok (.iload_n 3, 1) := by decide +kernel
theorem dX3_addColumn_24 : decode cX3_addColumn 24 = .ok (.laload, 1) := by decide +kernel
theorem dX3_addColumn_25 : decode cX3_addColumn 25 = .ok (.lload_n 1, 1) := by decide +kernel
theorem dX3_addColumn_26 : decode cX3_addColumn 26 = .ok (.lcmp, 1) := by decide +kernel
theorem dX3_addColumn_27 : decode cX3_addColumn 27 = .ok (.ifCond .ne 5, 3) := by decide +kernel
theorem dX3_addColumn_30 : decode cX3_addColumn 30 = .ok (.iconst 0, 1) := by decide +kernel
theorem dX3_addColumn_31 : decode cX3_addColumn 31 = .ok (.ireturn, 1) := by decide +kernel
theorem dX3_addColumn_32 : decode cX3_addColumn 32 = .ok (.iinc 3 1, 3) := by decide +kernel
theorem dX3_addColumn_35 : decode cX3_addColumn 35 = .ok (.goto (-33), 3) := by decide +kernel
theorem dX3_addColumn_38 : decode cX3_addColumn 38 = .ok (.aload_n 0, 1) := by decide +kernel
theorem dX3_addColumn_39 : decode cX3_addColumn 39 = .ok (.getfield 72, 3) := by decide +kernel
theorem dX3_addColumn_42 : decode cX3_addColumn 42 = .ok (.aload_n 0, 1) := by decide +kernel
theorem dX3_addColumn_43 : decode cX3_addColumn 43 = .ok (.getfield 9, 3) := by decide +kernel
theorem dX3_addColumn_46 : decode cX3_addColumn 46 = .ok (.arraylength, 1) := by decide +kernel
theorem dX3_addColumn_47 : decode cX3_addColumn 47 = .ok (.if_icmp .ge 23, 3) := by decide +kernel
theorem dX3_addColumn_50 : decode cX3_addColumn 50 = .ok (.aload_n 0, 1) := by decide +kernel
theorem dX3_addColumn_51 : decode cX3_addColumn 51 = .ok (.getfield 9, 3) := by decide +kernel
theorem dX3_addColumn_54 : decode cX3_addColumn 54 = .ok (.aload_n 0, 1) := by decide +kernel
theorem dX3_addColumn_55 : decode cX3_addColumn 55 = .ok (.getfield 72, 3) := by decide +kernel
theorem dX3_addColumn_58 : decode cX3_addColumn 58 = .ok (.lload_n 1, 1) := by decide +kernel
theorem dX3_addColumn_59 : decode cX3_addColumn 59 = .ok (.lastore, 1) := by decide +kernel
theorem dX3_addColumn_60 : decode cX3_addColumn 60 = .ok (.aload_n 0, 1) := by decide +kernel
theorem dX3_addColumn_61 : decode cX3_addColumn 61 = .ok (.dup, 1) := by decide +kernel
theorem dX3_addColumn_62 : decode cX3_addColumn 62 = .ok (.getfield 72, 3) := by decide +kernel
theorem dX3_addColumn_65 : decode cX3_addColumn 65 = .ok (.iconst 1, 1) := by decide +kernel
theorem dX3_addColumn_66 : decode cX3_addColumn 66 = .ok (.iadd, 1) := by decide +kernel
theorem dX3_addColumn_67 : decode cX3_addColumn 67 = .ok (.putfield 72, 3) := by decide +kernel
theorem dX3_addColumn_70 : decode cX3_addColumn 70 = .ok (.iconst 1, 1) := by decide +kernel
theorem dX3_addColumn_71 : decode cX3_addColumn 71 = .ok (.ireturn, 1) := by decide +kernel
theorem dX3_setFirstInput_0 : decode cX3_setFirstInput 0 = .ok (.aload_n 0, 1) := by decide +kernel
theorem dX3_setFirstInput_1 : decode cX3_setFirstInput 1 = .ok (.getfield 15, 3) := by decide +kernel
theorem dX3_setFirstInput_4 : decode cX3_setFirstInput 4 = .ok (.lload_n 1, 1) := by decide +kernel
theorem dX3_setFirstInput_5 : decode cX3_setFirstInput 5 = .ok (.invokevirtual 149, 3) := by decide +kernel
theorem dX3_setFirstInput_8 : decode cX3_setFirstInput 8 = .ok (.istore 4, 2) := by decide +kernel
theorem dX3_setFirstInput_10 : decode cX3_setFirstInput 10 = .ok (.iload 4, 2) := by decide +kernel
theorem dX3_setFirstInput_12 : decode cX3_setFirstInput 12 = .ok (.ifCond .ge 10, 3) := by decide +kernel
theorem dX3_setFirstInput_15 : decode cX3_setFirstInput 15 = .ok (.aload_n 0, 1) := by decide +kernel
theorem dX3_setFirstInput_16 : decode cX3_setFirstInput 16 = .ok (.iconst 2, 1) := by decide +kernel
theorem dX3_setFirstInput_17 : decode cX3_setFirstInput 17 = .ok (.iload_n 3, 1) := by decide +kernel
theorem dX3_setFirstInput_18 : decode cX3_setFirstInput 18 = .ok (.invokevirtual 63, 3) := by decide +kernel
theorem dX3_setFirstInput_21 : decode cX3_setFirstInput 21 = .ok (.return_, 1) := by decide +kernel
theorem dX3_setFirstInput_22 : decode cX3_setFirstInput 22 = .ok (.aload_n 0, 1) := by decide +kernel
theorem dX3_setFirstInput_23 : decode cX3_setFirstInput 23 = .ok (.aload_n 0, 1) := by decide +kernel
theorem dX3_setFirstInput_24 : decode cX3_setFirstInput 24 = .ok (.getfield 15, 3) := by decide +kernel
theorem dX3_setFirstInput_27 : decode cX3_setFirstInput 27 = .ok (.getfield 19, 3) := by decide +kernel
theorem dX3_setFirstInput_30 : decode cX3_setFirstInput 30 = .ok (.iload 4, 2) := by decide +kernel
theorem dX3_setFirstInput_32 : decode cX3_setFirstInput 32 = .ok (.aaload, 1) := by decide +kernel
theorem dX3_setFirstInput_33 : decode cX3_setFirstInput 33 = .ok (.putfield 29, 3) := by decide +kernel
theorem dX3_setFirstInput_36 : decode cX3_setFirstInput 36 = .ok (.aload_n 0, 1) := by decide +kernel
theorem dX3_setFirstInput_37 : decode cX3_setFirstInput 37 = .ok (.getfield 59, 3) := by decide +kernel
theorem dX3_setFirstInput_40 : decode cX3_setFirstInput 40 = .ok (.ifCond .eq 13, 3) := by decide +kernel
theorem dX3_setFirstInput_43 : decode cX3_setFirstInput 43 = .ok (.aload_n 0, 1) := by decide +kernel
theorem dX3_setFirstInput_44 : decode cX3_setFirstInput 44 = .ok (.getfield 39, 3) := by decide +kernel
theorem dX3_setFirstInput_47 : decode cX3_setFirstInput 47 = .ok (.iload 4, 2) := by decide +kernel
theorem dX3_setFirstInput_49 : decode cX3_setFirstInput 49 = .ok (.putfield 160, 3) := by decide +kernel
theorem dX3_setFirstInput_52 : decode cX3_setFirstInput 52 = .ok (.return_, 1) := by decide +kernel
theorem dX3_setFirstInput_53 : decode cX3_setFirstInput 53 = .ok (.aload_n 0, 1) := by decide +kernel
theorem dX3_setFirstInput_54 : decode cX3_setFirstInput 54 = .ok (.getfield 25, 3) := by decide +kernel
theorem dX3_setFirstInput_57 : decode cX3_setFirstInput 57 = .ok (.getfield 162, 3) := by decide +kernel
theorem dX3_setFirstInput_60 : decode cX3_setFirstInput 60 = .ok (.iconst 0, 1) := by decide +kernel
theorem dX3_setFirstInput_61 : decode cX3_setFirstInput 61 = .ok (.iload 4, 2) := by decide +kernel
theorem dX3_setFirstInput_63 : decode cX3_setFirstInput 63 = .ok (.iastore, 1) := by decide +kernel
theorem dX3_setFirstInput_64 : decode cX3_setFirstInput 64 = .ok (.aload_n 0, 1) := by decide +kernel
theorem dX3_setFirstInput_65 : decode cX3_setFirstInput 65 = .ok (.getfield 25, 3) := by decide +kernel
theorem dX3_setFirstInput_68 : decode cX3_setFirstInput 68 = .ok (.getfield 75, 3) := by decide +kernel
theorem dX3_setFirstInput_71 : decode cX3_setFirstInput 71 = .ok (.iconst 3, 1) := by decide +kernel
theorem dX3_setFirstInput_72 : decode cX3_setFirstInput 72 = .ok (.if_icmp .eq 30, 3) := by decide +kernel
theorem dX3_setFirstInput_75 : decode cX3_setFirstInput 75 = .ok (.aload_n 0, 1) := by decide +kernel
theorem dX3_setFirstInput_76 : decode cX3_setFirstInput 76 = .ok (.getfield 25, 3) := by decide +kernel
theorem dX3_setFirstInput_79 : decode cX3_setFirstInput 79 = .ok (.getfield 75, 3) := by decide +kernel
theorem dX3_setFirstInput_82 : decode cX3_setFirstInput 82 = .ok (.bipush 7, 2) := by decide +kernel
theorem dX3_setFirstInput_84 : decode cX3_setFirstInput 84 = .ok (.if_icmp .eq 18, 3) := by decide +kernel
theorem dX3_setFirstInput_87 : decode cX3_setFirstInput 87 = .ok (.aload_n 0, 1) := by decide +kernel
theorem dX3_setFirstInput_88 : decode cX3_setFirstInput 88 = .ok (.aload_n 0, 1) := by decide +kernel
theorem dX3_setFirstInput_89 : decode cX3_setFirstInput 89 = .ok (.getfield 29, 3) := by decide +kernel
theorem dX3_setFirstInput_92 : decode cX3_setFirstInput 92 = .ok (.aload_n 0, 1) := by decide +kernel
theorem dX3_setFirstInput_93 : decode cX3_setFirstInput 93 = .ok (.getfield 9, 3) := by decide +kernel
theorem dX3_setFirstInput_96 : decode cX3_setFirstInput 96 = .ok (.invokevirtual 166, 3) := by decide +kernel
theorem dX3_setFirstInput_99 : decode cX3_setFirstInput 99 = .ok (.putfield 72, 3) := by decide +kernel
theorem dX3_setFirstInput_102 : decode cX3_setFirstInput 102 = .ok (.return_, 1) := by decide +kernel
theorem dX3_setSecondInput_0 : decode cX3_setSecondInput 0 = .ok (.aload_n 0, 1) := by decide +kernel
theorem dX3_setSecondInput_1 : decode cX3_setSecondInput 1 = .ok (.getfield 15, 3) := by decide +kernel
theorem dX3_setSecondInput_4 : decode cX3_setSecondInput 4 = .ok (.lload_n 1, 1) := by decide +kernel
theorem dX3_setSecondInput_5 : decode cX3_setSecondInput 5 = .ok (.invokevirtual 149, 3) := by decide +kernel
theorem dX3_setSecondInput_8 : decode cX3_setSecondInput 8 = .ok (.istore 4, 2) := by decide +kernel
theorem dX3_setSecondInput_10 : decode cX3_setSecondInput 10 = .ok (.iload 4, 2) := by decide +kernel
theorem dX3_setSecondInput_12 : decode cX3_setSecondInput 12 = .ok (.ifCond .ge 10, 3) := by decide +kernel
theorem dX3_setSecondInput_15 : decode cX3_setSecondInput 15 = .ok (.aload_n 0, 1) := by decide +kernel
theorem dX3_setSecondInput_16 : decode cX3_setSecondInput 16 = .ok (.iconst 2, 1) := by decide +kernel
theorem dX3_setSecondInput_17 : decode cX3_setSecondInput 17 = .ok (.iload_n 3, 1) := by decide +kernel
theorem dX3_setSecondInput_18 : decode cX3_setSecondInput 18 = .ok (.invokevirtual 63, 3) := by decide +kernel
theorem dX3_setSecondInput_21 : decode cX3_setSecondInput 21 = .ok (.return_, 1) := by decide +kernel
theorem dX3_setSecondInput_22 : decode cX3_setSecondInput 22 = .ok (.aload_n 0, 1) := by decide +kernel
theorem dX3_setSecondInput_23 : decode cX3_setSecondInput 23 = .ok (.aload_n 0, 1) := by decide +kernel
theorem dX3_setSecondInput_24 : decode cX3_setSecondInput 24 = .ok (.getfield 15, 3) := by decide +kernel
theorem dX3_setSecondInput_27 : decode cX3_setSecondInput 27 = .ok (.getfield 19, 3) := by decide +kernel
theorem dX3_setSecondInput_30 : decode cX3_setSecondInput 30 = .ok (.iload 4, 2) := by decide +kernel
theorem dX3_setSecondInput_32 : decode cX3_setSecondInput 32 = .ok (.aaload, 1) := by decide +kernel
theorem dX3_setSecondInput_33 : decode cX3_setSecondInput 33 = .ok (.putfield 32, 3) := by decide +kernel
theorem dX3_setSecondInput_36 : decode cX3_setSecondInput 36 = .ok (.aload_n 0, 1) := by decide +kernel
theorem dX3_setSecondInput_37 : decode cX3_setSecondInput 37 = .ok (.getfield 25, 3) := by decide +kernel
theorem dX3_setSecondInput_40 : decode cX3_setSecondInput 40 = .ok (.getfield 162, 3) := by decide +kernel
theorem dX3_setSecondInput_43 : decode cX3_setSecondInput 43 = .ok (.iconst 1, 1) := by decide +kernel
theorem dX3_setSecondInput_44 : decode cX3_setSecondInput 44 = .ok (.iload 4, 2) := by decide +kernel
theorem dX3_setSecondInput_46 : decode cX3_setSecondInput 46 = .ok (.iastore, 1) := by decide +kernel
theorem dX3_setSecondInput_47 : decode cX3_setSecondInput 47 = .ok (.aload_n 0, 1) := by decide +kernel
theorem dX3_setSecondInput_48 : decode cX3_setSecondInput 48 = .ok (.iload_n 3, 1) := by decide +kernel
theorem dX3_setSecondInput_49 : decode cX3_setSecondInput 49 = .ok (.putfield 170, 3) := by decide +kernel
theorem dX3_setSecondInput_52 : decode cX3_setSecondInput 52 = .ok (.return_, 1) := by decide +kernel
theorem dX3_setKey_0 : decode cX3_setKey 0 = .ok (.aload_n 0, 1) := by decide +kernel
theorem dX3_setKey_1 : decode cX3_setKey 1 = .ok (.getfield 25, 3) := by decide +kernel
theorem dX3_setKey_4 : decode cX3_setKey 4 = .ok (.aload_n 0, 1) := by decide +kernel
theorem dX3_setKey_5 : decode cX3_setKey 5 = .ok (.getfield 29, 3) := by decide +kernel
theorem dX3_setKey_8 : decode cX3_setKey 8 = .ok (.lload_n 1, 1) := by decide +kernel
theorem dX3_setKey_9 : decode cX3_setKey 9 = .ok (.invokevirtual 128, 3) := by decide +kernel
theorem dX3_setKey_12 : decode cX3_setKey 12 = .ok (.putfield 173, 3) := by decide +kernel
theorem dX3_setKey_15 : decode cX3_setKey 15 = .ok (.aload_n 0, 1) := by decide +kernel
theorem dX3_setKey_16 : decode cX3_setKey 16 = .ok (.getfield 25, 3) := by decide +kernel
theorem dX3_setKey_19 : decode cX3_setKey 19 = .ok (.aload_n 0, 1) := by decide +kernel
theorem dX3_setKey_20 : decode cX3_setKey 20 = .ok (.getfield 25, 3) := by decide +kernel
theorem dX3_setKey_23 : decode cX3_setKey 23 = .ok (.getfield 75, 3) := by decide +kernel
theorem dX3_setKey_26 : decode cX3_setKey 26 = .ok (.iconst 5, 1) := by decide +kernel
theorem dX3_setKey_27 : decode cX3_setKey 27 = .ok (.if_icmp .ne 14, 3) := by decide +kernel
theorem dX3_setKey_30 : decode cX3_setKey 30 = .ok (.aload_n 0, 1) := by decide +kernel
theorem dX3_setKey_31 : decode cX3_setKey 31 = .ok (.getfield 32, 3) := by decide +kernel
theorem dX3_setKey_34 : decode cX3_setKey 34 = .ok (.lload_n 1, 1) := by decide +kernel
theorem dX3_setKey_35 : decode cX3_setKey 35 = .ok (.invokevirtual 128, 3) := by decide +kernel
theorem dX3_setKey_38 : decode cX3_setKey 38 = .ok (.goto 10, 3) := by decide +kernel
theorem dX3_setKey_41 : decode cX3_setKey 41 = .ok (.aload_n 0, 1) := by decide +kernel
theorem dX3_setKey_42 : decode cX3_setKey 42 = .ok (.getfield 25, 3) := by decide +kernel
theorem dX3_setKey_45 : decode cX3_setKey 45 = .ok (.getfield 173, 3) := by decide +kernel
theorem dX3_setKey_48 : decode cX3_setKey 48 = .ok (.putfield 176, 3) := by decide +kernel
theorem dX3_setKey_51 : decode cX3_setKey 51 = .ok (.aload_n 0, 1) := by decide +kernel
theorem dX3_setKey_52 : decode cX3_setKey 52 = .ok (.getfield 25, 3) := by decide +kernel
theorem dX3_setKey_55 : decode cX3_setKey 55 = .ok (.getfield 173, 3) := by decide +kernel
theorem dX3_setKey_58 : decode cX3_setKey 58 = .ok (.ifCond .lt 13, 3) := by decide +kernel
theorem dX3_setKey_61 : decode cX3_setKey 61 = .ok (.aload_n 0, 1) := by decide +kernel
theorem dX3_setKey_62 : decode cX3_setKey 62 = .ok (.getfield 25, 3) := by decide +kernel
theorem dX3_setKey_65 : decode cX3_setKey 65 = .ok (.getfield 176, 3) := by decide +kernel
theorem dX3_setKey_68 : decode cX3_setKey 68 = .ok (.ifCond .ge 12, 3) := by decide +kernel
theorem dX3_setKey_71 : decode cX3_setKey 71 = .ok (.aload_n 0, 1) := by decide +kernel
theorem dX3_setKey_72 : decode cX3_setKey 72 = .ok (.iconst 2, 1) := by decide +kernel
theorem dX3_setKey_73 : decode cX3_setKey 73 = .ok (.iload_n 3, 1) := by decide +kernel
theorem dX3_setKey_74 : decode cX3_setKey 74 = .ok (.invokevirtual 63, 3) := by decide +kernel
theorem dX3_setKey_77 : decode cX3_setKey 77 = .ok (.goto 39, 3) := by decide +kernel
theorem dX3_setKey_80 : decode cX3_setKey 80 = .ok (.aload_n 0, 1) := by decide +kernel
theorem dX3_setKey_81 : decode cX3_setKey 81 = .ok (.getfield 25, 3) := by decide +kernel
theorem dX3_setKey_84 : decode cX3_setKey 84 = .ok (.getfield 75, 3) := by decide +kernel
theorem dX3_setKey_87 : decode cX3_setKey 87 = .ok (.bipush 7, 2) := by decide +kernel
theorem dX3_setKey_89 : decode cX3_setKey 89 = .ok (.if_icmp .ne 27, 3) := by decide +kernel
theorem dX3_setKey_92 : decode cX3_setKey 92 = .ok (.aload_n 0, 1) := by decide +kernel
theorem dX3_setKey_93 : decode cX3_setKey 93 = .ok (.lload_n 1, 1) := by decide +kernel
theorem dX3_setKey_94 : decode cX3_setKey 94 = .ok (.invokevirtual 156, 3) := by decide +kernel
theorem dX3_setKey_97 : decode cX3_setKey 97 = .ok (.ifCond .eq 13, 3) := by decide +kernel
theorem dX3_setKey_100 : decode cX3_setKey 100 = .ok (.aload_n 0, 1) := by decide +kernel
theorem dX3_setKey_101 : decode cX3_setKey 101 = .ok (.ldc2_w 179, 3) := by decide +kernel
theorem dX3_setKey_104 : decode cX3_setKey 104 = .ok (.invokevirtual 156, 3) := by decide +kernel
theorem dX3_setKey_107 : decode cX3_setKey 107 = .ok (.ifCond .ne 9, 3) := by decide +kernel
theorem dX3_setKey_110 : decode cX3_setKey 110 = .ok (.aload_n 0, 1) := by decide +kernel
theorem dX3_setKey_111 : decode cX3_setKey 111 = .ok (.iconst 5, 1) := by decide +kernel
theorem dX3_setKey_112 : decode cX3_setKey 112 = .ok (.iload_n 3, 1) := by decide +kernel
theorem dX3_setKey_113 : decode cX3_setKey 113 = .ok (.invokevirtual 63, 3) := by decide +kernel
theorem dX3_setKey_116 : decode cX3_setKey 116 = .ok (.return_, 1) := by decide +kernel
theorem dX3_pickColumn_0 : decode cX3_pickColumn 0 = .ok (.aload_n 0, 1) := by decide +kernel
theorem dX3_pickColumn_1 : decode cX3_pickColumn 1 = .ok (.getfield 29, 3) := by decide +kernel
theorem dX3_pickColumn_4 : decode cX3_pickColumn 4 = .ok (.lload_n 1, 1) := by decide +kernel
theorem dX3_pickColumn_5 : decode cX3_pickColumn 5 = .ok (.invokevirtual 128, 3) := by decide +kernel
theorem dX3_pickColumn_8 : decode cX3_pickColumn 8 = .ok (.istore 4, 2) := by decide +kernel
theorem dX3_pickColumn_10 : decode cX3_pickColumn 10 = .ok (.iload 4, 2) := by decide +kernel
theorem dX3_pickColumn_12 : decode cX3_pickColumn 12 = .ok (.ifCond .ge 12, 3) := by decide +kernel
theorem dX3_pickColumn_15 : decode cX3_pickColumn 15 = .ok (.aload_n 0, 1) := by decide +kernel
theorem dX3_pickColumn_16 : decode cX3_pickColumn 16 = .ok (.iconst 2, 1) := by decide +kernel
theorem dX3_pickColumn_17 : decode cX3_pickColumn 17 = .ok (.iload_n 3, 1) := by decide +kernel
theorem dX3_pickColumn_18 : decode cX3_pickColumn 18 = .ok (.invokevirtual 63, 3) := by decide +kernel
theorem dX3_pickColumn_21 : decode cX3_pickColumn 21 = .ok (.goto 35, 3) := by decide +kernel
theorem dX3_pickColumn_24 : decode cX3_pickColumn 24 = .ok (.aload_n 0, 1) := by decide +kernel
theorem dX3_pickColumn_25 : decode cX3_pickColumn 25 = .ok (.lload_n 1, 1) := by decide +kernel
theorem dX3_pickColumn_26 : decode cX3_pickColumn 26 = .ok (.invokevirtual 156, 3) := by decide +kernel
theorem dX3_pickColumn_29 : decode cX3_pickColumn 29 = .ok (.ifCond .eq 21, 3) := by decide +kernel
theorem dX3_pickColumn_32 : decode cX3_pickColumn 32 = .ok (.aload_n 0, 1) := by decide +kernel
theorem dX3_pickColumn_33 : decode cX3_pickColumn 33 = .ok (.getfield 25, 3) := by decide +kernel
theorem dX3_pickColumn_36 : decode cX3_pickColumn 36 = .ok (.aload_n 0, 1) := by decide +kernel
theorem dX3_pickColumn_37 : decode cX3_pickColumn 37 = .ok (.getfield 72, 3) := by decide +kernel
theorem dX3_pickColumn_40 : decode cX3_pickColumn 40 = .ok (.iconst 1, 1) := by decide +kernel
theorem dX3_pickColumn_41 : decode cX3_pickColumn 41 = .ok (.isub, 1) := by decide +kernel
theorem dX3_pickColumn_42 : decode cX3_pickColumn 42 = .ok (.iload 4, 2) := by decide +kernel
theorem dX3_pickColumn_44 : decode cX3_pickColumn 44 = .ok (.invokevirtual 108, 3) := by decide +kernel
theorem dX3_pickColumn_47 : decode cX3_pickColumn 47 = .ok (.goto 9, 3) := by decide +kernel
theorem dX3_pickColumn_50 : decode cX3_pickColumn 50 = .ok (.aload_n 0, 1) := by decide +kernel
theorem dX3_pickColumn_51 : decode cX3_pickColumn 51 = .ok (.iconst 5, 1) := by decide +kernel
theorem dX3_pickColumn_52 : decode cX3_pickColumn 52 = .ok (.iload_n 3, 1) := by decide +kernel
theorem dX3_pickColumn_53 : decode cX3_pickColumn 53 = .ok (.invokevirtual 63, 3) := by decide +kernel
theorem dX3_pickColumn_56 : decode cX3_pickColumn 56 = .ok (.return_, 1) := by decide +kernel
theorem dX3_addOtherColumns_0 : decode cX3_addOtherColumns 0 = .ok (.iconst 0, 1) := by decide +kernel
theorem dX3_addOtherColumns_1 : decode cX3_addOtherColumns 1 = .ok (.istore_n 1, 1) := by decide +kernel
theorem dX3_addOtherColumns_2 : decode cX3_addOtherColumns 2 = .ok (.iload_n 1, 1) := by decide +kernel
theorem dX3_addOtherColumns_3 : decode cX3_addOtherColumns 3 = .ok (.aload_n 0, 1) := by decide +kernel
theorem dX3_addOtherColumns_4 : decode cX3_addOtherColumns 4 = .ok (.getfield 32, 3) := by decide +kernel
theorem dX3_addOtherColumns_7 : decode cX3_addOtherColumns 7 = .ok (.getfield 181, 3) := by decide +kernel
theorem dX3_addOtherColumns_10 : decode cX3_addOtherColumns 10 = .ok (.if_icmp .ge 44, 3) := by decide +kernel
theorem dX3_addOtherColumns_13 : decode cX3_addOtherColumns 13 = .ok (.iload_n 1, 1) := by decide +kernel
theorem dX3_addOtherColumns_14 : decode cX3_addOtherColumns 14 = .ok (.aload_n 0, 1) := by decide +kernel
theorem dX3_addOtherColumns_15 : decode cX3_addOtherColumns 15 = .ok (.getfield 25, 3) := by decide +kernel
theorem dX3_addOtherColumns_18 : decode cX3_addOtherColumns 18 = .ok (.getfield 176, 3) := by decide +kernel
theorem dX3_addOtherColumns_21 : decode cX3_addOtherColumns 21 = .ok (.if_icmp .eq 27, 3) := by decide +kernel
theorem dX3_addOtherColumns_24 : decode cX3_addOtherColumns 24 = .ok (.aload_n 0, 1) := by decide +kernel
theorem dX3_addOtherColumns_25 : decode cX3_addOtherColumns 25 = .ok (.aload_n 0, 1) := by decide +kernel
theorem dX3_addOtherColumns_26 : decode cX3_addOtherColumns 26 = .ok (.getfield 32, 3) := by decide +kernel
theorem dX3_addOtherColumns_29 : decode cX3_addOtherColumns 29 = .ok (.iload_n 1, 1) := by decide +kernel
theorem dX3_addOtherColumns_30 : decode cX3_addOtherColumns 30 = .ok (.invokevirtual 182, 3) := by decide +kernel
theorem dX3_addOtherColumns_33 : decode cX3_addOtherColumns 33 = .ok (.invokevirtual 156, 3) := by decide +kernel
theorem dX3_addOtherColumns_36 : decode cX3_addOtherColumns 36 = .ok (.ifCond .ne 12, 3) := by decide +kernel
theorem dX3_addOtherColumns_39 : decode cX3_addOtherColumns 39 = .ok (.aload_n 0, 1) := by decide +kernel
theorem dX3_addOtherColumns_40 : decode cX3_addOtherColumns 40 = .ok (.iconst 5, 1) := by decide +kernel
theorem dX3_addOtherColumns_41 : decode cX3_addOtherColumns 41 = .ok (.aload_n 0, 1) := by decide +kernel
theorem dX3_addOtherColumns_42 : decode cX3_addOtherColumns 42 = .ok (.getfield 170, 3) := by decide +kernel
theorem dX3_addOtherColumns_45 : decode cX3_addOtherColumns 45 = .ok (.invokevirtual 63, 3) := by decide +kernel
theorem dX3_addOtherColumns_48 : decode cX3_addOtherColumns 48 = .ok (.iinc 1 1, 3) := by decide +kernel
theorem dX3_addOtherColumns_51 : decode cX3_addOtherColumns 51 = .ok (.goto (-49), 3) := by decide +kernel
theorem dX3_addOtherColumns_54 : decode cX3_addOtherColumns 54 = .ok (.return_, 1) := by decide +kernel
theorem dX3_report_0 : decode cX3_report 0 = .ok (.aload_n 0, 1) := by decide +kernel
theorem dX3_report_1 : decode cX3_report 1 = .ok (.getfield 53, 3) := by decide +kernel
theorem dX3_report_4 : decode cX3_report 4 = .ok (.ifCond .ne 13, 3) := by decide +kernel
theorem dX3_report_7 : decode cX3_report 7 = .ok (.aload_n 0, 1) := by decide +kernel
theorem dX3_report_8 : decode cX3_report 8 = .ok (.iload_n 1, 1) := by decide +kernel
theorem dX3_report_9 : decode cX3_report 9 = .ok (.putfield 53, 3) := by decide +kernel
theorem dX3_report_12 : decode cX3_report 12 = .ok (.aload_n 0, 1) := by decide +kernel
theorem dX3_report_13 : decode cX3_report 13 = .ok (.iload_n 2, 1) := by decide +kernel
theorem dX3_report_14 : decode cX3_report 14 = .ok (.putfield 56, 3) := by decide +kernel
theorem dX3_report_17 : decode cX3_report 17 = .ok (.return_, 1) := by decide +kernel
theorem dX4_init_0 : decode cX4_init 0 = .ok (.aload_n 0, 1) := by decide +kernel
theorem dX4_init_1 : decode cX4_init 1 = .ok (.invokespecial 3, 3) := by decide +kernel
theorem dX4_init_4 : decode cX4_init 4 = .ok (.aload_n 0, 1) := by decide +kernel
theorem dX4_init_5 : decode cX4_init 5 = .ok (.aload_n 1, 1) := by decide +kernel
theorem dX4_init_6 : decode cX4_init 6 = .ok (.putfield 9, 3) := by decide +kernel
theorem dX4_init_9 : decode cX4_init 9 = .ok (.aload_n 0, 1) := by decide +kernel
theorem dX4_init_10 : decode cX4_init 10 = .ok (.aload_n 2, 1) := by decide +kernel
theorem dX4_init_11 : decode cX4_init 11 = .ok (.putfield 15, 3) := by decide +kernel
theorem dX4_init_14 : decode cX4_init 14 = .ok (.return_, 1) := by decide +kernel
theorem dX4_parse_0 : decode cX4_parse 0 = .ok (.aload_n 0, 1) := by decide +kernel
theorem dX4_parse_1 : decode cX4_parse 1 = .ok (.iconst (-1), 1) := by decide +kernel
theorem dX4_parse_2 : decode cX4_parse 2 = .ok (.putfield 19, 3) := by decide +kernel
theorem dX4_parse_5 : decode cX4_parse 5 = .ok (.aload_n 0, 1) := by decide +kernel
theorem dX4_parse_6 : decode cX4_parse 6 = .ok (.iconst (-1), 1) := by decide +kernel
theorem dX4_parse_7 : decode cX4_parse 7 = .ok (.putfield 23, 3) := by decide +kernel
theorem dX4_parse_10 : decode cX4_parse 10 = .ok (.aload_n 0, 1) := by decide +kernel
theorem dX4_parse_11 : decode cX4_parse 11 = .ok (.invokevirtual 26, 3) := by decide +kernel
theorem dX4_parse_14 : decode cX4_parse 14 = .ok (.iconst 0, 1) := by decide +kernel
theorem dX4_parse_15 : decode cX4_parse 15 = .ok (.istore_n 1, 1) := by decide +kernel
theorem dX4_parse_16 : decode cX4_parse 16 = .ok (.iload_n 1, 1) := by decide +kernel
theorem dX4_parse_17 : decode cX4_parse 17 = .ok (.sipush 1500, 3) := by decide +kernel
theorem dX4_parse_20 : decode cX4_parse 20 = .ok (.if_icmp .ge 91, 3) := by decide +kernel
theorem dX4_parse_23 : decode cX4_parse 23 = .ok (.aload_n 0, 1) := by decide +kernel
theorem dX4_parse_24 : decode cX4_parse 24 = .ok (.getfield 19, 3) := by decide +kernel
theorem dX4_parse_27 : decode cX4_parse 27 = .ok (.ifCond .ge 84, 3) := by decide +kernel
theorem dX4_parse_30 : decode cX4_parse 30 = .ok (.iload_n 1, 1) := by decide +kernel
theorem dX4_parse_31 : decode cX4_parse 31 = .ok (.ifCond .eq 10, 3) := by decide +kernel
theorem dX4_parse_34 : decode cX4_parse 34 = .ok (.aload_n 0, 1) := by decide +kernel
theorem dX4_parse_35 : decode cX4_parse 35 = .ok (.getfield 29, 3) := by decide +kernel
theorem dX4_parse_38 : decode cX4_parse 38 = .ok (.ifCond .eq 73, 3) := by decide +kernel
theorem dX4_parse_41 : decode cX4_parse 41 = .ok (.aload_n 0, 1) := by decide +kernel
theorem dX4_parse_42 : decode cX4_parse 42 = .ok (.getfield 29, 3) := by decide +kernel
theorem dX4_parse_45 : decode cX4_parse 45 = .ok (.lookupswitch 56 #[(128, 35), (130, 42), (145, 49)], 35) := by decide +kernel
theorem dX4_parse_80 : decode cX4_parse 80 = .ok (.aload_n 0, 1) := by decide +kernel
theorem dX4_parse_81 : decode cX4_parse 81 = .ok (.invokevirtual 32, 3) := by decide +kernel
theorem dX4_parse_84 : decode cX4_parse 84 = .ok (.goto 21, 3) := by decide +kernel
theorem dX4_parse_87 : decode cX4_parse 87 = .ok (.aload_n 0, 1) := by decide +kernel
theorem dX4_parse_88 : decode cX4_parse 88 = .ok (.invokevirtual 35, 3) := by decide +kernel
theorem dX4_parse_91 : decode cX4_parse 91 = .ok (.goto 14, 3) := by decide +kernel
theorem dX4_parse_94 : decode cX4_parse 94 = .ok (.aload_n 0, 1) := by decide +kernel
theorem dX4_parse_95 : decode cX4_parse 95 = .ok (.invokevirtual 38, 3) := by decide +kernel
theorem dX4_parse_98 : decode cX4_parse 98 = .ok (.goto 7, 3) := by decide +kernel
theorem dX4_parse_101 : decode cX4_parse 101 = .ok (.aload_n 0, 1) := by decide +kernel
theorem dX4_parse_102 : decode cX4_parse 102 = .ok (.invokevirtual 41, 3) := by decide +kernel
theorem dX4_parse_105 : decode cX4_parse 105 = .ok (.iinc 1 1, 3) := by decide +kernel
theorem dX4_parse_108 : decode cX4_parse 108 = .ok (.goto (-92), 3) := by decide +kernel
theorem dX4_parse_111 : decode cX4_parse 111 = .ok (.aload_n 0, 1) := by decide +kernel
theorem dX4_parse_112 : decode cX4_parse 112 = .ok (.getfield 19, 3) := by decide +kernel
theorem dX4_parse_115 : decode cX4_parse 115 = .ok (.ireturn, 1) := by decide +kernel
theorem dX4_source_0 : decode cX4_source 0 = .ok (.aload_n 0, 1) := by decide +kernel
theorem dX4_source_1 : decode cX4_source 1 = .ok (.getfield 15, 3) := by decide +kernel
theorem dX4_source_4 : decode cX4_source 4 = .ok (.aload_n 0, 1) := by decide +kernel
theorem dX4_source_5 : decode cX4_source 5 = .ok (.getfield 44, 3) := by decide +kernel
theorem dX4_source_8 : decode cX4_source 8 = .ok (.invokevirtual 47, 3) := by decide +kernel
theorem dX4_source_11 : decode cX4_source 11 = .ok (.aload_n 0, 1) := by decide +kernel
theorem dX4_source_12 : decode cX4_source 12 = .ok (.getfield 15, 3) := by decide +kernel
theorem dX4_source_15 : decode cX4_source 15 = .ok (.iconst 0, 1) := by decide +kernel
theorem dX4_source_16 : decode cX4_source 16 = .ok (.aload_n 0, 1) := by decide +kernel
theorem dX4_source_17 : decode cX4_source 17 = .ok (.getfield 44, 3) := by decide +kernel
theorem dX4_source_20 : decode cX4_source 20 = .ok (.invokevirtual 53, 3) := by decide +kernel
theorem dX4_source_23 : decode cX4_source 23 = .ok (.aload_n 0, 1) := by decide +kernel
theorem dX4_source_24 : decode cX4_source 24 = .ok (.sipush 128, 3) := by decide +kernel
theorem dX4_source_27 : decode cX4_source 27 = .ok (.invokevirtual 57, 3) := by decide +kernel
theorem dX4_source_30 : decode cX4_source 30 = .ok (.aload_n 0, 1) := by decide +kernel
theorem dX4_source_31 : decode cX4_source 31 = .ok (.iconst 0, 1) := by decide +kernel
theorem dX4_source_32 : decode cX4_source 32 = .ok (.invokevirtual 60, 3) := by decide +kernel
theorem dX4_source_35 : decode cX4_source 35 = .ok (.aload_n 0, 1) := by decide +kernel
theorem dX4_source_36 : decode cX4_source 36 = .ok (.iconst 1, 1) := by decide +kernel
theorem dX4_source_37 : decode cX4_source 37 = .ok (.invokevirtual 63, 3) := by decide +kernel
theorem dX4_source_40 : decode cX4_source 40 = .ok (.aload_n 0, 1) := by decide +kernel
theorem dX4_source_41 : decode cX4_source 41 = .ok (.getfield 29, 3) := by decide +kernel
theorem dX4_source_44 : decode cX4_source 44 = .ok (.sipush 129, 3) := by decide +kernel
theorem dX4_source_47 : decode cX4_source 47 = .ok (.if_icmp .ne 10, 3) := by decide +kernel
theorem dX4_source_50 : decode cX4_source 50 = .ok (.aload_n 0, 1) := by decide +kernel
theorem dX4_source_51 : decode cX4_source 51 = .ok (.sipush 129, 3) := by decide +kernel
theorem dX4_source_54 : decode cX4_source 54 = .ok (.invokevirtual 66, 3) := by decide +kernel
theorem dX4_source_57 : decode cX4_source 57 = .ok (.aload_n 0, 1) := by decide +kernel
theorem dX4_source_58 : decode cX4_source 58 = .ok (.getfield 15, 3) := by decide +kernel
theorem dX4_source_61 : decode cX4_source 61 = .ok (.invokevirtual 69, 3) := by decide +kernel
theorem dX4_source_64 : decode cX4_source 64 = .ok (.return_, 1) := by decide +kernel
theorem dX4_check_0 : decode cX4_check 0 = .ok (.aload_n 0, 1) := by decide +kernel
theorem dX4_check_1 : decode cX4_check 1 = .ok (.getfield 15, 3) := by decide +kernel
theorem dX4_check_4 : decode cX4_check 4 = .ok (.aload_n 0, 1) := by decide +kernel
theorem dX4_check_5 : decode cX4_check 5 = .ok (.getfield 44, 3) := by decide +kernel
theorem dX4_check_8 : decode cX4_check 8 = .ok (.invokevirtual 72, 3) := by decide +kernel
theorem dX4_check_11 : decode cX4_check 11 = .ok (.aload_n 0, 1) := by decide +kernel
theorem dX4_check_12 : decode cX4_check 12 = .ok (.sipush 145, 3) := by decide +kernel
theorem dX4_check_15 : decode cX4_check 15 = .ok (.invokevirtual 57, 3) := by decide +kernel
theorem dX4_check_18 : decode cX4_check 18 = .ok (.aload_n 0, 1) := by decide +kernel
theorem dX4_check_19 : decode cX4_check 19 = .ok (.iconst 2, 1) := by decide +kernel
theorem dX4_check_20 : decode cX4_check 20 = .ok (.invokevirtual 60, 3) := by decide +kernel
theorem dX4_check_23 : decode cX4_check 23 = .ok (.aload_n 0, 1) := by decide +kernel
theorem dX4_check_24 : decode cX4_check 24 = .ok (.bipush 58, 2) := by decide +kernel
theorem dX4_check_26 : decode cX4_check 26 = .ok (.invokevirtual 57, 3) := by decide +kernel
theorem dX4_check_29 : decode cX4_check 29 = .ok (.aload_n 0, 1) := by decide +kernel
theorem dX4_check_30 : decode cX4_check 30 = .ok (.invokevirtual 75, 3) := by decide +kernel
theorem dX4_check_33 : decode cX4_check 33 = .ok (.aload_n 0, 1) := by decide +kernel
theorem dX4_check_34 : decode cX4_check 34 = .ok (.sipush 146, 3) := by decide +kernel
theorem dX4_check_37 : decode cX4_check 37 = .ok (.invokevirtual 57, 3) := by decide +kernel
theorem dX4_check_40 : decode cX4_check 40 = .ok (.aload_n 0, 1) := by decide +kernel
theorem dX4_check_41 : decode cX4_check 41 = .ok (.getfield 29, 3) := by decide +kernel
theorem dX4_check_44 : decode cX4_check 44 = .ok (.istore_n 1, 1) := by decide +kernel
theorem dX4_check_45 : decode cX4_check 45 = .ok (.iload_n 1, 1) := by decide +kernel
theorem dX4_check_46 : decode cX4_check 46 = .ok (.sipush 147, 3) := by decide +kernel
theorem dX4_check_49 : decode cX4_check 49 = .ok (.if_icmp .eq 17, 3) := by decide +kernel
theorem dX4_check_52 : decode cX4_check 52 = .ok (.iload_n 1, 1) := by decide +kernel
theorem dX4_check_53 : decode cX4_check 53 = .ok (.sipush 148, 3) := by decide +kernel
theorem dX4_check_56 : decode cX4_check 56 = .ok (.if_icmp .eq 10, 3) := by decide +kernel
theorem dX4_check_59 : decode cX4_check 59 = .ok (.iload_n 1, 1) := by decide +kernel
theorem dX4_check_60 : decode cX4_check 60 = .ok (.sipush 149, 3) := by decide +kernel
theorem dX4_check_63 : decode cX4_check 63 = .ok (.if_icmp .ne 19, 3) := by decide +kernel
theorem dX4_check_66 : decode cX4_check 66 = .ok (.aload_n 0, 1) := by decide +kernel
theorem dX4_check_67 : decode cX4_check 67 = .ok (.iload_n 1, 1) := by decide +kernel
theorem dX4_check_68 : decode cX4_check 68 = .ok (.invokevirtual 57, 3) := by decide +kernel
theorem dX4_check_71 : decode cX4_check 71 = .ok (.aload_n 0, 1) := by decide +kernel
theorem dX4_check_72 : decode cX4_check 72 = .ok (.getfield 15, 3) := by decide +kernel
theorem dX4_check_75 : decode cX4_check 75 = .ok (.iload_n 1, 1) := by decide +kernel
theorem dX4_check_76 : decode cX4_check 76 = .ok (.invokevirtual 78, 3) := by decide +kernel
theorem dX4_check_79 : decode cX4_check 79 = .ok (.goto 7, 3) := by decide +kernel
theorem dX4_check_82 : decode cX4_check 82 = .ok (.aload_n 0, 1) := by decide +kernel
theorem dX4_check_83 : decode cX4_check 83 = .ok (.invokevirtual 41, 3) := by decide +kernel
theorem dX4_check_86 : decode cX4_check 86 = .ok (.return_, 1) := by decide +kernel
theorem dX4_step_0 : decode cX4_step 0 = .ok (.aload_n 0, 1) := by decide +kernel
theorem dX4_step_1 : decode cX4_step 1 = .ok (.getfield 15, 3) := by decide +kernel
theorem dX4_step_4 : decode cX4_step 4 = .ok (.aload_n 0, 1) := by decide +kernel
theorem dX4_step_5 : decode cX4_step 5 = .ok (.getfield 44, 3) := by decide +kernel
theorem dX4_step_8 : decode cX4_step 8 = .ok (.invokevirtual 47, 3) := by decide +kernel
theorem dX4_step_11 : decode cX4_step 11 = .ok (.aload_n 0, 1) := by decide +kernel
theorem dX4_step_12 : decode cX4_step 12 = .ok (.sipush 130, 3) := by decide +kernel
theorem dX4_step_15 : decode cX4_step 15 = .ok (.invokevirtual 57, 3) := by decide +kernel
theorem dX4_step_18 : decode cX4_step 18 = .ok (.aload_n 0, 1) := by decide +kernel
theorem dX4_step_19 : decode cX4_step 19 = .ok (.iconst 0, 1) := by decide +kernel
theorem dX4_step_20 : decode cX4_step 20 = .ok (.invokevirtual 60, 3) := by decide +kernel
theorem dX4_step_23 : decode cX4_step 23 = .ok (.aload_n 0, 1) := by decide +kernel
theorem dX4_step_24 : decode cX4_step 24 = .ok (.bipush 61, 2) := by decide +kernel
theorem dX4_step_26 : decode cX4_step 26 = .ok (.invokevirtual 57, 3) := by decide +kernel
theorem dX4_step_29 : decode cX4_step 29 = .ok (.aload_n 0, 1) := by decide +kernel
theorem dX4_step_30 : decode cX4_step 30 = .ok (.getfield 29, 3) := by decide +kernel
theorem dX4_step_33 : decode cX4_step 33 = .ok (.istore_n 1, 1) := by decide +kernel
theorem dX4_step_34 : decode cX4_step 34 = .ok (.iload_n 1, 1) := by decide +kernel
theorem dX4_step_35 : decode cX4_step 35 = .ok (.invokestatic 81, 3) := by decide +kernel
theorem dX4_step_38 : decode cX4_step 38 = .ok (.ifCond .ne 7, 3) := by decide +kernel
theorem dX4_step_41 : decode cX4_step 41 = .ok (.aload_n 0, 1) := by decide +kernel
theorem dX4_step_42 : decode cX4_step 42 = .ok (.invokevirtual 41, 3) := by decide +kernel
theorem dX4_step_45 : decode cX4_step 45 = .ok (.aload_n 0, 1) := by decide +kernel
theorem dX4_step_46 : decode cX4_step 46 = .ok (.getfield 15, 3) := by decide +kernel
theorem dX4_step_49 : decode cX4_step 49 = .ok (.iload_n 1, 1) := by decide +kernel
theorem dX4_step_50 : decode cX4_step 50 = .ok (.invokestatic 81, 3) := by decide +kernel
theorem dX4_step_53 : decode cX4_step 53 = .ok (.aload_n 0, 1) := by decide +kernel
theorem dX4_step_54 : decode cX4_step 54 = .ok (.getfield 44, 3) := by decide +kernel
theorem dX4_step_57 : decode cX4_step 57 = .ok (.invokevirtual 53, 3) := by decide +kernel
theorem dX4_step_60 : decode cX4_step 60 = .ok (.aload_n 0, 1) := by decide +kernel
theorem dX4_step_61 : decode cX4_step 61 = .ok (.iload_n 1, 1) := by decide +kernel
theorem dX4_step_62 : decode cX4_step 62 = .ok (.invokevirtual 57, 3) := by decide +kernel
theorem dX4_step_65 : decode cX4_step 65 = .ok (.aload_n 0, 1) := by decide +kernel
theorem dX4_step_66 : decode cX4_step 66 = .ok (.iconst 2, 1) := by decide +kernel
theorem dX4_step_67 : decode cX4_step 67 = .ok (.invokevirtual 60, 3) := by decide +kernel
theorem dX4_step_70 : decode cX4_step 70 = .ok (.iload_n 1, 1) := by decide +kernel
theorem dX4_step_71 : decode cX4_step 71 = .ok (.tableswitch 152 131 142 #[61, 152, 75, 152, 82, 90, 97, 152, 152, 123, 152, 145], 61) := by decide +kernel
theorem dX4_step_132 : decode cX4_step 132 = .ok (.aload_n 0, 1) := by decide +kernel
theorem dX4_step_133 : decode cX4_step 133 = .ok (.sipush 132, 3) := by decide +kernel
theorem dX4_step_136 : decode cX4_step 136 = .ok (.invokevirtual 57, 3) := by decide +kernel
theorem dX4_step_139 : decode cX4_step 139 = .ok (.aload_n 0, 1) := by decide +kernel
theorem dX4_step_140 : decode cX4_step 140 = .ok (.invokevirtual 75, 3) := by decide +kernel
theorem dX4_step_143 : decode cX4_step 143 = .ok (.goto 80, 3) := by decide +kernel
theorem dX4_step_146 : decode cX4_step 146 = .ok (.aload_n 0, 1) := by decide +kernel
theorem dX4_step_147 : decode cX4_step 147 = .ok (.invokevirtual 85, 3) := by decide +kernel
theorem dX4_step_150 : decode cX4_step 150 = .ok (.goto 73, 3) := by decide +kernel
theorem dX4_step_153 : decode cX4_step 153 = .ok (.aload_n 0, 1) := by decide +kernel
theorem dX4_step_154 : decode cX4_step 154 = .ok (.iconst 5, 1) := by decide +kernel
theorem dX4_step_155 : decode cX4_step 155 = .ok (.invokevirtual 63, 3) := by decide +kernel
theorem dX4_step_158 : decode cX4_step 158 = .ok (.goto 65, 3) := by decide +kernel
theorem dX4_step_161 : decode cX4_step 161 = .ok (.aload_n 0, 1) := by decide +kernel
theorem dX4_step_162 : decode cX4_step 162 = .ok (.invokevirtual 88, 3) := by decide +kernel
theorem dX4_step_165 : decode cX4_step 165 = .ok (.goto 58, 3) := by decide +kernel
theorem dX4_step_168 : decode cX4_step 168 = .ok (.aload_n 0, 1) := by decide +kernel
theorem dX4_step_169 : decode cX4_step 169 = .ok (.invokevirtual 88, 3) := by decide +kernel
theorem dX4_step_172 : decode cX4_step 172 = .ok (.aload_n 0, 1) := by decide +kernel
theorem dX4_step_173 : decode cX4_step 173 = .ok (.sipush 138, 3) := by decide +kernel
theorem dX4_step_176 : decode cX4_step 176 = .ok (.invokevirtual 57, 3) := by decide +kernel
theorem dX4_step_179 : decode cX4_step 179 = .ok (.aload_n 0, 1) := by decide +kernel
theorem dX4_step_180 : decode cX4_step 180 = .ok (.iconst 4, 1) := by decide +kernel
theorem dX4_step_181 : decode cX4_step 181 = .ok (.invokevirtual 60, 3) := by decide +kernel
theorem dX4_step_184 : decode cX4_step 184 = .ok (.aload_n 0, 1) := by decide +kernel
theorem dX4_step_185 : decode cX4_step 185 = .ok (.sipush 139, 3) := by decide +kernel
theorem dX4_step_188 : decode cX4_step 188 = .ok (.invokevirtual 66, 3) := by decide +kernel
theorem dX4_step_191 : decode cX4_step 191 = .ok (.goto 32, 3) := by decide +kernel
theorem dX4_step_194 : decode cX4_step 194 = .ok (.aload_n 0, 1) := by decide +kernel
theorem dX4_step_195 : decode cX4_step 195 = .ok (.sipush 141, 3) := by decide +kernel
theorem dX4_step_198 : decode cX4_step 198 = .ok (.invokevirtual 57, 3) := by decide +kernel
theorem dX4_step_201 : decode cX4_step 201 = .ok (.aload_n 0, 1) := by decide +kernel
theorem dX4_step_202 : decode cX4_step 202 = .ok (.iconst 4, 1) := by decide +kernel
theorem dX4_step_203 : decode cX4_step 203 = .ok (.invokevirtual 60, 3) := by decide +kernel
theorem dX4_step_206 : decode cX4_step 206 = .ok (.aload_n 0, 1) := by decide +kernel
theorem dX4_step_207 : decode cX4_step 207 = .ok (.sipush 139, 3) := by decide +kernel
theorem dX4_step_210 : decode cX4_step 210 = .ok (.invokevirtual 66, 3) := by decide +kernel
theorem dX4_step_213 : decode cX4_step 213 = .ok (.goto 10, 3) := by decide +kernel
theorem dX4_step_216 : decode cX4_step 216 = .ok (.aload_n 0, 1) := by decide +kernel
theorem dX4_step_217 : decode cX4_step 217 = .ok (.invokevirtual 91, 3) := by decide +kernel
theorem dX4_step_220 : decode cX4_step 220 = .ok (.goto 3, 3) := by decide +kernel
theorem dX4_step_223 : decode cX4_step 223 = .ok (.aload_n 0, 1) := by decide +kernel
theorem dX4_step_224 : decode cX4_step 224 = .ok (.getfield 15, 3) := by decide +kernel
theorem dX4_step_227 : decode cX4_step 227 = .ok (.invokevirtual 69, 3) := by decide +kernel
theorem dX4_step_230 : decode cX4_step 230 = .ok (.return_, 1) := by decide +kernel
theorem dX4_kindOfWork_0 : decode cX4_kindOfWork 0 = .ok (.iload_n 0, 1) := by decide +kernel
theorem dX4_kindOfWork_1 : decode cX4_kindOfWork 1 = .ok (.tableswitch 79 131 142 #[63, 79, 65, 79, 67, 69, 71, 79, 79, 73, 79, 76], 63) := by decide +kernel
theorem dX4_kindOfWork_64 : decode cX4_kindOfWork 64 = .ok (.iconst 1, 1) := by decide +kernel
theorem dX4_kindOfWork_65 : decode cX4_kindOfWork 65 = .ok (.ireturn, 1) := by decide +kernel
theorem dX4_kindOfWork_66 : decode cX4_kindOfWork 66 = .ok (.iconst 2, 1) := by decide +kernel
theorem dX4_kindOfWork_67 : decode cX4_kindOfWork 67 = .ok (.ireturn, 1) := by decide +kernel
theorem dX4_kindOfWork_68 : decode cX4_kindOfWork 68 = .ok (.iconst 3, 1) := by decide +kernel
theorem dX4_kindOfWork_69 : decode cX4_kindOfWork 69 = .ok (.ireturn, 1) := by decide +kernel
theorem dX4_kindOfWork_70 : decode cX4_kindOfWork 70 = .ok (.iconst 4, 1) := by decide +kernel
theorem dX4_kindOfWork_71 : decode cX4_kindOfWork 71 = .ok (.ireturn, 1) := by decide +kernel
theorem dX4_kindOfWork_72 : decode cX4_kindOfWork 72 = .ok (.iconst 5, 1) := by decide +kernel
theorem dX4_kindOfWork_73 : decode cX4_kindOfWork 73 = .ok (.ireturn, 1) := by decide +kernel
theorem dX4_kindOfWork_74 : decode cX4_kindOfWork 74 = .ok (.bipush 6, 2) := by decide +kernel
theorem dX4_kindOfWork_76 : decode cX4_kindOfWork 76 = .ok (.ireturn, 1) := by decide +kernel
theorem dX4_kindOfWork_77 : decode cX4_kindOfWork 77 = .ok (.bipush 7, 2) := by decide +kernel
theorem dX4_kindOfWork_79 : decode cX4_kindOfWork 79 = .ok (.ireturn, 1) := by decide +kernel
theorem dX4_kindOfWork_80 : decode cX4_kindOfWork 80 = .ok (.iconst 0, 1) := by decide +kernel
theorem dX4_kindOfWork_81 : decode cX4_kindOfWork 81 = .ok (.ireturn, 1) := by decide +kernel
theorem dX4_newColumns_0 : decode cX4_newColumns 0 = .ok (.aload_n 0, 1) := by decide +kernel
theorem dX4_newColumns_1 : decode cX4_newColumns 1 = .ok (.sipush 134, 3) := by decide +kernel
theorem dX4_newColumns_4 : decode cX4_newColumns 4 = .ok (.invokevirtual 57, 3) := by decide +kernel
theorem dX4_newColumns_7 : decode cX4_newColumns 7 = .ok (.iconst 0, 1) := by decide +kernel
theorem dX4_newColumns_8 : decode cX4_newColumns 8 = .ok (.istore_n 1, 1) := by decide +kernel
theorem dX4_newColumns_9 : decode cX4_newColumns 9 = .ok (.iload_n 1, 1) := by decide +kernel
theorem dX4_newColumns_10 : decode cX4_newColumns 10 = .ok (.sipush 1500, 3) := by decide +kernel
theorem dX4_newColumns_13 : decode cX4_newColumns 13 = .ok (.if_icmp .ge 42, 3) := by decide +kernel
theorem dX4_newColumns_16 : decode cX4_newColumns 16 = .ok (.iload_n 1, 1) := by decide +kernel
theorem dX4_newColumns_17 : decode cX4_newColumns 17 = .ok (.ifCond .eq 12, 3) := by decide +kernel
theorem dX4_newColumns_20 : decode cX4_newColumns 20 = .ok (.aload_n 0, 1) := by decide +kernel
theorem dX4_newColumns_21 : decode cX4_newColumns 21 = .ok (.getfield 29, 3) := by decide +kernel
theorem dX4_newColumns_24 : decode cX4_newColumns 24 = .ok (.bipush 44, 2) := by decide +kernel
theorem dX4_newColumns_26 : decode cX4_newColumns 26 = .ok (.if_icmp .ne 29, 3) := by decide +kernel
theorem dX4_newColumns_29 : decode cX4_newColumns 29 = .ok (.aload_n 0, 1) := by decide +kernel
theorem dX4_newColumns_30 : decode cX4_newColumns 30 = .ok (.iload_n 1, 1) := by decide +kernel
theorem dX4_newColumns_31 : decode cX4_newColumns 31 = .ok (.invokevirtual 94, 3) := by decide +kernel
theorem dX4_newColumns_34 : decode cX4_newColumns 34 = .ok (.aload_n 0, 1) := by decide +kernel
theorem dX4_newColumns_35 : decode cX4_newColumns 35 = .ok (.iconst 1, 1) := by decide +kernel
theorem dX4_newColumns_36 : decode cX4_newColumns 36 = .ok (.invokevirtual 60, 3) := by decide +kernel
theorem dX4_newColumns_39 : decode cX4_newColumns 39 = .ok (.aload_n 0, 1) := by decide +kernel
theorem dX4_newColumns_40 : decode cX4_newColumns 40 = .ok (.bipush 61, 2) := by decide +kernel
theorem dX4_newColumns_42 : decode cX4_newColumns 42 = .ok (.invokevirtual 57, 3) := by decide +kernel
theorem dX4_newColumns_45 : decode cX4_newColumns 45 = .ok (.aload_n 0, 1) := by decide +kernel
theorem dX4_newColumns_46 : decode cX4_newColumns 46 = .ok (.invokevirtual 75, 3) := by decide +kernel
theorem dX4_newColumns_49 : decode cX4_newColumns 49 = .ok (.iinc 1 1, 3) := by decide +kernel
theorem dX4_newColumns_52 : decode cX4_newColumns 52 = .ok (.goto (-43), 3) := by decide +kernel
theorem dX4_newColumns_55 : decode cX4_newColumns 55 = .ok (.return_, 1) := by decide +kernel
theorem dX4_secondInput_0 : decode cX4_secondInput 0 = .ok (.aload_n 0, 1) := by decide +kernel
theorem dX4_secondInput_1 : decode cX4_secondInput 1 = .ok (.bipush 44, 2) := by decide +kernel
theorem dX4_secondInput_3 : decode cX4_secondInput 3 = .ok (.invokevirtual 57, 3) := by decide +kernel
theorem dX4_secondInput_6 : decode cX4_secondInput 6 = .ok (.aload_n 0, 1) := by decide +kernel
theorem dX4_secondInput_7 : decode cX4_secondInput 7 = .ok (.iconst 3, 1) := by decide +kernel
theorem dX4_secondInput_8 : decode cX4_secondInput 8 = .ok (.invokevirtual 60, 3) := by decide +kernel
theorem dX4_secondInput_11 : decode cX4_secondInput 11 = .ok (.return_, 1) := by decide +kernel
theorem dX4_window_0 : decode cX4_window 0 = .ok (.aload_n 0, 1) := by decide +kernel
theorem dX4_window_1 : decode cX4_window 1 = .ok (.sipush 141, 3) := by decide +kernel
theorem dX4_window_4 : decode cX4_window 4 = .ok (.invokevirtual 57, 3) := by decide +kernel
theorem dX4_window_7 : decode cX4_window 7 = .ok (.aload_n 0, 1) := by decide +kernel
theorem dX4_window_8 : decode cX4_window 8 = .ok (.iconst 4, 1) := by decide +kernel
theorem dX4_window_9 : decode cX4_window 9 = .ok (.invokevirtual 60, 3) := by decide +kernel
theorem dX4_window_12 : decode cX4_window 12 = .ok (.aload_n 0, 1) := by decide +kernel
theorem dX4_window_13 : decode cX4_window 13 = .ok (.sipush 143, 3) := by decide +kernel
theorem dX4_window_16 : decode cX4_window 16 = .ok (.invokevirtual 66, 3) := by decide +kernel
theorem dX4_window_19 : decode cX4_window 19 = .ok (.aload_n 0, 1) := by decide +kernel
theorem dX4_window_20 : decode cX4_window 20 = .ok (.getfield 29, 3) := by decide +kernel
theorem dX4_window_23 : decode cX4_window 23 = .ok (.sipush 144, 3) := by decide +kernel
theorem dX4_window_26 : decode cX4_window 26 = .ok (.if_icmp .ne 10, 3) := by decide +kernel
theorem dX4_window_29 : decode cX4_window 29 = .ok (.aload_n 0, 1) := by decide +kernel
theorem dX4_window_30 : decode cX4_window 30 = .ok (.sipush 144, 3) := by decide +kernel
theorem dX4_window_33 : decode cX4_window 33 = .ok (.invokevirtual 66, 3) := by decide +kernel
theorem dX4_window_36 : decode cX4_window 36 = .ok (.aload_n 0, 1) := by decide +kernel
theorem dX4_window_37 : decode cX4_window 37 = .ok (.bipush 40, 2) := by decide +kernel
theorem dX4_window_39 : decode cX4_window 39 = .ok (.invokevirtual 57, 3) := by decide +kernel
theorem dX4_window_42 : decode cX4_window 42 = .ok (.iconst 0, 1) := by decide +kernel
theorem dX4_window_43 : decode cX4_window 43 = .ok (.istore_n 1, 1) := by decide +kernel
theorem dX4_window_44 : decode cX4_window 44 = .ok (.iload_n 1, 1) := by decide +kernel
theorem dX4_window_45 : decode cX4_window 45 = .ok (.sipush 1500, 3) := by decide +kernel
theorem dX4_window_48 : decode cX4_window 48 = .ok (.if_icmp .ge 52, 3) := by decide +kernel
theorem dX4_window_51 : decode cX4_window 51 = .ok (.iload_n 1, 1) := by decide +kernel
theorem dX4_window_52 : decode cX4_window 52 = .ok (.ifCond .eq 12, 3) := by decide +kernel
theorem dX4_window_55 : decode cX4_window 55 = .ok (.aload_n 0, 1) := by decide +kernel
theorem dX4_window_56 : decode cX4_window 56 = .ok (.getfield 29, 3) := by decide +kernel
theorem dX4_window_59 : decode cX4_window 59 = .ok (.bipush 44, 2) := by decide +kernel
theorem dX4_window_61 : decode cX4_window 61 = .ok (.if_icmp .ne 39, 3) := by decide +kernel
theorem dX4_window_64 : decode cX4_window 64 = .ok (.aload_n 0, 1) := by decide +kernel
theorem dX4_window_65 : decode cX4_window 65 = .ok (.iload_n 1, 1) := by decide +kernel
theorem dX4_window_66 : decode cX4_window 66 = .ok (.invokevirtual 94, 3) := by decide +kernel
theorem dX4_window_69 : decode cX4_window 69 = .ok (.aload_n 0, 1) := by decide +kernel
theorem dX4_window_70 : decode cX4_window 70 = .ok (.iconst 1, 1) := by decide +kernel
theorem dX4_window_71 : decode cX4_window 71 = .ok (.invokevirtual 60, 3) := by decide +kernel
theorem dX4_window_74 : decode cX4_window 74 = .ok (.aload_n 0, 1) := by decide +kernel
theorem dX4_window_75 : decode cX4_window 75 = .ok (.bipush 61, 2) := by decide +kernel
theorem dX4_window_77 : decode cX4_window 77 = .ok (.invokevirtual 57, 3) := by decide +kernel
theorem dX4_window_80 : decode cX4_window 80 = .ok (.aload_n 0, 1) := by decide +kernel
theorem dX4_window_81 : decode cX4_window 81 = .ok (.invokevirtual 97, 3) := by decide +kernel
theorem dX4_window_84 : decode cX4_window 84 = .ok (.sipush 151, 3) := by decide +kernel
theorem dX4_window_87 : decode cX4_window 87 = .ok (.if_icmp .eq 7, 3) := by decide +kernel
theorem dX4_window_90 : decode cX4_window 90 = .ok (.aload_n 0, 1) := by decide +kernel
theorem dX4_window_91 : decode cX4_window 91 = .ok (.invokevirtual 75, 3) := by decide +kernel
theorem dX4_window_94 : decode cX4_window 94 = .ok (.iinc 1 1, 3) := by decide +kernel
theorem dX4_window_97 : decode cX4_window 97 = .ok (.goto (-53), 3) := by decide +kernel
theorem dX4_window_100 : decode cX4_window 100 = .ok (.aload_n 0, 1) := by decide +kernel
theorem dX4_window_101 : decode cX4_window 101 = .ok (.bipush 41, 2) := by decide +kernel
theorem dX4_window_103 : decode cX4_window 103 = .ok (.invokevirtual 57, 3) := by decide +kernel
theorem dX4_window_106 : decode cX4_window 106 = .ok (.return_, 1) := by decide +kernel
theorem dX4_takeTotal_0 : decode cX4_takeTotal 0 = .ok (.aload_n 0, 1) := by decide +kernel
theorem dX4_takeTotal_1 : decode cX4_takeTotal 1 = .ok (.getfield 29, 3) := by decide +kernel
theorem dX4_takeTotal_4 : decode cX4_takeTotal 4 = .ok (.istore_n 1, 1) := by decide +kernel
theorem dX4_takeTotal_5 : decode cX4_takeTotal 5 = .ok (.iload_n 1, 1) := by decide +kernel
theorem dX4_takeTotal_6 : decode cX4_takeTotal 6 = .ok (.sipush 151, 3) := by decide +kernel
theorem dX4_takeTotal_9 : decode cX4_takeTotal 9 = .ok (.if_icmp .eq 31, 3) := by decide +kernel
theorem dX4_takeTotal_12 : decode cX4_takeTotal 12 = .ok (.iload_n 1, 1) := by decide +kernel
theorem dX4_takeTotal_13 : decode cX4_takeTotal 13 = .ok (.sipush 150, 3) := by decide +kernel
theorem dX4_takeTotal_16 : decode cX4_takeTotal 16 = .ok (.if_icmp .eq 24, 3) := by decide +kernel
theorem dX4_takeTotal_19 : decode cX4_takeTotal 19 = .ok (.iload_n 1, 1) := by decide +kernel
theorem dX4_takeTotal_20 : decode cX4_takeTotal 20 = .ok (.sipush 152, 3) := by decide +kernel
theorem dX4_takeTotal_23 : decode cX4_takeTotal 23 = .ok (.if_icmp .eq 17, 3) := by decide +kernel
theorem dX4_takeTotal_26 : decode cX4_takeTotal 26 = .ok (.iload_n 1, 1) := by decide +kernel
theorem dX4_takeTotal_27 : decode cX4_takeTotal 27 = .ok (.sipush 153, 3) := by decide +kernel
theorem dX4_takeTotal_30 : decode cX4_takeTotal 30 = .ok (.if_icmp .eq 10, 3) := by decide +kernel
theorem dX4_takeTotal_33 : decode cX4_takeTotal 33 = .ok (.iload_n 1, 1) := by decide +kernel
theorem dX4_takeTotal_34 : decode cX4_takeTotal 34 = .ok (.sipush 154, 3) := by decide +kernel
theorem dX4_takeTotal_37 : decode cX4_takeTotal 37 = .ok (.if_icmp .ne 19, 3) := by decide +kernel
theorem dX4_takeTotal_40 : decode cX4_takeTotal 40 = .ok (.aload_n 0, 1) := by decide +kernel
theorem dX4_takeTotal_41 : decode cX4_takeTotal 41 = .ok (.getfield 15, 3) := by decide +kernel
theorem dX4_takeTotal_44 : decode cX4_takeTotal 44 = .ok (.iload_n 1, 1) := by decide +kernel
theorem dX4_takeTotal_45 : decode cX4_takeTotal 45 = .ok (.invokevirtual 101, 3) := by decide +kernel
theorem dX4_takeTotal_48 : decode cX4_takeTotal 48 = .ok (.aload_n 0, 1) := by decide +kernel
theorem dX4_takeTotal_49 : decode cX4_takeTotal 49 = .ok (.iload_n 1, 1) := by decide +kernel
theorem dX4_takeTotal_50 : decode cX4_takeTotal 50 = .ok (.invokevirtual 57, 3) := by decide +kernel
theorem dX4_takeTotal_53 : decode cX4_takeTotal 53 = .ok (.goto 7, 3) := by decide +kernel
theorem dX4_takeTotal_56 : decode cX4_takeTotal 56 = .ok (.aload_n 0, 1) := by decide +kernel
theorem dX4_takeTotal_57 : decode cX4_takeTotal 57 = .ok (.invokevirtual 41, 3) := by decide +kernel
theorem dX4_takeTotal_60 : decode cX4_takeTotal 60 = .ok (.iload_n 1, 1) := by decide +kernel
theorem dX4_takeTotal_61 : decode cX4_takeTotal 61 = .ok (.ireturn, 1) := by decide +kernel
theorem dX4_wholeExpression_0 : decode cX4_wholeExpression 0 = .ok (.aload_n 0, 1) := by decide +kernel
theorem dX4_wholeExpression_1 : decode cX4_wholeExpression 1 = .ok (.iconst 0, 1) := by decide +kernel
theorem dX4_wholeExpression_2 : decode cX4_wholeExpression 2 = .ok (.putfield 104, 3) := by decide +kernel
theorem dX4_wholeExpression_5 : decode cX4_wholeExpression 5 = .ok (.aload_n 0, 1) := by decide +kernel
theorem dX4_wholeExpression_6 : decode cX4_wholeExpression 6 = .ok (.getfield 15, 3) := by decide +kernel
theorem dX4_wholeExpression_9 : decode cX4_wholeExpression 9 = .ok (.invokevirtual 107, 3) := by decide +kernel
theorem dX4_wholeExpression_12 : decode cX4_wholeExpression 12 = .ok (.aload_n 0, 1) := by decide +kernel
theorem dX4_wholeExpression_13 : decode cX4_wholeExpression 13 = .ok (.iconst 0, 1) := by decide +kernel
theorem dX4_wholeExpression_14 : decode cX4_wholeExpression 14 = .ok (.invokevirtual 110, 3) := by decide +kernel
theorem dX4_wholeExpression_17 : decode cX4_wholeExpression 17 = .ok (.aload_n 0, 1) := by decide +kernel
theorem dX4_wholeExpression_18 : decode cX4_wholeExpression 18 = .ok (.getfield 15, 3) := by decide +kernel
theorem dX4_wholeExpression_21 : decode cX4_wholeExpression 21 = .ok (.invokevirtual 113, 3) := by decide +kernel
theorem dX4_wholeExpression_24 : decode cX4_wholeExpression 24 = .ok (.return_, 1) := by decide +kernel
theorem dX4_expression_0 : decode cX4_expression 0 = .ok (.aload_n 0, 1) := by decide +kernel
theorem dX4_expression_1 : decode cX4_expression 1 = .ok (.iload_n 1, 1) := by decide +kernel
theorem dX4_expression_2 : decode cX4_expression 2 = .ok (.invokevirtual 116, 3) := by decide +kernel
theorem dX4_expression_5 : decode cX4_expression 5 = .ok (.iconst 0, 1) := by decide +kernel
theorem dX4_expression_6 : decode cX4_expression 6 = .ok (.istore_n 2, 1) := by decide +kernel
theorem dX4_expression_7 : decode cX4_expression 7 = .ok (.iload_n 2, 1) := by decide +kernel
theorem dX4_expression_8 : decode cX4_expression 8 = .ok (.bipush 60, 2) := by decide +kernel
theorem dX4_expression_10 : decode cX4_expression 10 = .ok (.if_icmp .ge 44, 3) := by decide +kernel
theorem dX4_expression_13 : decode cX4_expression 13 = .ok (.aload_n 0, 1) := by decide +kernel
theorem dX4_expression_14 : decode cX4_expression 14 = .ok (.getfield 29, 3) := by decide +kernel
theorem dX4_expression_17 : decode cX4_expression 17 = .ok (.sipush 157, 3) := by decide +kernel
theorem dX4_expression_20 : decode cX4_expression 20 = .ok (.if_icmp .ne 34, 3) := by decide +kernel
theorem dX4_expression_23 : decode cX4_expression 23 = .ok (.aload_n 0, 1) := by decide +kernel
theorem dX4_expression_24 : decode cX4_expression 24 = .ok (.sipush 157, 3) := by decide +kernel
theorem dX4_expression_27 : decode cX4_expression 27 = .ok (.iload_n 1, 1) := by decide +kernel
theorem dX4_expression_28 : decode cX4_expression 28 = .ok (.invokevirtual 119, 3) := by decide +kernel
theorem dX4_expression_31 : decode cX4_expression 31 = .ok (.pop, 1) := by decide +kernel
theorem dX4_expression_32 : decode cX4_expression 32 = .ok (.aload_n 0, 1) := by decide +kernel
theorem dX4_expression_33 : decode cX4_expression 33 = .ok (.iload_n 1, 1) := by decide +kernel
theorem dX4_expression_34 : decode cX4_expression 34 = .ok (.invokevirtual 116, 3) := by decide +kernel
theorem dX4_expression_37 : decode cX4_expression 37 = .ok (.aload_n 0, 1) := by decide +kernel
theorem dX4_expression_38 : decode cX4_expression 38 = .ok (.getfield 15, 3) := by decide +kernel
theorem dX4_expression_41 : decode cX4_expression 41 = .ok (.sipush 157, 3) := by decide +kernel
theorem dX4_expression_44 : decode cX4_expression 44 = .ok (.lconst 0, 1) := by decide +kernel
theorem dX4_expression_45 : decode cX4_expression 45 = .ok (.invokevirtual 123, 3) := by decide +kernel
theorem dX4_expression_48 : decode cX4_expression 48 = .ok (.iinc 2 1, 3) := by decide +kernel
theorem dX4_expression_51 : decode cX4_expression 51 = .ok (.goto (-44), 3) := by decide +kernel
theorem dX4_expression_54 : decode cX4_expression 54 = .ok (.return_, 1) := by decide +kernel
theorem dX4_both_0 : decode cX4_both 0 = .ok (.aload_n 0, 1) := by decide +kernel
theorem dX4_both_1 : decode cX4_both 1 = .ok (.iload_n 1, 1) := by decide +kernel
theorem dX4_both_2 : decode cX4_both 2 = .ok (.invokevirtual 127, 3) := by decide +kernel
theorem dX4_both_5 : decode cX4_both 5 = .ok (.iconst 0, 1) := by decide +kernel
theorem dX4_both_6 : decode cX4_both 6 = .ok (.istore_n 2, 1) := by decide +kernel
theorem dX4_both_7 : decode cX4_both 7 = .ok (.iload_n 2, 1) := by decide +kernel
theorem dX4_both_8 : decode cX4_both 8 = .ok (.bipush 60, 2) := by decide +kernel
theorem dX4_both_10 : decode cX4_both 10 = .ok (.if_icmp .ge 44, 3) := by decide +kernel
theorem dX4_both_13 : decode cX4_both 13 = .ok (.aload_n 0, 1) := by decide +kernel
theorem dX4_both_14 : decode cX4_both 14 = .ok (.getfield 29, 3) := by decide +kernel
theorem dX4_both_17 : decode cX4_both 17 = .ok (.sipush 156, 3) := by decide +kernel
theorem dX4_both_20 : decode cX4_both 20 = .ok (.if_icmp .ne 34, 3) := by decide +kernel
theorem dX4_both_23 : decode cX4_both 23 = .ok (.aload_n 0, 1) := by decide +kernel
theorem dX4_both_24 : decode cX4_both 24 = .ok (.sipush 156, 3) := by decide +kernel
theorem dX4_both_27 : decode cX4_both 27 = .ok (.iload_n 1, 1) := by decide +kernel
theorem dX4_both_28 : decode cX4_both 28 = .ok (.invokevirtual 119, 3) := by decide +kernel
theorem dX4_both_31 : decode cX4_both 31 = .ok (.pop, 1) := by decide +kernel
theorem dX4_both_32 : decode cX4_both 32 = .ok (.aload_n 0, 1) := by decide +kernel
theorem dX4_both_33 : decode cX4_both 33 = .ok (.iload_n 1, 1) := by decide +kernel
theorem dX4_both_34 : decode cX4_both 34 = .ok (.invokevirtual 127, 3) := by decide +kernel
theorem dX4_both_37 : decode cX4_both 37 = .ok (.aload_n 0, 1) := by decide +kernel
theorem dX4_both_38 : decode cX4_both 38 = .ok (.getfield 15, 3) := by decide +kernel
theorem dX4_both_41 : decode cX4_both 41 = .ok (.sipush 156, 3) := by decide +kernel
theorem dX4_both_44 : decode cX4_both 44 = .ok (.lconst 0, 1) := by decide +kernel
theorem dX4_both_45 : decode cX4_both 45 = .ok (.invokevirtual 123, 3) := by decide +kernel
theorem dX4_both_48 : decode cX4_both 48 = .ok (.iinc 2 1, 3) := by decide +kernel
theorem dX4_both_51 : decode cX4_both 51 = .ok (.goto (-44), 3) := by decide +kernel
theorem dX4_both_54 : decode cX4_both 54 = .ok (.return_, 1) := by decide +kernel
theorem dX4_relation_0 : decode cX4_relation 0 = .ok (.aload_n 0, 1) := by decide +kernel
theorem dX4_relation_1 : decode cX4_relation 1 = .ok (.iload_n 1, 1) := by decide +kernel
theorem dX4_relation_2 : decode cX4_relation 2 = .ok (.invokevirtual 130, 3) := by decide +kernel
theorem dX4_relation_5 : decode cX4_relation 5 = .ok (.aload_n 0, 1) := by decide +kernel
theorem dX4_relation_6 : decode cX4_relation 6 = .ok (.getfield 29, 3) := by decide +kernel
theorem dX4_relation_9 : decode cX4_relation 9 = .ok (.istore_n 2, 1) := by decide +kernel
theorem dX4_relation_10 : decode cX4_relation 10 = .ok (.iload_n 2, 1) := by decide +kernel
theorem dX4_relation_11 : decode cX4_relation 11 = .ok (.bipush 61, 2) := by decide +kernel
theorem dX4_relation_13 : decode cX4_relation 13 = .ok (.if_icmp .eq 36, 3) := by decide +kernel
theorem dX4_relation_16 : decode cX4_relation 16 = .ok (.iload_n 2, 1) := by decide +kernel
theorem dX4_relation_17 : decode cX4_relation 17 = .ok (.bipush 60, 2) := by decide +kernel
theorem dX4_relation_19 : decode cX4_relation 19 = .ok (.if_icmp .eq 30, 3) := by decide +kernel
theorem dX4_relation_22 : decode cX4_relation 22 = .ok (.iload_n 2, 1) := by decide +kernel
theorem dX4_relation_23 : decode cX4_relation 23 = .ok (.bipush 62, 2) := by decide +kernel
theorem dX4_relation_25 : decode cX4_relation 25 = .ok (.if_icmp .eq 24, 3) := by decide +kernel
theorem dX4_relation_28 : decode cX4_relation 28 = .ok (.iload_n 2, 1) := by decide +kernel
theorem dX4_relation_29 : decode cX4_relation 29 = .ok (.sipush 15422, 3) := by decide +kernel
theorem dX4_relation_32 : decode cX4_relation 32 = .ok (.if_icmp .eq 17, 3) := by decide +kernel
theorem dX4_relation_35 : decode cX4_relation 35 = .ok (.iload_n 2, 1) := by decide +kernel
theorem dX4_relation_36 : decode cX4_relation 36 = .ok (.sipush 15421, 3) := by decide +kernel
theorem dX4_relation_39 : decode cX4_relation 39 = .ok (.if_icmp .eq 10, 3) := by decide +kernel
theorem dX4_relation_42 : decode cX4_relation 42 = .ok (.iload_n 2, 1) := by decide +kernel
theorem dX4_relation_43 : decode cX4_relation 43 = .ok (.sipush 15933, 3) := by decide +kernel
theorem dX4_relation_46 : decode cX4_relation 46 = .ok (.if_icmp .ne 24, 3) := by decide +kernel
theorem dX4_relation_49 : decode cX4_relation 49 = .ok (.aload_n 0, 1) := by decide +kernel
theorem dX4_relation_50 : decode cX4_relation 50 = .ok (.iload_n 2, 1) := by decide +kernel
theorem dX4_relation_51 : decode cX4_relation 51 = .ok (.iload_n 1, 1) := by decide +kernel
theorem dX4_relation_52 : decode cX4_relation 52 = .ok (.invokevirtual 119, 3) := by decide +kernel
theorem dX4_relation_55 : decode cX4_relation 55 = .ok (.pop, 1) := by decide +kernel
theorem dX4_relation_56 : decode cX4_relation 56 = .ok (.aload_n 0, 1) := by decide +kernel
theorem dX4_relation_57 : decode cX4_relation 57 = .ok (.iload_n 1, 1) := by decide +kernel
theorem dX4_relation_58 : decode cX4_relation 58 = .ok (.invokevirtual 130, 3) := by decide +kernel
theorem dX4_relation_61 : decode cX4_relation 61 = .ok (.aload_n 0, 1) := by decide +kernel
theorem dX4_relation_62 : decode cX4_relation 62 = .ok (.getfield 15, 3) := by decide +kernel
theorem dX4_relation_65 : decode cX4_relation 65 = .ok (.iload_n 2, 1) := by decide +kernel
theorem dX4_relation_66 : decode cX4_relation 66 = .ok (.lconst 0, 1) := by decide +kernel
theorem dX4_relation_67 : decode cX4_relation 67 = .ok (.invokevirtual 123, 3) := by decide +kernel
theorem dX4_relation_70 : decode cX4_relation 70 = .ok (.return_, 1) := by decide +kernel
theorem dX4_sum_0 : decode cX4_sum 0 = .ok (.aload_n 0, 1) := by decide +kernel
theorem dX4_sum_1 : decode cX4_sum 1 = .ok (.iload_n 1, 1) := by decide +kernel
theorem dX4_sum_2 : decode cX4_sum 2 = .ok (.invokevirtual 133, 3) := by decide +kernel
theorem dX4_sum_5 : decode cX4_sum 5 = .ok (.iconst 0, 1) := by decide +kernel
theorem dX4_sum_6 : decode cX4_sum 6 = .ok (.istore_n 2, 1) := by decide +kernel
theorem dX4_sum_7 : decode cX4_sum 7 = .ok (.iload_n 2, 1) := by decide +kernel
theorem dX4_sum_8 : decode cX4_sum 8 = .ok (.bipush 60, 2) := by decide +kernel
theorem dX4_sum_10 : decode cX4_sum 10 = .ok (.if_icmp .ge 53, 3) := by decide +kernel
theorem dX4_sum_13 : decode cX4_sum 13 = .ok (.aload_n 0, 1) := by decide +kernel
theorem dX4_sum_14 : decode cX4_sum 14 = .ok (.getfield 29, 3) := by decide +kernel
theorem dX4_sum_17 : decode cX4_sum 17 = .ok (.bipush 43, 2) := by decide +kernel
theorem dX4_sum_19 : decode cX4_sum 19 = .ok (.if_icmp .eq 12, 3) := by decide +kernel
theorem dX4_sum_22 : decode cX4_sum 22 = .ok (.aload_n 0, 1) := by decide +kernel
theorem dX4_sum_23 : decode cX4_sum 23 = .ok (.getfield 29, 3) := by decide +kernel
theorem dX4_sum_26 : decode cX4_sum 26 = .ok (.bipush 45, 2) := by decide +kernel
theorem dX4_sum_28 : decode cX4_sum 28 = .ok (.if_icmp .ne 35, 3) := by decide +kernel
theorem dX4_sum_31 : decode cX4_sum 31 = .ok (.aload_n 0, 1) := by decide +kernel
theorem dX4_sum_32 : decode cX4_sum 32 = .ok (.getfield 29, 3) := by decide +kernel
theorem dX4_sum_35 : decode cX4_sum 35 = .ok (.istore_n 3, 1) := by decide +kernel
theorem dX4_sum_36 : decode cX4_sum 36 = .ok (.aload_n 0, 1) := by decide +kernel
theorem dX4_sum_37 : decode cX4_sum 37 = .ok (.iload_n 3, 1) := by decide +kernel
theorem dX4_sum_38 : decode cX4_sum 38 = .ok (.iload_n 1, 1) := by decide +kernel
theorem dX4_sum_39 : decode cX4_sum 39 = .ok (.invokevirtual 119, 3) := by decide +kernel
theorem dX4_sum_42 : decode cX4_sum 42 = .ok (.pop, 1) := by decide +kernel
theorem dX4_sum_43 : decode cX4_sum 43 = .ok (.aload_n 0, 1) := by decide +kernel
theorem dX4_sum_44 : decode cX4_sum 44 = .ok (.iload_n 1, 1) := by decide +kernel
theorem dX4_sum_45 : decode cX4_sum 45 = .ok (.invokevirtual 133, 3) := by decide +kernel
theorem dX4_sum_48 : decode cX4_sum 48 = .ok (.aload_n 0, 1) := by decide +kernel
theorem dX4_sum_49 : decode cX4_sum 49 = .ok (.getfield 15, 3) := by decide +kernel
theorem dX4_sum_52 : decode cX4_sum 52 = .ok (.iload_n 3, 1) := by decide +kernel
theorem dX4_sum_53 : decode cX4_sum 53 = .ok (.lconst 0, 1) := by decide +kernel
theorem dX4_sum_54 : decode cX4_sum 54 = .ok (.invokevirtual 123, 3) := by decide +kernel
theorem dX4_sum_57 : decode cX4_sum 57 = .ok (.iinc 2 1, 3) := by decide +kernel
theorem dX4_sum_60 : decode cX4_sum 60 = .ok (.goto (-53), 3) := by decide +kernel
theorem dX4_sum_63 : decode cX4_sum 63 = .ok (.return_, 1) := by decide +kernel
theorem dX4_product_0 : decode cX4_product 0 = .ok (.aload_n 0, 1) := by decide +kernel
theorem dX4_product_1 : decode cX4_product 1 = .ok (.iload_n 1, 1) := by decide +kernel
theorem dX4_product_2 : decode cX4_product 2 = .ok (.invokevirtual 136, 3) := by decide +kernel
theorem dX4_product_5 : decode cX4_product 5 = .ok (.iconst 0, 1) := by decide +kernel
theorem dX4_product_6 : decode cX4_product 6 = .ok (.istore_n 2, 1) := by decide +kernel
theorem dX4_product_7 : decode cX4_product 7 = .ok (.iload_n 2, 1) := by decide +kernel
theorem dX4_product_8 : decode cX4_product 8 = .ok (.bipush 60, 2) := by decide +kernel
theorem dX4_product_10 : decode cX4_product 10 = .ok (.if_icmp .ge 62, 3) := by decide +kernel
theorem dX4_product_13 : decode cX4_product 13 = .ok (.aload_n 0, 1) := by decide +kernel
theorem dX4_product_14 : decode cX4_product 14 = .ok (.getfield 29, 3) := by decide +kernel
theorem dX4_product_17 : decode cX4_product 17 = .ok (.bipush 42, 2) := by decide +kernel
theorem dX4_product_19 : decode cX4_product 19 = .ok (.if_icmp .eq 21, 3) := by decide +kernel
theorem dX4_product_22 : decode cX4_product 22 = .ok (.aload_n 0, 1) := by decide +kernel
theorem dX4_product_23 : decode cX4_product 23 = .ok (.getfield 29, 3) := by decide +kernel
theorem dX4_product_26 : decode cX4_product 26 = .ok (.bipush 47, 2) := by decide +kernel
theorem dX4_product_28 : decode cX4_product 28 = .ok (.if_icmp .eq 12, 3) := by decide +kernel
theorem dX4_product_31 : decode cX4_product 31 = .ok (.aload_n 0, 1) := by decide +kernel
theorem dX4_product_32 : decode cX4_product 32 = .ok (.getfield 29, 3) := by decide +kernel
theorem dX4_product_35 : decode cX4_product 35 = .ok (.bipush 37, 2) := by decide +kernel
theorem dX4_product_37 : decode cX4_product 37 = .ok (.if_icmp .ne 35, 3) := by decide +kernel
theorem dX4_product_40 : decode cX4_product 40 = .ok (.aload_n 0, 1) := by decide +kernel
theorem dX4_product_41 : decode cX4_product 41 = .ok (.getfield 29, 3) := by decide +kernel
theorem dX4_product_44 : decode cX4_product 44 = .ok (.istore_n 3, 1) := by decide +kernel
theorem dX4_product_45 : decode cX4_product 45 = .ok (.aload_n 0, 1) := by decide +kernel
theorem dX4_product_46 : decode cX4_product 46 = .ok (.iload_n 3, 1) := by decide +kernel
theorem dX4_product_47 : decode cX4_product 47 = .ok (.iload_n 1, 1) := by decide +kernel
theorem dX4_product_48 : decode cX4_product 48 = .ok (.invokevirtual 119, 3) := by decide +kernel
theorem dX4_product_51 : decode cX4_product 51 = .ok (.pop, 1) := by decide +kernel
theorem dX4_product_52 : decode cX4_product 52 = .ok (.aload_n 0, 1) := by decide +kernel
theorem dX4_product_53 : decode cX4_product 53 = .ok (.iload_n 1, 1) := by decide +kernel
theorem dX4_product_54 : decode cX4_product 54 = .ok (.invokevirtual 136, 3) := by decide +kernel
theorem dX4_product_57 : decode cX4_product 57 = .ok (.aload_n 0, 1) := by decide +kernel
theorem dX4_product_58 : decode cX4_product 58 = .ok (.getfield 15, 3) := by decide +kernel
theorem dX4_product_61 : decode cX4_product 61 = .ok (.iload_n 3, 1) := by decide +kernel
theorem dX4_product_62 : decode cX4_product 62 = .ok (.lconst 0, 1) := by decide +kernel
theorem dX4_product_63 : decode cX4_product 63 = .ok (.invokevirtual 123, 3) := by decide +kernel
theorem dX4_product_66 : decode cX4_product 66 = .ok (.iinc 2 1, 3) := by decide +kernel
theorem dX4_product_69 : decode cX4_product 69 = .ok (.goto (-62), 3) := by decide +kernel
theorem dX4_product_72 : decode cX4_product 72 = .ok (.return_, 1) := by decide +kernel
theorem dX4_factor_0 : decode cX4_factor 0 = .ok (.aload_n 0, 1) := by decide +kernel
theorem dX4_factor_1 : decode cX4_factor 1 = .ok (.getfield 29, 3) := by decide +kernel
theorem dX4_factor_4 : decode cX4_factor 4 = .ok (.istore_n 2, 1) := by decide +kernel
theorem dX4_factor_5 : decode cX4_factor 5 = .ok (.iload_n 2, 1) := by decide +kernel
theorem dX4_factor_6 : decode cX4_factor 6 = .ok (.lookupswitch 212 #[(2, 104), (3, 82), (40, 129), (45, 159), (152, 203), (153, 203), (155, 82), (158, 159), (159, 203)], 82) := by decide +kernel
theorem dX4_factor_88 : decode cX4_factor 88 = .ok (.aload_n 0, 1) := by decide +kernel
theorem dX4_factor_89 : decode cX4_factor 89 = .ok (.getfield 15, 3) := by decide +kernel
theorem dX4_factor_92 : decode cX4_factor 92 = .ok (.iload_n 2, 1) := by decide +kernel
theorem dX4_factor_93 : decode cX4_factor 93 = .ok (.aload_n 0, 1) := by decide +kernel
theorem dX4_factor_94 : decode cX4_factor 94 = .ok (.getfield 139, 3) := by decide +kernel
theorem dX4_factor_97 : decode cX4_factor 97 = .ok (.invokevirtual 123, 3) := by decide +kernel
theorem dX4_factor_100 : decode cX4_factor 100 = .ok (.aload_n 0, 1) := by decide +kernel
theorem dX4_factor_101 : decode cX4_factor 101 = .ok (.iload_n 2, 1) := by decide +kernel
theorem dX4_factor_102 : decode cX4_factor 102 = .ok (.iload_n 1, 1) := by decide +kernel
theorem dX4_factor_103 : decode cX4_factor 103 = .ok (.invokevirtual 119, 3) := by decide +kernel
theorem dX4_factor_106 : decode cX4_factor 106 = .ok (.pop, 1) := by decide +kernel
theorem dX4_factor_107 : decode cX4_factor 107 = .ok (.goto 115, 3) := by decide +kernel
theorem dX4_factor_110 : decode cX4_factor 110 = .ok (.aload_n 0, 1) := by decide +kernel
theorem dX4_factor_111 : decode cX4_factor 111 = .ok (.getfield 15, 3) := by decide +kernel
theorem dX4_factor_114 : decode cX4_factor 114 = .ok (.aload_n 0, 1) := by decide +kernel
theorem dX4_factor_115 : decode cX4_factor 115 = .ok (.getfield 139, 3) := by decide +kernel
theorem dX4_factor_118 : decode cX4_factor 118 = .ok (.aload_n 0, 1) := by decide +kernel
theorem dX4_factor_119 : decode cX4_factor 119 = .ok (.getfield 44, 3) := by decide +kernel
theorem dX4_factor_122 : decode cX4_factor 122 = .ok (.invokevirtual 143, 3) := by decide +kernel
theorem dX4_factor_125 : decode cX4_factor 125 = .ok (.aload_n 0, 1) := by decide +kernel
theorem dX4_factor_126 : decode cX4_factor 126 = .ok (.iload_n 2, 1) := by decide +kernel
theorem dX4_factor_127 : decode cX4_factor 127 = .ok (.iload_n 1, 1) := by decide +kernel
theorem dX4_factor_128 : decode cX4_factor 128 = .ok (.invokevirtual 119, 3) := by decide +kernel
theorem dX4_factor_131 : decode cX4_factor 131 = .ok (.pop, 1) := by decide +kernel
theorem dX4_factor_132 : decode cX4_factor 132 = .ok (.goto 90, 3) := by decide +kernel
theorem dX4_factor_135 : decode cX4_factor 135 = .ok (.aload_n 0, 1) := by decide +kernel
theorem dX4_factor_136 : decode cX4_factor 136 = .ok (.bipush 40, 2) := by decide +kernel
theorem dX4_factor_138 : decode cX4_factor 138 = .ok (.iload_n 1, 1) := by decide +kernel
theorem dX4_factor_139 : decode cX4_factor 139 = .ok (.iconst 1, 1) := by decide +kernel
theorem dX4_factor_140 : decode cX4_factor 140 = .ok (.iadd, 1) := by decide +kernel
theorem dX4_factor_141 : decode cX4_factor 141 = .ok (.invokevirtual 119, 3) := by decide +kernel
theorem dX4_factor_144 : decode cX4_factor 144 = .ok (.ifCond .eq 78, 3) := by decide +kernel
theorem dX4_factor_147 : decode cX4_factor 147 = .ok (.aload_n 0, 1) := by decide +kernel
theorem dX4_factor_148 : decode cX4_factor 148 = .ok (.iload_n 1, 1) := by decide +kernel
theorem dX4_factor_149 : decode cX4_factor 149 = .ok (.iconst 1, 1) := by decide +kernel
theorem dX4_factor_150 : decode cX4_factor 150 = .ok (.iadd, 1) := by decide +kernel
theorem dX4_factor_151 : decode cX4_factor 151 = .ok (.invokevirtual 110, 3) := by decide +kernel
theorem dX4_factor_154 : decode cX4_factor 154 = .ok (.aload_n 0, 1) := by decide +kernel
theorem dX4_factor_155 : decode cX4_factor 155 = .ok (.bipush 41, 2) := by decide +kernel
theorem dX4_factor_157 : decode cX4_factor 157 = .ok (.iload_n 1, 1) := by decide +kernel
theorem dX4_factor_158 : decode cX4_factor 158 = .ok (.invokevirtual 119, 3) := by decide +kernel
theorem dX4_factor_161 : decode cX4_factor 161 = .ok (.pop, 1) := by decide +kernel
theorem dX4_factor_162 : decode cX4_factor 162 = .ok (.goto 60, 3) := by decide +kernel
theorem dX4_factor_165 : decode cX4_factor 165 = .ok (.aload_n 0, 1) := by decide +kernel
theorem dX4_factor_166 : decode cX4_factor 166 = .ok (.iload_n 2, 1) := by decide +kernel
theorem dX4_factor_167 : decode cX4_factor 167 = .ok (.iload_n 1, 1) := by decide +kernel
theorem dX4_factor_168 : decode cX4_factor 168 = .ok (.iconst 1, 1) := by decide +kernel
theorem dX4_factor_169 : decode cX4_factor 169 = .ok (.iadd, 1) := by decide +kernel
theorem dX4_factor_170 : decode cX4_factor 170 = .ok (.invokevirtual 119, 3) := by decide +kernel
theorem dX4_factor_173 : decode cX4_factor 173 = .ok (.ifCond .eq 49, 3) := by decide +kernel
theorem dX4_factor_176 : decode cX4_factor 176 = .ok (.aload_n 0, 1) := by decide +kernel
theorem dX4_factor_177 : decode cX4_factor 177 = .ok (.iload_n 1, 1) := by decide +kernel
theorem dX4_factor_178 : decode cX4_factor 178 = .ok (.iconst 1, 1) := by decide +kernel
theorem dX4_factor_179 : decode cX4_factor 179 = .ok (.iadd, 1) := by decide +kernel
theorem dX4_factor_180 : decode cX4_factor 180 = .ok (.invokevirtual 136, 3) := by decide +kernel
theorem dX4_factor_183 : decode cX4_factor 183 = .ok (.aload_n 0, 1) := by decide +kernel
theorem dX4_factor_184 : decode cX4_factor 184 = .ok (.getfield 15, 3) := by decide +kernel
theorem dX4_factor_187 : decode cX4_factor 187 = .ok (.iload_n 2, 1) := by decide +kernel
theorem dX4_factor_188 : decode cX4_factor 188 = .ok (.bipush 45, 2) := by decide +kernel
theorem dX4_factor_190 : decode cX4_factor 190 = .ok (.if_icmp .ne 9, 3) := by decide +kernel
theorem dX4_factor_193 : decode cX4_factor 193 = .ok (.sipush 160, 3) := by decide +kernel
theorem dX4_factor_196 : decode cX4_factor 196 = .ok (.goto 6, 3) := by decide +kernel
theorem dX4_factor_199 : decode cX4_factor 199 = .ok (.sipush 158, 3) := by decide +kernel
theorem dX4_factor_202 : decode cX4_factor 202 = .ok (.lconst 0, 1) := by decide +kernel
theorem dX4_factor_203 : decode cX4_factor 203 = .ok (.invokevirtual 123, 3) := by decide +kernel
theorem dX4_factor_206 : decode cX4_factor 206 = .ok (.goto 16, 3) := by decide +kernel
theorem dX4_factor_209 : decode cX4_factor 209 = .ok (.aload_n 0, 1) := by decide +kernel
theorem dX4_factor_210 : decode cX4_factor 210 = .ok (.iload_n 2, 1) := by decide +kernel
theorem dX4_factor_211 : decode cX4_factor 211 = .ok (.iload_n 1, 1) := by decide +kernel
theorem dX4_factor_212 : decode cX4_factor 212 = .ok (.invokevirtual 147, 3) := by decide +kernel
theorem dX4_factor_215 : decode cX4_factor 215 = .ok (.goto 7, 3) := by decide +kernel
theorem dX4_factor_218 : decode cX4_factor 218 = .ok (.aload_n 0, 1) := by decide +kernel
theorem dX4_factor_219 : decode cX4_factor 219 = .ok (.invokevirtual 41, 3) := by decide +kernel
theorem dX4_factor_222 : decode cX4_factor 222 = .ok (.return_, 1) := by decide +kernel
theorem dX4_function_0 : decode cX4_function 0 = .ok (.aload_n 0, 1) := by decide +kernel
theorem dX4_function_1 : decode cX4_function 1 = .ok (.getfield 44, 3) := by decide +kernel
theorem dX4_function_4 : decode cX4_function 4 = .ok (.istore_n 3, 1) := by decide +kernel
theorem dX4_function_5 : decode cX4_function 5 = .ok (.aload_n 0, 1) := by decide +kernel
theorem dX4_function_6 : decode cX4_function 6 = .ok (.iload_n 1, 1) := by decide +kernel
theorem dX4_function_7 : decode cX4_function 7 = .ok (.iload_n 2, 1) := by decide +kernel
theorem dX4_function_8 : decode cX4_function 8 = .ok (.invokevirtual 119, 3) := by decide +kernel
theorem dX4_function_11 : decode cX4_function 11 = .ok (.pop, 1) := by decide +kernel
theorem dX4_function_12 : decode cX4_function 12 = .ok (.aload_n 0, 1) := by decide +kernel
theorem dX4_function_13 : decode cX4_function 13 = .ok (.bipush 40, 2) := by decide +kernel
theorem dX4_function_15 : decode cX4_function 15 = .ok (.iload_n 2, 1) := by decide +kernel
theorem dX4_function_16 : decode cX4_function 16 = .ok (.iconst 1, 1) := by decide +kernel
theorem dX4_function_17 : decode cX4_function 17 = .ok (.iadd, 1) := by decide +kernel
theorem dX4_function_18 : decode cX4_function 18 = .ok (.invokevirtual 119, 3) := by decide +kernel
theorem dX4_function_21 : decode cX4_function 21 = .ok (.ifCond .ne 4, 3) := by decide +kernel
theorem dX4_function_24 : decode cX4_function 24 = .ok (.return_, 1) := by decide +kernel
theorem dX4_function_25 : decode cX4_function 25 = .ok (.aload_n 0, 1) := by decide +kernel
theorem dX4_function_26 : decode cX4_function 26 = .ok (.iload_n 2, 1) := by decide +kernel
theorem dX4_function_27 : decode cX4_function 27 = .ok (.iconst 1, 1) := by decide +kernel
theorem dX4_function_28 : decode cX4_function 28 = .ok (.iadd, 1) := by decide +kernel
theorem dX4_function_29 : decode cX4_function 29 = .ok (.invokevirtual 110, 3) := by decide +kernel
theorem dX4_function_32 : decode cX4_function 32 = .ok (.iconst 1, 1) := by decide +kernel
theorem dX4_function_33 : decode cX4_function 33 = .ok (.istore 4, 2) := by decide +kernel
theorem dX4_function_35 : decode cX4_function 35 = .ok (.iconst 0, 1) := by decide +kernel
theorem dX4_function_36 : decode cX4_function 36 = .ok (.istore 5, 2) := by decide +kernel
theorem dX4_function_38 : decode cX4_function 38 = .ok (.iload 5, 2) := by decide +kernel
theorem dX4_function_40 : decode cX4_function 40 = .ok (.bipush 60, 2) := by decide +kernel
theorem dX4_function_42 : decode cX4_function 42 = .ok (.if_icmp .ge 38, 3) := by decide +kernel
theorem dX4_function_45 : decode cX4_function 45 = .ok (.aload_n 0, 1) := by decide +kernel
theorem dX4_function_46 : decode cX4_function 46 = .ok (.getfield 29, 3) := by decide +kernel
theorem dX4_function_49 : decode cX4_function 49 = .ok (.bipush 44, 2) := by decide +kernel
theorem dX4_function_51 : decode cX4_function 51 = .ok (.if_icmp .ne 29, 3) := by decide +kernel
theorem dX4_function_54 : decode cX4_function 54 = .ok (.aload_n 0, 1) := by decide +kernel
theorem dX4_function_55 : decode cX4_function 55 = .ok (.bipush 44, 2) := by decide +kernel
theorem dX4_function_57 : decode cX4_function 57 = .ok (.iload_n 2, 1) := by decide +kernel
theorem dX4_function_58 : decode cX4_function 58 = .ok (.iconst 1, 1) := by decide +kernel
theorem dX4_function_59 : decode cX4_function 59 = .ok (.iadd, 1) := by decide +kernel
theorem dX4_function_60 : decode cX4_function 60 = .ok (.invokevirtual 119, 3) := by decide +kernel
theorem dX4_function_63 : decode cX4_function 63 = .ok (.pop, 1) := by decide +kernel
theorem dX4_function_64 : decode cX4_function 64 = .ok (.aload_n 0, 1) := by decide +kernel
theorem dX4_function_65 : decode cX4_function 65 = .ok (.iload_n 2, 1) := by decide +kernel
theorem dX4_function_66 : decode cX4_function 66 = .ok (.iconst 1, 1) := by decide +kernel
theorem dX4_function_67 : decode cX4_function 67 = .ok (.iadd, 1) := by decide +kernel
theorem dX4_function_68 : decode cX4_function 68 = .ok (.invokevirtual 110, 3) := by decide +kernel
theorem dX4_function_71 : decode cX4_function 71 = .ok (.iinc 4 1, 3) := by decide +kernel
theorem dX4_function_74 : decode cX4_function 74 = .ok (.iinc 5 1, 3) := by decide +kernel
theorem dX4_function_77 : decode cX4_function 77 = .ok (.goto (-39), 3) := by decide +kernel
theorem dX4_function_80 : decode cX4_function 80 = .ok (.aload_n 0, 1) := by decide +kernel
theorem dX4_function_81 : decode cX4_function 81 = .ok (.bipush 41, 2) := by decide +kernel
theorem dX4_function_83 : decode cX4_function 83 = .ok (.iload_n 2, 1) := by decide +kernel
theorem dX4_function_84 : decode cX4_function 84 = .ok (.invokevirtual 119, 3) := by decide +kernel
theorem dX4_function_87 : decode cX4_function 87 = .ok (.pop, 1) := by decide +kernel
theorem dX4_function_88 : decode cX4_function 88 = .ok (.aload_n 0, 1) := by decide +kernel
theorem dX4_function_89 : decode cX4_function 89 = .ok (.getfield 15, 3) := by decide +kernel
theorem dX4_function_92 : decode cX4_function 92 = .ok (.iload_n 1, 1) := by decide +kernel
theorem dX4_function_93 : decode cX4_function 93 = .ok (.iload 4, 2) := by decide +kernel
theorem dX4_function_95 : decode cX4_function 95 = .ok (.iload_n 3, 1) := by decide +kernel
theorem dX4_function_96 : decode cX4_function 96 = .ok (.invokevirtual 150, 3) := by decide +kernel
theorem dX4_function_99 : decode cX4_function 99 = .ok (.return_, 1) := by decide +kernel
theorem dX4_takeInExpression_0 : decode cX4_takeInExpression 0 = .ok (.aload_n 0, 1) := by decide +kernel
theorem dX4_takeInExpression_1 : decode cX4_takeInExpression 1 = .ok (.getfield 29, 3) := by decide +kernel
theorem dX4_takeInExpression_4 : decode cX4_takeInExpression 4 = .ok (.iload_n 1, 1) := by decide +kernel
theorem dX4_takeInExpression_5 : decode cX4_takeInExpression 5 = .ok (.if_icmp .ne 18, 3) := by decide +kernel
theorem dX4_takeInExpression_8 : decode cX4_takeInExpression 8 = .ok (.aload_n 0, 1) := by decide +kernel
theorem dX4_takeInExpression_9 : decode cX4_takeInExpression 9 = .ok (.getfield 104, 3) := by decide +kernel
theorem dX4_takeInExpression_12 : decode cX4_takeInExpression 12 = .ok (.bipush 60, 2) := by decide +kernel
theorem dX4_takeInExpression_14 : decode cX4_takeInExpression 14 = .ok (.if_icmp .ge 9, 3) := by decide +kernel
theorem dX4_takeInExpression_17 : decode cX4_takeInExpression 17 = .ok (.iload_n 2, 1) := by decide +kernel
theorem dX4_takeInExpression_18 : decode cX4_takeInExpression 18 = .ok (.bipush 8, 2) := by decide +kernel
theorem dX4_takeInExpression_20 : decode cX4_takeInExpression 20 = .ok (.if_icmp .le 9, 3) := by decide +kernel
theorem dX4_takeInExpression_23 : decode cX4_takeInExpression 23 = .ok (.aload_n 0, 1) := by decide +kernel
theorem dX4_takeInExpression_24 : decode cX4_takeInExpression 24 = .ok (.invokevirtual 41, 3) := by decide +kernel
theorem dX4_takeInExpression_27 : decode cX4_takeInExpression 27 = .ok (.iconst 0, 1) := by decide +kernel
theorem dX4_takeInExpression_28 : decode cX4_takeInExpression 28 = .ok (.ireturn, 1) := by decide +kernel
theorem dX4_takeInExpression_29 : decode cX4_takeInExpression 29 = .ok (.aload_n 0, 1) := by decide +kernel
theorem dX4_takeInExpression_30 : decode cX4_takeInExpression 30 = .ok (.dup, 1) := by decide +kernel
theorem dX4_takeInExpression_31 : decode cX4_takeInExpression 31 = .ok (.getfield 104, 3) := by decide +kernel
theorem dX4_takeInExpression_34 : decode cX4_takeInExpression 34 = .ok (.iconst 1, 1) := by decide +kernel
theorem dX4_takeInExpression_35 : decode cX4_takeInExpression 35 = .ok (.iadd, 1) := by decide +kernel
theorem dX4_takeInExpression_36 : decode cX4_takeInExpression 36 = .ok (.putfield 104, 3) := by decide +kernel
theorem dX4_takeInExpression_39 : decode cX4_takeInExpression 39 = .ok (.aload_n 0, 1) := by decide +kernel
theorem dX4_takeInExpression_40 : decode cX4_takeInExpression 40 = .ok (.invokevirtual 26, 3) := by decide +kernel
theorem dX4_takeInExpression_43 : decode cX4_takeInExpression 43 = .ok (.iconst 1, 1) := by decide +kernel
theorem dX4_takeInExpression_44 : decode cX4_takeInExpression 44 = .ok (.ireturn, 1) := by decide +kernel
theorem dX4_takeNames_0 : decode cX4_takeNames 0 = .ok (.aload_n 0, 1) := by decide +kernel
theorem dX4_takeNames_1 : decode cX4_takeNames 1 = .ok (.bipush 40, 2) := by decide +kernel
theorem dX4_takeNames_3 : decode cX4_takeNames 3 = .ok (.invokevirtual 57, 3) := by decide +kernel
theorem dX4_takeNames_6 : decode cX4_takeNames 6 = .ok (.iconst 0, 1) := by decide +kernel
theorem dX4_takeNames_7 : decode cX4_takeNames 7 = .ok (.istore_n 2, 1) := by decide +kernel
theorem dX4_takeNames_8 : decode cX4_takeNames 8 = .ok (.iload_n 2, 1) := by decide +kernel
theorem dX4_takeNames_9 : decode cX4_takeNames 9 = .ok (.sipush 1500, 3) := by decide +kernel
theorem dX4_takeNames_12 : decode cX4_takeNames 12 = .ok (.if_icmp .ge 32, 3) := by decide +kernel
theorem dX4_takeNames_15 : decode cX4_takeNames 15 = .ok (.iload_n 2, 1) := by decide +kernel
theorem dX4_takeNames_16 : decode cX4_takeNames 16 = .ok (.ifCond .eq 12, 3) := by decide +kernel
theorem dX4_takeNames_19 : decode cX4_takeNames 19 = .ok (.aload_n 0, 1) := by decide +kernel
theorem dX4_takeNames_20 : decode cX4_takeNames 20 = .ok (.getfield 29, 3) := by decide +kernel
theorem dX4_takeNames_23 : decode cX4_takeNames 23 = .ok (.bipush 44, 2) := by decide +kernel
theorem dX4_takeNames_25 : decode cX4_takeNames 25 = .ok (.if_icmp .ne 19, 3) := by decide +kernel
theorem dX4_takeNames_28 : decode cX4_takeNames 28 = .ok (.aload_n 0, 1) := by decide +kernel
theorem dX4_takeNames_29 : decode cX4_takeNames 29 = .ok (.iload_n 2, 1) := by decide +kernel
theorem dX4_takeNames_30 : decode cX4_takeNames 30 = .ok (.invokevirtual 94, 3) := by decide +kernel
theorem dX4_takeNames_33 : decode cX4_takeNames 33 = .ok (.aload_n 0, 1) := by decide +kernel
theorem dX4_takeNames_34 : decode cX4_takeNames 34 = .ok (.iload_n 1, 1) := by decide +kernel
theorem dX4_takeNames_35 : decode cX4_takeNames 35 = .ok (.invokevirtual 60, 3) := by decide +kernel
theorem dX4_takeNames_38 : decode cX4_takeNames 38 = .ok (.iinc 2 1, 3) := by decide +kernel
theorem dX4_takeNames_41 : decode cX4_takeNames 41 = .ok (.goto (-33), 3) := by decide +kernel
theorem dX4_takeNames_44 : decode cX4_takeNames 44 = .ok (.aload_n 0, 1) := by decide +kernel
theorem dX4_takeNames_45 : decode cX4_takeNames 45 = .ok (.bipush 41, 2) := by decide +kernel
theorem dX4_takeNames_47 : decode cX4_takeNames 47 = .ok (.invokevirtual 57, 3) := by decide +kernel
theorem dX4_takeNames_50 : decode cX4_takeNames 50 = .ok (.return_, 1) := by decide +kernel
theorem dX4_takeComma_0 : decode cX4_takeComma 0 = .ok (.iload_n 1, 1) := by decide +kernel
theorem dX4_takeComma_1 : decode cX4_takeComma 1 = .ok (.ifCond .le 9, 3) := by decide +kernel
theorem dX4_takeComma_4 : decode cX4_takeComma 4 = .ok (.aload_n 0, 1) := by decide +kernel
theorem dX4_takeComma_5 : decode cX4_takeComma 5 = .ok (.bipush 44, 2) := by decide +kernel
theorem dX4_takeComma_7 : decode cX4_takeComma 7 = .ok (.invokevirtual 57, 3) := by decide +kernel
theorem dX4_takeComma_10 : decode cX4_takeComma 10 = .ok (.return_, 1) := by decide +kernel
theorem dX4_takeName_0 : decode cX4_takeName 0 = .ok (.aload_n 0, 1) := by decide +kernel
theorem dX4_takeName_1 : decode cX4_takeName 1 = .ok (.getfield 29, 3) := by decide +kernel
theorem dX4_takeName_4 : decode cX4_takeName 4 = .ok (.iconst 2, 1) := by decide +kernel
theorem dX4_takeName_5 : decode cX4_takeName 5 = .ok (.if_icmp .ne 19, 3) := by decide +kernel
theorem dX4_takeName_8 : decode cX4_takeName 8 = .ok (.aload_n 0, 1) := by decide +kernel
theorem dX4_takeName_9 : decode cX4_takeName 9 = .ok (.getfield 15, 3) := by decide +kernel
theorem dX4_takeName_12 : decode cX4_takeName 12 = .ok (.iload_n 1, 1) := by decide +kernel
theorem dX4_takeName_13 : decode cX4_takeName 13 = .ok (.aload_n 0, 1) := by decide +kernel
theorem dX4_takeName_14 : decode cX4_takeName 14 = .ok (.getfield 139, 3) := by decide +kernel
theorem dX4_takeName_17 : decode cX4_takeName 17 = .ok (.aload_n 0, 1) := by decide +kernel
theorem dX4_takeName_18 : decode cX4_takeName 18 = .ok (.getfield 44, 3) := by decide +kernel
theorem dX4_takeName_21 : decode cX4_takeName 21 = .ok (.invokevirtual 154, 3) := by decide +kernel
theorem dX4_takeName_24 : decode cX4_takeName 24 = .ok (.aload_n 0, 1) := by decide +kernel
theorem dX4_takeName_25 : decode cX4_takeName 25 = .ok (.iconst 2, 1) := by decide +kernel
theorem dX4_takeName_26 : decode cX4_takeName 26 = .ok (.invokevirtual 57, 3) := by decide +kernel
theorem dX4_takeName_29 : decode cX4_takeName 29 = .ok (.return_, 1) := by decide +kernel
theorem dX4_takeRange_0 : decode cX4_takeRange 0 = .ok (.aload_n 0, 1) := by decide +kernel
theorem dX4_takeRange_1 : decode cX4_takeRange 1 = .ok (.iload_n 1, 1) := by decide +kernel
theorem dX4_takeRange_2 : decode cX4_takeRange 2 = .ok (.invokevirtual 57, 3) := by decide +kernel
theorem dX4_takeRange_5 : decode cX4_takeRange 5 = .ok (.aload_n 0, 1) := by decide +kernel
theorem dX4_takeRange_6 : decode cX4_takeRange 6 = .ok (.getfield 29, 3) := by decide +kernel
theorem dX4_takeRange_9 : decode cX4_takeRange 9 = .ok (.iconst 3, 1) := by decide +kernel
theorem dX4_takeRange_10 : decode cX4_takeRange 10 = .ok (.if_icmp .ne 19, 3) := by decide +kernel
theorem dX4_takeRange_13 : decode cX4_takeRange 13 = .ok (.aload_n 0, 1) := by decide +kernel
theorem dX4_takeRange_14 : decode cX4_takeRange 14 = .ok (.getfield 15, 3) := by decide +kernel
theorem dX4_takeRange_17 : decode cX4_takeRange 17 = .ok (.iload_n 1, 1) := by decide +kernel
theorem dX4_takeRange_18 : decode cX4_takeRange 18 = .ok (.aload_n 0, 1) := by decide +kernel
theorem dX4_takeRange_19 : decode cX4_takeRange 19 = .ok (.getfield 139, 3) := by decide +kernel
theorem dX4_takeRange_22 : decode cX4_takeRange 22 = .ok (.aload_n 0, 1) := by decide +kernel
theorem dX4_takeRange_23 : decode cX4_takeRange 23 = .ok (.getfield 44, 3) := by decide +kernel
theorem dX4_takeRange_26 : decode cX4_takeRange 26 = .ok (.invokevirtual 158, 3) := by decide +kernel
theorem dX4_takeRange_29 : decode cX4_takeRange 29 = .ok (.aload_n 0, 1) := by decide +kernel
theorem dX4_takeRange_30 : decode cX4_takeRange 30 = .ok (.iconst 3, 1) := by decide +kernel
theorem dX4_takeRange_31 : decode cX4_takeRange 31 = .ok (.invokevirtual 57, 3) := by decide +kernel
theorem dX4_takeRange_34 : decode cX4_takeRange 34 = .ok (.return_, 1) := by decide +kernel
theorem dX4_take_0 : decode cX4_take 0 = .ok (.aload_n 0, 1) := by decide +kernel
theorem dX4_take_1 : decode cX4_take 1 = .ok (.getfield 29, 3) := by decide +kernel
theorem dX4_take_4 : decode cX4_take 4 = .ok (.iload_n 1, 1) := by decide +kernel
theorem dX4_take_5 : decode cX4_take 5 = .ok (.if_icmp .ne 10, 3) := by decide +kernel
theorem dX4_take_8 : decode cX4_take 8 = .ok (.aload_n 0, 1) := by decide +kernel
theorem dX4_take_9 : decode cX4_take 9 = .ok (.invokevirtual 26, 3) := by decide +kernel
theorem dX4_take_12 : decode cX4_take 12 = .ok (.goto 7, 3) := by decide +kernel
theorem dX4_take_15 : decode cX4_take 15 = .ok (.aload_n 0, 1) := by decide +kernel
theorem dX4_take_16 : decode cX4_take 16 = .ok (.invokevirtual 41, 3) := by decide +kernel
theorem dX4_take_19 : decode cX4_take 19 = .ok (.return_, 1) := by decide +kernel
theorem dX4_advance_0 : decode cX4_advance 0 = .ok (.aload_n 0, 1) := by decide +kernel
theorem dX4_advance_1 : decode cX4_advance 1 = .ok (.getfield 23, 3) := by decide +kernel
theorem dX4_advance_4 : decode cX4_advance 4 = .ok (.iconst 1, 1) := by decide +kernel
theorem dX4_advance_5 : decode cX4_advance 5 = .ok (.iadd, 1) := by decide +kernel
theorem dX4_advance_6 : decode cX4_advance 6 = .ok (.istore_n 1, 1) := by decide +kernel
theorem dX4_advance_7 : decode cX4_advance 7 = .ok (.aload_n 0, 1) := by decide +kernel
theorem dX4_advance_8 : decode cX4_advance 8 = .ok (.getfield 19, 3) := by decide +kernel
theorem dX4_advance_11 : decode cX4_advance 11 = .ok (.ifCond .ge 18, 3) := by decide +kernel
theorem dX4_advance_14 : decode cX4_advance 14 = .ok (.iload_n 1, 1) := by decide +kernel
theorem dX4_advance_15 : decode cX4_advance 15 = .ok (.ifCond .lt 14, 3) := by decide +kernel
theorem dX4_advance_18 : decode cX4_advance 18 = .ok (.iload_n 1, 1) := by decide +kernel
theorem dX4_advance_19 : decode cX4_advance 19 = .ok (.aload_n 0, 1) := by decide +kernel
theorem dX4_advance_20 : decode cX4_advance 20 = .ok (.getfield 9, 3) := by decide +kernel
theorem dX4_advance_23 : decode cX4_advance 23 = .ok (.getfield 161, 3) := by decide +kernel
theorem dX4_advance_26 : decode cX4_advance 26 = .ok (.if_icmp .lt 4, 3) := by decide +kernel
theorem dX4_advance_29 : decode cX4_advance 29 = .ok (.return_, 1) := by decide +kernel
theorem dX4_advance_30 : decode cX4_advance 30 = .ok (.aload_n 0, 1) := by decide +kernel
theorem dX4_advance_31 : decode cX4_advance 31 = .ok (.iload_n 1, 1) := by decide +kernel
theorem dX4_advance_32 : decode cX4_advance 32 = .ok (.putfield 23, 3) := by decide +kernel
theorem dX4_advance_35 : decode cX4_advance 35 = .ok (.aload_n 0, 1) := by decide +kernel
theorem dX4_advance_36 : decode cX4_advance 36 = .ok (.aload_n 0, 1) := by decide +kernel
theorem dX4_advance_37 : decode cX4_advance 37 = .ok (.getfield 9, 3) := by decide +kernel
theorem dX4_advance_40 : decode cX4_advance 40 = .ok (.getfield 166, 3) := by decide +kernel
theorem dX4_advance_43 : decode cX4_advance 43 = .ok (.aload_n 0, 1) := by decide +kernel
theorem dX4_advance_44 : decode cX4_advance 44 = .ok (.getfield 23, 3) := by decide +kernel
theorem dX4_advance_47 : decode cX4_advance 47 = .ok (.iaload, 1) := by decide +kernel
theorem dX4_advance_48 : decode cX4_advance 48 = .ok (.putfield 29, 3) := by decide +kernel
theorem dX4_advance_51 : decode cX4_advance 51 = .ok (.aload_n 0, 1) := by decide +kernel
theorem dX4_advance_52 : decode cX4_advance 52 = .ok (.aload_n 0, 1) := by decide +kernel
theorem dX4_advance_53 : decode cX4_advance 53 = .ok (.getfield 9, 3) := by decide +kernel
theorem dX4_advance_56 : decode cX4_advance 56 = .ok (.getfield 170, 3) := by decide +kernel
theorem dX4_advance_59 : decode cX4_advance 59 = .ok (.aload_n 0, 1) := by decide +kernel
theorem dX4_advance_60 : decode cX4_advance 60 = .ok (.getfield 23, 3) := by decide +kernel
theorem dX4_advance_63 : decode cX4_advance 63 = .ok (.iaload, 1) := by decide +kernel
theorem dX4_advance_64 : decode cX4_advance 64 = .ok (.putfield 44, 3) := by decide +kernel
theorem dX4_advance_67 : decode cX4_advance 67 = .ok (.aload_n 0, 1) := by decide +kernel
theorem dX4_advance_68 : decode cX4_advance 68 = .ok (.aload_n 0, 1) := by decide +kernel
theorem dX4_advance_69 : decode cX4_advance 69 = .ok (.getfield 9, 3) := by decide +kernel
theorem dX4_advance_72 : decode cX4_advance 72 = .ok (.getfield 173, 3) := by decide +kernel
theorem dX4_advance_75 : decode cX4_advance 75 = .ok (.aload_n 0, 1) := by decide +kernel
theorem dX4_advance_76 : decode cX4_advance 76 = .ok (.getfield 23, 3) := by decide +kernel
theorem dX4_advance_79 : decode cX4_advance 79 = .ok (.laload, 1) := by decide +kernel
theorem dX4_advance_80 : decode cX4_advance 80 = .ok (.putfield 139, 3) := by decide +kernel
theorem dX4_advance_83 : decode cX4_advance 83 = .ok (.return_, 1) := by decide +kernel
theorem dX4_fail_0 : decode cX4_fail 0 = .ok (.aload_n 0, 1) := by decide +kernel
theorem dX4_fail_1 : decode cX4_fail 1 = .ok (.getfield 19, 3) := by decide +kernel
theorem dX4_fail_4 : decode cX4_fail 4 = .ok (.ifCond .ge 11, 3) := by decide +kernel
theorem dX4_fail_7 : decode cX4_fail 7 = .ok (.aload_n 0, 1) := by decide +kernel
theorem dX4_fail_8 : decode cX4_fail 8 = .ok (.aload_n 0, 1) := by decide +kernel
theorem dX4_fail_9 : decode cX4_fail 9 = .ok (.getfield 44, 3) := by decide +kernel
theorem dX4_fail_12 : decode cX4_fail 12 = .ok (.putfield 19, 3) := by decide +kernel
theorem dX4_fail_15 : decode cX4_fail 15 = .ok (.aload_n 0, 1) := by decide +kernel
theorem dX4_fail_16 : decode cX4_fail 16 = .ok (.iconst 1, 1) := by decide +kernel
theorem dX4_fail_17 : decode cX4_fail 17 = .ok (.putfield 29, 3) := by decide +kernel
theorem dX4_fail_20 : decode cX4_fail 20 = .ok (.return_, 1) := by decide +kernel
theorem dX5_init_0 : decode cX5_init 0 = .ok (.aload_n 0, 1) := by decide +kernel
theorem dX5_init_1 : decode cX5_init 1 = .ok (.invokespecial 3, 3) := by decide +kernel
theorem dX5_init_4 : decode cX5_init 4 = .ok (.aload_n 0, 1) := by decide +kernel
theorem dX5_init_5 : decode cX5_init 5 = .ok (.bipush 12, 2) := by decide +kernel
theorem dX5_init_7 : decode cX5_init 7 = .ok (.anewarray 9, 3) := by decide +kernel
theorem dX5_init_10 : decode cX5_init 10 = .ok (.putfield 11, 3) := by decide +kernel
theorem dX5_init_13 : decode cX5_init 13 = .ok (.aload_n 0, 1) := by decide +kernel
theorem dX5_init_14 : decode cX5_init 14 = .ok (.bipush 8, 2) := by decide +kernel
theorem dX5_init_16 : decode cX5_init 16 = .ok (.anewarray 17, 3) := by decide +kernel
theorem dX5_init_19 : decode cX5_init 19 = .ok (.putfield 19, 3) := by decide +kernel
theorem dX5_init_22 : decode cX5_init 22 = .ok (.aload_n 0, 1) := by decide +kernel
theorem dX5_init_23 : decode cX5_init 23 = .ok (.sipush 1500, 3) := by decide +kernel
theorem dX5_init_26 : decode cX5_init 26 = .ok (.newarray .int, 2) := by decide +kernel
theorem dX5_init_28 : decode cX5_init 28 = .ok (.putfield 23, 3) := by decide +kernel
theorem dX5_init_31 : decode cX5_init 31 = .ok (.aload_n 0, 1) := by decide +kernel
theorem dX5_init_32 : decode cX5_init 32 = .ok (.sipush 1500, 3) := by decide +kernel
theorem dX5_init_35 : decode cX5_init 35 = .ok (.newarray .long, 2) := by decide +kernel
theorem dX5_init_37 : decode cX5_init 37 = .ok (.putfield 27, 3) := by decide +kernel
theorem dX5_init_40 : decode cX5_init 40 = .ok (.aload_n 0, 1) := by decide +kernel
theorem dX5_init_41 : decode cX5_init 41 = .ok (.bipush 60, 2) := by decide +kernel
theorem dX5_init_43 : decode cX5_init 43 = .ok (.newarray .long, 2) := by decide +kernel
theorem dX5_init_45 : decode cX5_init 45 = .ok (.putfield 31, 3) := by decide +kernel
theorem dX5_init_48 : decode cX5_init 48 = .ok (.iconst 0, 1) := by decide +kernel
theorem dX5_init_49 : decode cX5_init 49 = .ok (.istore_n 1, 1) := by decide +kernel
theorem dX5_init_50 : decode cX5_init 50 = .ok (.iload_n 1, 1) := by decide +kernel
theorem dX5_init_51 : decode cX5_init 51 = .ok (.aload_n 0, 1) := by decide +kernel
theorem dX5_init_52 : decode cX5_init 52 = .ok (.getfield 11, 3) := by decide +kernel
theorem dX5_init_55 : decode cX5_init 55 = .ok (.arraylength, 1) := by decide +kernel
theorem dX5_init_56 : decode cX5_init 56 = .ok (.if_icmp .ge 22, 3) := by decide +kernel
theorem dX5_init_59 : decode cX5_init 59 = .ok (.aload_n 0, 1) := by decide +kernel
theorem dX5_init_60 : decode cX5_init 60 = .ok (.getfield 11, 3) := by decide +kernel
theorem dX5_init_63 : decode cX5_init 63 = .ok (.iload_n 1, 1) := by decide +kernel
theorem dX5_init_64 : decode cX5_init 64 = .ok (.new 9, 3) := by decide +kernel
theorem dX5_init_67 : decode cX5_init 67 = .ok (.dup, 1) := by decide +kernel
theorem dX5_init_68 : decode cX5_init 68 = .ok (.invokespecial 34, 3) := by decide +kernel
theorem dX5_init_71 : decode cX5_init 71 = .ok (.aastore, 1) := by decide +kernel
theorem dX5_init_72 : decode cX5_init 72 = .ok (.iinc 1 1, 3) := by decide +kernel
theorem dX5_init_75 : decode cX5_init 75 = .ok (.goto (-25), 3) := by decide +kernel
theorem dX5_init_78 : decode cX5_init 78 = .ok (.iconst 0, 1) := by decide +kernel
theorem dX5_init_79 : decode cX5_init 79 = .ok (.istore_n 1, 1) := by decide +kernel
theorem dX5_init_80 : decode cX5_init 80 = .ok (.iload_n 1, 1) := by decide +kernel
theorem dX5_init_81 : decode cX5_init 81 = .ok (.aload_n 0, 1) := by decide +kernel
theorem dX5_init_82 : decode cX5_init 82 = .ok (.getfield 19, 3) := by decide +kernel
theorem dX5_init_85 : decode cX5_init 85 = .ok (.arraylength, 1) := by decide +kernel
theorem dX5_init_86 : decode cX5_init 86 = .ok (.if_icmp .ge 22, 3) := by decide +kernel
theorem dX5_init_89 : decode cX5_init 89 = .ok (.aload_n 0, 1) := by decide +kernel
theorem dX5_init_90 : decode cX5_init 90 = .ok (.getfield 19, 3) := by decide +kernel
theorem dX5_init_93 : decode cX5_init 93 = .ok (.iload_n 1, 1) := by decide +kernel
theorem dX5_init_94 : decode cX5_init 94 = .ok (.new 17, 3) := by decide +kernel
theorem dX5_init_97 : decode cX5_init 97 = .ok (.dup, 1) := by decide +kernel
theorem dX5_init_98 : decode cX5_init 98 = .ok (.invokespecial 35, 3) := by decide +kernel
theorem dX5_init_101 : decode cX5_init 101 = .ok (.aastore, 1) := by decide +kernel
theorem dX5_init_102 : decode cX5_init 102 = .ok (.iinc 1 1, 3) := by decide +kernel
theorem dX5_init_105 : decode cX5_init 105 = .ok (.goto (-25), 3) := by decide +kernel
theorem dX5_init_108 : decode cX5_init 108 = .ok (.return_, 1) := by decide +kernel
theorem dX5_streamNamed_0 : decode cX5_streamNamed 0 = .ok (.iconst 0, 1) := by decide +kernel
theorem dX5_streamNamed_1 : decode cX5_streamNamed 1 = .ok (.istore_n 3, 1) := by decide +kernel
theorem dX5_streamNamed_2 : decode cX5_streamNamed 2 = .ok (.iload_n 3, 1) := by decide +kernel
theorem dX5_streamNamed_3 : decode cX5_streamNamed 3 = .ok (.aload_n 0, 1) := by decide +kernel
theorem dX5_streamNamed_4 : decode cX5_streamNamed 4 = .ok (.getfield 36, 3) := by decide +kernel
theorem dX5_streamNamed_7 : decode cX5_streamNamed 7 = .ok (.if_icmp .ge 34, 3) := by decide +kernel
theorem dX5_streamNamed_10 : decode cX5_streamNamed 10 = .ok (.iload_n 3, 1) := by decide +kernel
theorem dX5_streamNamed_11 : decode cX5_streamNamed 11 = .ok (.aload_n 0, 1) := by decide +kernel
theorem dX5_streamNamed_12 : decode cX5_streamNamed 12 = .ok (.getfield 11, 3) := by decide +kernel
theorem dX5_streamNamed_15 : decode cX5_streamNamed 15 = .ok (.arraylength, 1) := by decide +kernel
theorem dX5_streamNamed_16 : decode cX5_streamNamed 16 = .ok (.if_icmp .ge 25, 3) := by decide +kernel
theorem dX5_streamNamed_19 : decode cX5_streamNamed 19 = .ok (.aload_n 0, 1) := by decide +kernel
theorem dX5_streamNamed_20 : decode cX5_streamNamed 20 = .ok (.getfield 11, 3) := by decide +kernel
theorem dX5_streamNamed_23 : decode cX5_streamNamed 23 = .ok (.iload_n 3, 1) := by decide +kernel
theorem dX5_streamNamed_24 : decode cX5_streamNamed 24 = .ok (.aaload, 1) := by decide +kernel
theorem dX5_streamNamed_25 : decode cX5_streamNamed 25 = .ok (.getfield 40, 3) := by decide +kernel
theorem dX5_streamNamed_28 : decode cX5_streamNamed 28 = .ok (.lload_n 1, 1) := by decide +kernel
theorem dX5_streamNamed_29 : decode cX5_streamNamed 29 = .ok (.lcmp, 1) := by decide +kernel
theorem dX5_streamNamed_30 : decode cX5_streamNamed 30 = .ok (.ifCond .ne 5, 3) := by decide +kernel
theorem dX5_streamNamed_33 : decode cX5_streamNamed 33 = .ok (.iload_n 3, 1) := by decide +kernel
theorem dX5_streamNamed_34 : decode cX5_streamNamed 34 = .ok (.ireturn, 1) := by decide +kernel
theorem dX5_streamNamed_35 : decode cX5_streamNamed 35 = .ok (.iinc 3 1, 3) := by decide +kernel
theorem dX5_streamNamed_38 : decode cX5_streamNamed 38 = .ok (.goto (-36), 3) := by decide +kernel
theorem dX5_streamNamed_41 : decode cX5_streamNamed 41 = .ok (.iconst (-1), 1) := by decide +kernel
theorem dX5_streamNamed_42 : decode cX5_streamNamed 42 = .ok (.ireturn, 1) := by decide +kernel
theorem dX5_emit_0 : decode cX5_emit 0 = .ok (.aload_n 0, 1) := by decide +kernel
theorem dX5_emit_1 : decode cX5_emit 1 = .ok (.getfield 44, 3) := by decide +kernel
theorem dX5_emit_4 : decode cX5_emit 4 = .ok (.aload_n 0, 1) := by decide +kernel
theorem dX5_emit_5 : decode cX5_emit 5 = .ok (.getfield 23, 3) := by decide +kernel
theorem dX5_emit_8 : decode cX5_emit 8 = .ok (.arraylength, 1) := by decide +kernel
theorem dX5_emit_9 : decode cX5_emit 9 = .ok (.if_icmp .ge 33, 3) := by decide +kernel
theorem dX5_emit_12 : decode cX5_emit 12 = .ok (.aload_n 0, 1) := by decide +kernel
theorem dX5_emit_13 : decode cX5_emit 13 = .ok (.getfield 23, 3) := by decide +kernel
theorem dX5_emit_16 : decode cX5_emit 16 = .ok (.aload_n 0, 1) := by decide +kernel
theorem dX5_emit_17 : decode cX5_emit 17 = .ok (.getfield 44, 3) := by decide +kernel
theorem dX5_emit_20 : decode cX5_emit 20 = .ok (.iload_n 1, 1) := by decide +kernel
theorem dX5_emit_21 : decode cX5_emit 21 = .ok (.iastore, 1) := by decide +kernel
theorem dX5_emit_22 : decode cX5_emit 22 = .ok (.aload_n 0, 1) := by decide +kernel
theorem dX5_emit_23 : decode cX5_emit 23 = .ok (.getfield 27, 3) := by decide +kernel
theorem dX5_emit_26 : decode cX5_emit 26 = .ok (.aload_n 0, 1) := by decide +kernel
theorem dX5_emit_27 : decode cX5_emit 27 = .ok (.getfield 44, 3) := by decide +kernel
theorem dX5_emit_30 : decode cX5_emit 30 = .ok (.lload_n 2, 1) := by decide +kernel
theorem dX5_emit_31 : decode cX5_emit 31 = .ok (.lastore, 1) := by decide +kernel
theorem dX5_emit_32 : decode cX5_emit 32 = .ok (.aload_n 0, 1) := by decide +kernel
theorem dX5_emit_33 : decode cX5_emit 33 = .ok (.dup, 1) := by decide +kernel
theorem dX5_emit_34 : decode cX5_emit 34 = .ok (.getfield 44, 3) := by decide +kernel
theorem dX5_emit_37 : decode cX5_emit 37 = .ok (.iconst 1, 1) := by decide +kernel
theorem dX5_emit_38 : decode cX5_emit 38 = .ok (.iadd, 1) := by decide +kernel
theorem dX5_emit_39 : decode cX5_emit 39 = .ok (.putfield 44, 3) := by decide +kernel
theorem dX5_emit_42 : decode cX5_emit 42 = .ok (.return_, 1) := by decide +kernel
theorem dX5_reckon_0 : decode cX5_reckon 0 = .ok (.iconst 0, 1) := by decide +kernel
theorem dX5_reckon_1 : decode cX5_reckon 1 = .ok (.istore 4, 2) := by decide +kernel
theorem dX5_reckon_3 : decode cX5_reckon 3 = .ok (.iload_n 1, 1) := by decide +kernel
theorem dX5_reckon_4 : decode cX5_reckon 4 = .ok (.istore 5, 2) := by decide +kernel
theorem dX5_reckon_6 : decode cX5_reckon 6 = .ok (.iload 5, 2) := by decide +kernel
theorem dX5_reckon_8 : decode cX5_reckon 8 = .ok (.ifCond .lt 214, 3) := by decide +kernel
theorem dX5_reckon_11 : decode cX5_reckon 11 = .ok (.iload 5, 2) := by decide +kernel
theorem dX5_reckon_13 : decode cX5_reckon 13 = .ok (.iload_n 2, 1) := by decide +kernel
theorem dX5_reckon_14 : decode cX5_reckon 14 = .ok (.if_icmp .ge 208, 3) := by decide +kernel
theorem dX5_reckon_17 : decode cX5_reckon 17 = .ok (.iload 5, 2) := by decide +kernel
theorem dX5_reckon_19 : decode cX5_reckon 19 = .ok (.aload_n 0, 1) := by decide +kernel
theorem dX5_reckon_20 : decode cX5_reckon 20 = .ok (.getfield 44, 3) := by decide +kernel
theorem dX5_reckon_23 : decode cX5_reckon 23 = .ok (.if_icmp .ge 199, 3) := by decide +kernel
theorem dX5_reckon_26 : decode cX5_reckon 26 = .ok (.aload_n 0, 1) := by decide +kernel
theorem dX5_reckon_27 : decode cX5_reckon 27 = .ok (.getfield 23, 3) := by decide +kernel
theorem dX5_reckon_30 : decode cX5_reckon 30 = .ok (.iload 5, 2) := by decide +kernel
theorem dX5_reckon_32 : decode cX5_reckon 32 = .ok (.iaload, 1) := by decide +kernel
theorem dX5_reckon_33 : decode cX5_reckon 33 = .ok (.istore 6, 2) := by decide +kernel
theorem dX5_reckon_35 : decode cX5_reckon 35 = .ok (.iload 6, 2) := by decide +kernel
theorem dX5_reckon_37 : decode cX5_reckon 37 = .ok (.iconst 3, 1) := by decide +kernel
theorem dX5_reckon_38 : decode cX5_reckon 38 = .ok (.if_icmp .eq 17, 3) := by decide +kernel
theorem dX5_reckon_41 : decode cX5_reckon 41 = .ok (.iload 6, 2) := by decide +kernel
theorem dX5_reckon_43 : decode cX5_reckon 43 = .ok (.iconst 2, 1) := by decide +kernel
theorem dX5_reckon_44 : decode cX5_reckon 44 = .ok (.if_icmp .eq 11, 3) := by decide +kernel
theorem dX5_reckon_47 : decode cX5_reckon 47 = .ok (.iload 6, 2) := by decide +kernel
theorem dX5_reckon_49 : decode cX5_reckon 49 = .ok (.sipush 155, 3) := by decide +kernel
theorem dX5_reckon_52 : decode cX5_reckon 52 = .ok (.if_icmp .ne 70, 3) := by decide +kernel
theorem dX5_reckon_55 : decode cX5_reckon 55 = .ok (.iload 4, 2) := by decide +kernel
theorem dX5_reckon_57 : decode cX5_reckon 57 = .ok (.aload_n 0, 1) := by decide +kernel
theorem dX5_reckon_58 : decode cX5_reckon 58 = .ok (.getfield 31, 3) := by decide +kernel
theorem dX5_reckon_61 : decode cX5_reckon 61 = .ok (.arraylength, 1) := by decide +kernel
theorem dX5_reckon_62 : decode cX5_reckon 62 = .ok (.if_icmp .ge 154, 3) := by decide +kernel
theorem dX5_reckon_65 : decode cX5_reckon 65 = .ok (.aload_n 0, 1) := by decide +kernel
theorem dX5_reckon_66 : decode cX5_reckon 66 = .ok (.getfield 31, 3) := by decide +kernel
theorem dX5_reckon_69 : decode cX5_reckon 69 = .ok (.iload 4, 2) := by decide +kernel
theorem dX5_reckon_71 : decode cX5_reckon 71 = .ok (.iload 6, 2) := by decide +kernel
theorem dX5_reckon_73 : decode cX5_reckon 73 = .ok (.iconst 2, 1) := by decide +kernel
theorem dX5_reckon_74 : decode cX5_reckon 74 = .ok (.if_icmp .ne 18, 3) := by decide +kernel
theorem dX5_reckon_77 : decode cX5_reckon 77 = .ok (.aload_n 3, 1) := by decide +kernel
theorem dX5_reckon_78 : decode cX5_reckon 78 = .ok (.aload_n 0, 1) := by decide +kernel
theorem dX5_reckon_79 : decode cX5_reckon 79 = .ok (.getfield 27, 3) := by decide +kernel
theorem dX5_reckon_82 : decode cX5_reckon 82 = .ok (.iload 5, 2) := by decide +kernel
theorem dX5_reckon_84 : decode cX5_reckon 84 = .ok (.laload, 1) := by decide +kernel
theorem dX5_reckon_85 : decode cX5_reckon 85 = .ok (.l2i, 1) := by decide +kernel
theorem dX5_reckon_86 : decode cX5_reckon 86 = .ok (.invokevirtual 47, 3) := by decide +kernel
theorem dX5_reckon_89 : decode cX5_reckon 89 = .ok (.goto 26, 3) := by decide +kernel
theorem dX5_reckon_92 : decode cX5_reckon 92 = .ok (.iload 6, 2) := by decide +kernel
theorem dX5_reckon_94 : decode cX5_reckon 94 = .ok (.sipush 155, 3) := by decide +kernel
theorem dX5_reckon_97 : decode cX5_reckon 97 = .ok (.if_icmp .ne 11, 3) := by decide +kernel
theorem dX5_reckon_100 : decode cX5_reckon 100 = .ok (.aload_n 3, 1) := by decide +kernel
theorem dX5_reckon_101 : decode cX5_reckon 101 = .ok (.getfield 53, 3) := by decide +kernel
theorem dX5_reckon_104 : decode cX5_reckon 104 = .ok (.i2l, 1) := by decide +kernel
theorem dX5_reckon_105 : decode cX5_reckon 105 = .ok (.goto 10, 3) := by decide +kernel
theorem dX5_reckon_108 : decode cX5_reckon 108 = .ok (.aload_n 0, 1) := by decide +kernel
theorem dX5_reckon_109 : decode cX5_reckon 109 = .ok (.getfield 27, 3) := by decide +kernel
theorem dX5_reckon_112 : decode cX5_reckon 112 = .ok (.iload 5, 2) := by decide +kernel
theorem dX5_reckon_114 : decode cX5_reckon 114 = .ok (.laload, 1) := by decide +kernel
theorem dX5_reckon_115 : decode cX5_reckon 115 = .ok (.lastore, 1) := by decide +kernel
theorem dX5_reckon_116 : decode cX5_reckon 116 = .ok (.iinc 4 1, 3) := by decide +kernel
theorem dX5_reckon_119 : decode cX5_reckon 119 = .ok (.goto 97, 3) := by decide +kernel
theorem dX5_reckon_122 : decode cX5_reckon 122 = .ok (.iload 6, 2) := by decide +kernel
theorem dX5_reckon_124 : decode cX5_reckon 124 = .ok (.sipush 160, 3) := by decide +kernel
theorem dX5_reckon_127 : decode cX5_reckon 127 = .ok (.if_icmp .eq 19, 3) := by decide +kernel
theorem dX5_reckon_130 : decode cX5_reckon 130 = .ok (.iload 6, 2) := by decide +kernel
theorem dX5_reckon_132 : decode cX5_reckon 132 = .ok (.sipush 158, 3) := by decide +kernel
theorem dX5_reckon_135 : decode cX5_reckon 135 = .ok (.if_icmp .eq 11, 3) := by decide +kernel
theorem dX5_reckon_138 : decode cX5_reckon 138 = .ok (.iload 6, 2) := by decide +kernel
theorem dX5_reckon_140 : decode cX5_reckon 140 = .ok (.sipush 159, 3) := by decide +kernel
theorem dX5_reckon_143 : decode cX5_reckon 143 = .ok (.if_icmp .ne 34, 3) := by decide +kernel
theorem dX5_reckon_146 : decode cX5_reckon 146 = .ok (.iload 4, 2) := by decide +kernel
theorem dX5_reckon_148 : decode cX5_reckon 148 = .ok (.ifCond .le 68, 3) := by decide +kernel
theorem dX5_reckon_151 : decode cX5_reckon 151 = .ok (.aload_n 0, 1) := by decide +kernel
theorem dX5_reckon_152 : decode cX5_reckon 152 = .ok (.getfield 31, 3) := by decide +kernel
theorem dX5_reckon_155 : decode cX5_reckon 155 = .ok (.iload 4, 2) := by decide +kernel
theorem dX5_reckon_157 : decode cX5_reckon 157 = .ok (.iconst 1, 1) := by decide +kernel
theorem dX5_reckon_158 : decode cX5_reckon 158 = .ok (.isub, 1) := by decide +kernel
theorem dX5_reckon_159 : decode cX5_reckon 159 = .ok (.iload 6, 2) := by decide +kernel
theorem dX5_reckon_161 : decode cX5_reckon 161 = .ok (.aload_n 0, 1) := by decide +kernel
theorem dX5_reckon_162 : decode cX5_reckon 162 = .ok (.getfield 31, 3) := by decide +kernel
theorem dX5_reckon_165 : decode cX5_reckon 165 = .ok (.iload 4, 2) := by decide +kernel
theorem dX5_reckon_167 : decode cX5_reckon 167 = .ok (.iconst 1, 1) := by decide +kernel
theorem dX5_reckon_168 : decode cX5_reckon 168 = .ok (.isub, 1) := by decide +kernel
theorem dX5_reckon_169 : decode cX5_reckon 169 = .ok (.laload, 1) := by decide +kernel
theorem dX5_reckon_170 : decode cX5_reckon 170 = .ok (.invokestatic 56, 3) := by decide +kernel
theorem dX5_reckon_173 : decode cX5_reckon 173 = .ok (.lastore, 1) := by decide +kernel
theorem dX5_reckon_174 : decode cX5_reckon 174 = .ok (.goto 42, 3) := by decide +kernel
theorem dX5_reckon_177 : decode cX5_reckon 177 = .ok (.iload 4, 2) := by decide +kernel
theorem dX5_reckon_179 : decode cX5_reckon 179 = .ok (.iconst 1, 1) := by decide +kernel
theorem dX5_reckon_180 : decode cX5_reckon 180 = .ok (.if_icmp .le 36, 3) := by decide +kernel
theorem dX5_reckon_183 : decode cX5_reckon 183 = .ok (.iinc 4 (-1), 3) := by decide +kernel
theorem dX5_reckon_186 : decode cX5_reckon 186 = .ok (.aload_n 0, 1) := by decide +kernel
theorem dX5_reckon_187 : decode cX5_reckon 187 = .ok (.getfield 31, 3) := by decide +kernel
theorem dX5_reckon_190 : decode cX5_reckon 190 = .ok (.iload 4, 2) := by decide +kernel
theorem dX5_reckon_192 : decode cX5_reckon 192 = .ok (.iconst 1, 1) := by decide +kernel
theorem dX5_reckon_193 : decode cX5_reckon 193 = .ok (.isub, 1) := by decide +kernel
theorem dX5_reckon_194 : decode cX5_reckon 194 = .ok (.iload 6, 2) := by decide +kernel
theorem dX5_reckon_196 : decode cX5_reckon 196 = .ok (.aload_n 0, 1) := by decide +kernel
theorem dX5_reckon_197 : decode cX5_reckon 197 = .ok (.getfield 31, 3) := by decide +kernel
theorem dX5_reckon_200 : decode cX5_reckon 200 = .ok (.iload 4, 2) := by decide +kernel
theorem dX5_reckon_202 : decode cX5_reckon 202 = .ok (.iconst 1, 1) := by decide +kernel
theorem dX5_reckon_203 : decode cX5_reckon 203 = .ok (.isub, 1) := by decide +kernel
theorem dX5_reckon_204 : decode cX5_reckon 204 = .ok (.laload, 1) := by decide +kernel
theorem dX5_reckon_205 : decode cX5_reckon 205 = .ok (.aload_n 0, 1) := by decide +kernel
theorem dX5_reckon_206 : decode cX5_reckon 206 = .ok (.getfield 31, 3) := by decide +kernel
theorem dX5_reckon_209 : decode cX5_reckon 209 = .ok (.iload 4, 2) := by decide +kernel
theorem dX5_reckon_211 : decode cX5_reckon 211 = .ok (.laload, 1) := by decide +kernel
theorem dX5_reckon_212 : decode cX5_reckon 212 = .ok (.invokestatic 60, 3) := by decide +kernel
theorem dX5_reckon_215 : decode cX5_reckon 215 = .ok (.lastore, 1) := by decide +kernel
theorem dX5_reckon_216 : decode cX5_reckon 216 = .ok (.iinc 5 1, 3) := by decide +kernel
theorem dX5_reckon_219 : decode cX5_reckon 219 = .ok (.goto (-213), 3) := by decide +kernel
theorem dX5_reckon_222 : decode cX5_reckon 222 = .ok (.iload 4, 2) := by decide +kernel
theorem dX5_reckon_224 : decode cX5_reckon 224 = .ok (.ifCond .le 12, 3) := by decide +kernel
theorem dX5_reckon_227 : decode cX5_reckon 227 = .ok (.aload_n 0, 1) := by decide +kernel
theorem dX5_reckon_228 : decode cX5_reckon 228 = .ok (.getfield 31, 3) := by decide +kernel
theorem dX5_reckon_231 : decode cX5_reckon 231 = .ok (.iconst 0, 1) := by decide +kernel
theorem dX5_reckon_232 : decode cX5_reckon 232 = .ok (.laload, 1) := by decide +kernel
theorem dX5_reckon_233 : decode cX5_reckon 233 = .ok (.goto 4, 3) := by decide +kernel
theorem dX5_reckon_236 : decode cX5_reckon 236 = .ok (.lconst 0, 1) := by decide +kernel
theorem dX5_reckon_237 : decode cX5_reckon 237 = .ok (.lreturn, 1) := by decide +kernel
theorem dX5_unary_0 : decode cX5_unary 0 = .ok (.iload_n 0, 1) := by decide +kernel
theorem dX5_unary_1 : decode cX5_unary 1 = .ok (.lookupswitch 42 #[(158, 30), (160, 27)], 27) := by decide +kernel
theorem dX5_unary_28 : decode cX5_unary 28 = .ok (.lload_n 1, 1) := by decide +kernel
theorem dX5_unary_29 : decode cX5_unary 29 = .ok (.lneg, 1) := by decide +kernel
theorem dX5_unary_30 : decode cX5_unary 30 = .ok (.lreturn, 1) := by decide +kernel
theorem dX5_unary_31 : decode cX5_unary 31 = .ok (.lload_n 1, 1) := by decide +kernel
theorem dX5_unary_32 : decode cX5_unary 32 = .ok (.lconst 0, 1) := by decide +kernel
theorem dX5_unary_33 : decode cX5_unary 33 = .ok (.lcmp, 1) := by decide +kernel
theorem dX5_unary_34 : decode cX5_unary 34 = .ok (.ifCond .ne 7, 3) := by decide +kernel
theorem dX5_unary_37 : decode cX5_unary 37 = .ok (.lconst 1, 1) := by decide +kernel
theorem dX5_unary_38 : decode cX5_unary 38 = .ok (.goto 4, 3) := by decide +kernel
theorem dX5_unary_41 : decode cX5_unary 41 = .ok (.lconst 0, 1) := by decide +kernel
theorem dX5_unary_42 : decode cX5_unary 42 = .ok (.lreturn, 1) := by decide +kernel
theorem dX5_unary_43 : decode cX5_unary 43 = .ok (.lload_n 1, 1) := by decide +kernel
theorem dX5_unary_44 : decode cX5_unary 44 = .ok (.lconst 0, 1) := by decide +kernel
theorem dX5_unary_45 : decode cX5_unary 45 = .ok (.lcmp, 1) := by decide +kernel
theorem dX5_unary_46 : decode cX5_unary 46 = .ok (.ifCond .ge 8, 3) := by decide +kernel
theorem dX5_unary_49 : decode cX5_unary 49 = .ok (.lload_n 1, 1) := by decide +kernel
theorem dX5_unary_50 : decode cX5_unary 50 = .ok (.lneg, 1) := by decide +kernel
theorem dX5_unary_51 : decode cX5_unary 51 = .ok (.goto 4, 3) := by decide +kernel
theorem dX5_unary_54 : decode cX5_unary 54 = .ok (.lload_n 1, 1) := by decide +kernel
theorem dX5_unary_55 : decode cX5_unary 55 = .ok (.lreturn, 1) := by decide +kernel
theorem dX5_binary_0 : decode cX5_binary 0 = .ok (.iload_n 0, 1) := by decide +kernel
theorem dX5_binary_1 : decode cX5_binary 1 = .ok (.lookupswitch 303 #[(37, 157), (42, 139), (43, 131), (45, 135), (47, 143), (60, 195), (61, 171), (62, 207), (152, 279), (153, 291), (156, 243), (157, 261), (15421, 219), (15422, 183), (15933, 231)], 131) := by decide +kernel
theorem dX5_binary_132 : decode cX5_binary 132 = .ok (.lload_n 1, 1) := by decide +kernel
theorem dX5_binary_133 : decode cX5_binary 133 = .ok (.lload_n 3, 1) := by decide +kernel
theorem dX5_binary_134 : decode cX5_binary 134 = .ok (.ladd, 1) := by decide +kernel
theorem dX5_binary_135 : decode cX5_binary 135 = .ok (.lreturn, 1) := by decide +kernel
theorem dX5_binary_136 : decode cX5_binary 136 = .ok (.lload_n 1, 1) := by decide +kernel
theorem dX5_binary_137 : decode cX5_binary 137 = .ok (.lload_n 3, 1) := by decide +kernel
theorem dX5_binary_138 : decode cX5_binary 138 = .ok (.lsub, 1) := by decide +kernel
theorem dX5_binary_139 : decode cX5_binary 139 = .ok (.lreturn, 1) := by decide +kernel
theorem dX5_binary_140 : decode cX5_binary 140 = .ok (.lload_n 1, 1) := by decide +kernel
theorem dX5_binary_141 : decode cX5_binary 141 = .ok (.lload_n 3, 1) := by decide +kernel
theorem dX5_binary_142 : decode cX5_binary 142 = .ok (.lmul, 1) := by decide +kernel
theorem dX5_binary_143 : decode cX5_binary 143 = .ok (.lreturn, 1) := by decide +kernel
theorem dX5_binary_144 : decode cX5_binary 144 = .ok (.lload_n 3, 1) := by decide +kernel
theorem dX5_binary_145 : decode cX5_binary 145 = .ok (.lconst 0, 1) := by decide +kernel
theorem dX5_binary_146 : decode cX5_binary 146 = .ok (.lcmp, 1) := by decide +kernel
theorem dX5_binary_147 : decode cX5_binary 147 = .ok (.ifCond .ne 7, 3) := by decide +kernel
theorem dX5_binary_150 : decode cX5_binary 150 = .ok (.lconst 0, 1) := by decide +kernel
theorem dX5_binary_151 : decode cX5_binary 151 = .ok (.goto 6, 3) := by decide +kernel
theorem dX5_binary_154 : decode cX5_binary 154 = .ok (.lload_n 1, 1) := by decide +kernel
theorem dX5_binary_155 : decode cX5_binary 155 = .ok (.lload_n 3, 1) := by decide +kernel
theorem dX5_binary_156 : decode cX5_binary 156 = .ok (.ldiv, 1) := by decide +kernel
theorem dX5_binary_157 : decode cX5_binary 157 = .ok (.lreturn, 1) := by decide +kernel
theorem dX5_binary_158 : decode cX5_binary 158 = .ok (.lload_n 3, 1) := by decide +kernel
theorem dX5_binary_159 : decode cX5_binary 159 = .ok (.lconst 0, 1) := by decide +kernel
theorem dX5_binary_160 : decode cX5_binary 160 = .ok (.lcmp, 1) := by decide +kernel
theorem dX5_binary_161 : decode cX5_binary 161 = .ok (.ifCond .ne 7, 3) := by decide +kernel
theorem dX5_binary_164 : decode cX5_binary 164 = .ok (.lconst 0, 1) := by decide +kernel
theorem dX5_binary_165 : decode cX5_binary 165 = .ok (.goto 6, 3) := by decide +kernel
theorem dX5_binary_168 : decode cX5_binary 168 = .ok (.lload_n 1, 1) := by decide +kernel
theorem dX5_binary_169 : decode cX5_binary 169 = .ok (.lload_n 3, 1) := by decide +kernel
theorem dX5_binary_170 : decode cX5_binary 170 = .ok (.lrem, 1) := by decide +kernel
theorem dX5_binary_171 : decode cX5_binary 171 = .ok (.lreturn, 1) := by decide +kernel
theorem dX5_binary_172 : decode cX5_binary 172 = .ok (.lload_n 1, 1) := by decide +kernel
theorem dX5_binary_173 : decode cX5_binary 173 = .ok (.lload_n 3, 1) := by decide +kernel
theorem dX5_binary_174 : decode cX5_binary 174 = .ok (.lcmp, 1) := by decide +kernel
theorem dX5_binary_175 : decode cX5_binary 175 = .ok (.ifCond .ne 7, 3) := by decide +kernel
theorem dX5_binary_178 : decode cX5_binary 178 = .ok (.lconst 1, 1) := by decide +kernel
theorem dX5_binary_179 : decode cX5_binary 179 = .ok (.goto 4, 3) := by decide +kernel
theorem dX5_binary_182 : decode cX5_binary 182 = .ok (.lconst 0, 1) := by decide +kernel
theorem dX5_binary_183 : decode cX5_binary 183 = .ok (.lreturn, 1) := by decide +kernel
theorem dX5_binary_184 : decode cX5_binary 184 = .ok (.lload_n 1, 1) := by decide +kernel
theorem dX5_binary_185 : decode cX5_binary 185 = .ok (.lload_n 3, 1) := by decide +kernel
theorem dX5_binary_186 : decode cX5_binary 186 = .ok (.lcmp, 1) := by decide +kernel
theorem dX5_binary_187 : decode cX5_binary 187 = .ok (.ifCond .eq 7, 3) := by decide +kernel
theorem dX5_binary_190 : decode cX5_binary 190 = .ok (.lconst 1, 1) := by decide +kernel
theorem dX5_binary_191 : decode cX5_binary 191 = .ok (.goto 4, 3) := by decide +kernel
theorem dX5_binary_194 : decode cX5_binary 194 = .ok (.lconst 0, 1) := by decide +kernel
theorem dX5_binary_195 : decode cX5_binary 195 = .ok (.lreturn, 1) := by decide +kernel
theorem dX5_binary_196 : decode cX5_binary 196 = .ok (.lload_n 1, 1) := by decide +kernel
theorem dX5_binary_197 : decode cX5_binary 197 = .ok (.lload_n 3, 1) := by decide +kernel
theorem dX5_binary_198 : decode cX5_binary 198 = .ok (.lcmp, 1) := by decide +kernel
theorem dX5_binary_199 : decode cX5_binary 199 = .ok (.ifCond .ge 7, 3) := by decide +kernel
theorem dX5_binary_202 : decode cX5_binary 202 = .ok (.lconst 1, 1) := by decide +kernel
theorem dX5_binary_203 : decode cX5_binary 203 = .ok (.goto 4, 3) := by decide +kernel
theorem dX5_binary_206 : decode cX5_binary 206 = .ok (.lconst 0, 1) := by decide +kernel
theorem dX5_binary_207 : decode cX5_binary 207 = .ok (.lreturn, 1) := by decide +kernel
theorem dX5_binary_208 : decode cX5_binary 208 = .ok (.lload_n 1, 1) := by decide +kernel
theorem dX5_binary_209 : decode cX5_binary 209 = .ok (.lload_n 3, 1) := by decide +kernel
theorem dX5_binary_210 : decode cX5_binary 210 = .ok (.lcmp, 1) := by decide +kernel
theorem dX5_binary_211 : decode cX5_binary 211 = .ok (.ifCond .le 7, 3) := by decide +kernel
theorem dX5_binary_214 : decode cX5_binary 214 = .ok (.lconst 1, 1) := by decide +kernel
theorem dX5_binary_215 : decode cX5_binary 215 = .ok (.goto 4, 3) := by decide +kernel
theorem dX5_binary_218 : decode cX5_binary 218 = .ok (.lconst 0, 1) := by decide +kernel
theorem dX5_binary_219 : decode cX5_binary 219 = .ok (.lreturn, 1) := by decide +kernel
theorem dX5_binary_220 : decode cX5_binary 220 = .ok (.lload_n 1, 1) := by decide +kernel
theorem dX5_binary_221 : decode cX5_binary 221 = .ok (.lload_n 3, 1) := by decide +kernel
theorem dX5_binary_222 : decode cX5_binary 222 = .ok (.lcmp, 1) := by decide +kernel
theorem dX5_binary_223 : decode cX5_binary 223 = .ok (.ifCond .gt 7, 3) := by decide +kernel
theorem dX5_binary_226 : decode cX5_binary 226 = .ok (.lconst 1, 1) := by decide +kernel
theorem dX5_binary_227 : decode cX5_binary 227 = .ok (.goto 4, 3) := by decide +kernel
theorem dX5_binary_230 : decode cX5_binary 230 = .ok (.lconst 0, 1) := by decide +kernel
theorem dX5_binary_231 : decode cX5_binary 231 = .ok (.lreturn, 1) := by decide +kernel
theorem dX5_binary_232 : decode cX5_binary 232 = .ok (.lload_n 1, 1) := by decide +kernel
theorem dX5_binary_233 : decode cX5_binary 233 = .ok (.lload_n 3, 1) := by decide +kernel
theorem dX5_binary_234 : decode cX5_binary 234 = .ok (.lcmp, 1) := by decide +kernel
theorem dX5_binary_235 : decode cX5_binary 235 = .ok (.ifCond .lt 7, 3) := by decide +kernel
theorem dX5_binary_238 : decode cX5_binary 238 = .ok (.lconst 1, 1) := by decide +kernel
theorem dX5_binary_239 : decode cX5_binary 239 = .ok (.goto 4, 3) := by decide +kernel
theorem dX5_binary_242 : decode cX5_binary 242 = .ok (.lconst 0, 1) := by decide +kernel
theorem dX5_binary_243 : decode cX5_binary 243 = .ok (.lreturn, 1) := by decide +kernel
theorem dX5_binary_244 : decode cX5_binary 244 = .ok (.lload_n 1, 1) := by decide +kernel
theorem dX5_binary_245 : decode cX5_binary 245 = .ok (.lconst 0, 1) := by decide +kernel
theorem dX5_binary_246 : decode cX5_binary 246 = .ok (.lcmp, 1) := by decide +kernel
theorem dX5_binary_247 : decode cX5_binary 247 = .ok (.ifCond .eq 13, 3) := by decide +kernel
theorem dX5_binary_250 : decode cX5_binary 250 = .ok (.lload_n 3, 1) := by decide +kernel
theorem dX5_binary_251 : decode cX5_binary 251 = .ok (.lconst 0, 1) := by decide +kernel
theorem dX5_binary_252 : decode cX5_binary 252 = .ok (.lcmp, 1) := by decide +kernel
theorem dX5_binary_253 : decode cX5_binary 253 = .ok (.ifCond .eq 7, 3) := by decide +kernel
theorem dX5_binary_256 : decode cX5_binary 256 = .ok (.lconst 1, 1) := by decide +kernel
theorem dX5_binary_257 : decode cX5_binary 257 = .ok (.goto 4, 3) := by decide +kernel
theorem dX5_binary_260 : decode cX5_binary 260 = .ok (.lconst 0, 1) := by decide +kernel
theorem dX5_binary_261 : decode cX5_binary 261 = .ok (.lreturn, 1) := by decide +kernel
theorem dX5_binary_262 : decode cX5_binary 262 = .ok (.lload_n 1, 1) := by decide +kernel
theorem dX5_binary_263 : decode cX5_binary 263 = .ok (.lconst 0, 1) := by decide +kernel
theorem dX5_binary_264 : decode cX5_binary 264 = .ok (.lcmp, 1) := by decide +kernel
theorem dX5_binary_265 : decode cX5_binary 265 = .ok (.ifCond .ne 9, 3) := by decide +kernel
theorem dX5_binary_268 : decode cX5_binary 268 = .ok (.lload_n 3, 1) := by decide +kernel
theorem dX5_binary_269 : decode cX5_binary 269 = .ok (.lconst 0, 1) := by decide +kernel
theorem dX5_binary_270 : decode cX5_binary 270 = .ok (.lcmp, 1) := by decide +kernel
theorem dX5_binary_271 : decode cX5_binary 271 = .ok (.ifCond .eq 7, 3) := by decide +kernel
theorem dX5_binary_274 : decode cX5_binary 274 = .ok (.lconst 1, 1) := by decide +kernel
theorem dX5_binary_275 : decode cX5_binary 275 = .ok (.goto 4, 3) := by decide +kernel
theorem dX5_binary_278 : decode cX5_binary 278 = .ok (.lconst 0, 1) := by decide +kernel
theorem dX5_binary_279 : decode cX5_binary 279 = .ok (.lreturn, 1) := by decide +kernel
theorem dX5_binary_280 : decode cX5_binary 280 = .ok (.lload_n 1, 1) := by decide +kernel
theorem dX5_binary_281 : decode cX5_binary 281 = .ok (.lload_n 3, 1) := by decide +kernel
theorem dX5_binary_282 : decode cX5_binary 282 = .ok (.lcmp, 1) := by decide +kernel
theorem dX5_binary_283 : decode cX5_binary 283 = .ok (.ifCond .ge 7, 3) := by decide +kernel
theorem dX5_binary_286 : decode cX5_binary 286 = .ok (.lload_n 1, 1) := by decide +kernel
theorem dX5_binary_287 : decode cX5_binary 287 = .ok (.goto 4, 3) := by decide +kernel
theorem dX5_binary_290 : decode cX5_binary 290 = .ok (.lload_n 3, 1) := by decide +kernel
theorem dX5_binary_291 : decode cX5_binary 291 = .ok (.lreturn, 1) := by decide +kernel
theorem dX5_binary_292 : decode cX5_binary 292 = .ok (.lload_n 1, 1) := by decide +kernel
theorem dX5_binary_293 : decode cX5_binary 293 = .ok (.lload_n 3, 1) := by decide +kernel
theorem dX5_binary_294 : decode cX5_binary 294 = .ok (.lcmp, 1) := by decide +kernel
theorem dX5_binary_295 : decode cX5_binary 295 = .ok (.ifCond .le 7, 3) := by decide +kernel
theorem dX5_binary_298 : decode cX5_binary 298 = .ok (.lload_n 1, 1) := by decide +kernel
theorem dX5_binary_299 : decode cX5_binary 299 = .ok (.goto 4, 3) := by decide +kernel
theorem dX5_binary_302 : decode cX5_binary 302 = .ok (.lload_n 3, 1) := by decide +kernel
theorem dX5_binary_303 : decode cX5_binary 303 = .ok (.lreturn, 1) := by decide +kernel
theorem dX5_binary_304 : decode cX5_binary 304 = .ok (.lconst 0, 1) := by decide +kernel
theorem dX5_binary_305 : decode cX5_binary 305 = .ok (.lreturn, 1) := by decide +kernel
theorem dX6_init_0 : decode cX6_init 0 = .ok (.aload_n 0, 1) := by decide +kernel
theorem dX6_init_1 : decode cX6_init 1 = .ok (.invokespecial 3, 3) := by decide +kernel
theorem dX6_init_4 : decode cX6_init 4 = .ok (.aload_n 0, 1) := by decide +kernel
theorem dX6_init_5 : decode cX6_init 5 = .ok (.bipush 6, 2) := by decide +kernel
theorem dX6_init_7 : decode cX6_init 7 = .ok (.newarray .long, 2) := by decide +kernel
theorem dX6_init_9 : decode cX6_init 9 = .ok (.putfield 9, 3) := by decide +kernel
theorem dX6_init_12 : decode cX6_init 12 = .ok (.return_, 1) := by decide +kernel
theorem dX6_startAt_0 : decode cX6_startAt 0 = .ok (.aload_n 0, 1) := by decide +kernel
theorem dX6_startAt_1 : decode cX6_startAt 1 = .ok (.iload_n 1, 1) := by decide +kernel
theorem dX6_startAt_2 : decode cX6_startAt 2 = .ok (.putfield 15, 3) := by decide +kernel
theorem dX6_startAt_5 : decode cX6_startAt 5 = .ok (.aload_n 0, 1) := by decide +kernel
theorem dX6_startAt_6 : decode cX6_startAt 6 = .ok (.iconst 0, 1) := by decide +kernel
theorem dX6_startAt_7 : decode cX6_startAt 7 = .ok (.putfield 19, 3) := by decide +kernel
theorem dX6_startAt_10 : decode cX6_startAt 10 = .ok (.return_, 1) := by decide +kernel
theorem dX6_append_0 : decode cX6_append 0 = .ok (.aload_n 0, 1) := by decide +kernel
theorem dX6_append_1 : decode cX6_append 1 = .ok (.getfield 19, 3) := by decide +kernel
theorem dX6_append_4 : decode cX6_append 4 = .ok (.ifCond .lt 35, 3) := by decide +kernel
theorem dX6_append_7 : decode cX6_append 7 = .ok (.aload_n 0, 1) := by decide +kernel
theorem dX6_append_8 : decode cX6_append 8 = .ok (.getfield 19, 3) := by decide +kernel
theorem dX6_append_11 : decode cX6_append 11 = .ok (.aload_n 0, 1) := by decide +kernel
theorem dX6_append_12 : decode cX6_append 12 = .ok (.getfield 9, 3) := by decide +kernel
theorem dX6_append_15 : decode cX6_append 15 = .ok (.arraylength, 1) := by decide +kernel
theorem dX6_append_16 : decode cX6_append 16 = .ok (.if_icmp .ge 23, 3) := by decide +kernel
theorem dX6_append_19 : decode cX6_append 19 = .ok (.aload_n 0, 1) := by decide +kernel
theorem dX6_append_20 : decode cX6_append 20 = .ok (.getfield 9, 3) := by decide +kernel
theorem dX6_append_23 : decode cX6_append 23 = .ok (.aload_n 0, 1) := by decide +kernel
theorem dX6_append_24 : decode cX6_append 24 = .ok (.getfield 19, 3) := by decide +kernel
theorem dX6_append_27 : decode cX6_append 27 = .ok (.lload_n 1, 1) := by decide +kernel
theorem dX6_append_28 : decode cX6_append 28 = .ok (.lastore, 1) := by decide +kernel
theorem dX6_append_29 : decode cX6_append 29 = .ok (.aload_n 0, 1) := by decide +kernel
theorem dX6_append_30 : decode cX6_append 30 = .ok (.dup, 1) := by decide +kernel
theorem dX6_append_31 : decode cX6_append 31 = .ok (.getfield 19, 3) := by decide +kernel
theorem dX6_append_34 : decode cX6_append 34 = .ok (.iconst 1, 1) := by decide +kernel
theorem dX6_append_35 : decode cX6_append 35 = .ok (.iadd, 1) := by decide +kernel
theorem dX6_append_36 : decode cX6_append 36 = .ok (.putfield 19, 3) := by decide +kernel
theorem dX6_append_39 : decode cX6_append 39 = .ok (.return_, 1) := by decide +kernel
theorem dX6_numberAt_0 : decode cX6_numberAt 0 = .ok (.iload_n 1, 1) := by decide +kernel
theorem dX6_numberAt_1 : decode cX6_numberAt 1 = .ok (.ifCond .lt 21, 3) := by decide +kernel
theorem dX6_numberAt_4 : decode cX6_numberAt 4 = .ok (.iload_n 1, 1) := by decide +kernel
theorem dX6_numberAt_5 : decode cX6_numberAt 5 = .ok (.aload_n 0, 1) := by decide +kernel
theorem dX6_numberAt_6 : decode cX6_numberAt 6 = .ok (.getfield 9, 3) := by decide +kernel
theorem dX6_numberAt_9 : decode cX6_numberAt 9 = .ok (.arraylength, 1) := by decide +kernel
theorem dX6_numberAt_10 : decode cX6_numberAt 10 = .ok (.if_icmp .ge 12, 3) := by decide +kernel
theorem dX6_numberAt_13 : decode cX6_numberAt 13 = .ok (.aload_n 0, 1) := by decide +kernel
theorem dX6_numberAt_14 : decode cX6_numberAt 14 = .ok (.getfield 9, 3) := by decide +kernel
theorem dX6_numberAt_17 : decode cX6_numberAt 17 = .ok (.iload_n 1, 1) := by decide +kernel
theorem dX6_numberAt_18 : decode cX6_numberAt 18 = .ok (.laload, 1) := by decide +kernel
theorem dX6_numberAt_19 : decode cX6_numberAt 19 = .ok (.goto 4, 3) := by decide +kernel
theorem dX6_numberAt_22 : decode cX6_numberAt 22 = .ok (.lconst 0, 1) := by decide +kernel
theorem dX6_numberAt_23 : decode cX6_numberAt 23 = .ok (.lreturn, 1) := by decide +kernel
theorem dX6_copyFrom_0 : decode cX6_copyFrom 0 = .ok (.aload_n 0, 1) := by decide +kernel
theorem dX6_copyFrom_1 : decode cX6_copyFrom 1 = .ok (.aload_n 1, 1) := by decide +kernel
theorem dX6_copyFrom_2 : decode cX6_copyFrom 2 = .ok (.getfield 15, 3) := by decide +kernel
theorem dX6_copyFrom_5 : decode cX6_copyFrom 5 = .ok (.putfield 15, 3) := by decide +kernel
theorem dX6_copyFrom_8 : decode cX6_copyFrom 8 = .ok (.aload_n 0, 1) := by decide +kernel
theorem dX6_copyFrom_9 : decode cX6_copyFrom 9 = .ok (.aload_n 1, 1) := by decide +kernel
theorem dX6_copyFrom_10 : decode cX6_copyFrom 10 = .ok (.getfield 19, 3) := by decide +kernel
theorem dX6_copyFrom_13 : decode cX6_copyFrom 13 = .ok (.putfield 19, 3) := by decide +kernel
theorem dX6_copyFrom_16 : decode cX6_copyFrom 16 = .ok (.iconst 0, 1) := by decide +kernel
theorem dX6_copyFrom_17 : decode cX6_copyFrom 17 = .ok (.istore_n 2, 1) := by decide +kernel
theorem dX6_copyFrom_18 : decode cX6_copyFrom 18 = .ok (.iload_n 2, 1) := by decide +kernel
theorem dX6_copyFrom_19 : decode cX6_copyFrom 19 = .ok (.aload_n 0, 1) := by decide +kernel
theorem dX6_copyFrom_20 : decode cX6_copyFrom 20 = .ok (.getfield 9, 3) := by decide +kernel
theorem dX6_copyFrom_23 : decode cX6_copyFrom 23 = .ok (.arraylength, 1) := by decide +kernel
theorem dX6_copyFrom_24 : decode cX6_copyFrom 24 = .ok (.if_icmp .ge 30, 3) := by decide +kernel
theorem dX6_copyFrom_27 : decode cX6_copyFrom 27 = .ok (.iload_n 2, 1) := by decide +kernel
theorem dX6_copyFrom_28 : decode cX6_copyFrom 28 = .ok (.aload_n 1, 1) := by decide +kernel
theorem dX6_copyFrom_29 : decode cX6_copyFrom 29 = .ok (.getfield 9, 3) := by decide +kernel
theorem dX6_copyFrom_32 : decode cX6_copyFrom 32 = .ok (.arraylength, 1) := by decide +kernel
theorem dX6_copyFrom_33 : decode cX6_copyFrom 33 = .ok (.if_icmp .ge 21, 3) := by decide +kernel
theorem dX6_copyFrom_36 : decode cX6_copyFrom 36 = .ok (.aload_n 0, 1) := by decide +kernel
theorem dX6_copyFrom_37 : decode cX6_copyFrom 37 = .ok (.getfield 9, 3) := by decide +kernel
theorem dX6_copyFrom_40 : decode cX6_copyFrom 40 = .ok (.iload_n 2, 1) := by decide +kernel
theorem dX6_copyFrom_41 : decode cX6_copyFrom 41 = .ok (.aload_n 1, 1) := by decide +kernel
theorem dX6_copyFrom_42 : decode cX6_copyFrom 42 = .ok (.getfield 9, 3) := by decide +kernel
theorem dX6_copyFrom_45 : decode cX6_copyFrom 45 = .ok (.iload_n 2, 1) := by decide +kernel
theorem dX6_copyFrom_46 : decode cX6_copyFrom 46 = .ok (.laload, 1) := by decide +kernel
theorem dX6_copyFrom_47 : decode cX6_copyFrom 47 = .ok (.lastore, 1) := by decide +kernel
theorem dX6_copyFrom_48 : decode cX6_copyFrom 48 = .ok (.iinc 2 1, 3) := by decide +kernel
theorem dX6_copyFrom_51 : decode cX6_copyFrom 51 = .ok (.goto (-33), 3) := by decide +kernel
theorem dX6_copyFrom_54 : decode cX6_copyFrom 54 = .ok (.return_, 1) := by decide +kernel
theorem dX6_mixedInto_0 : decode cX6_mixedInto 0 = .ok (.lload_n 1, 1) := by decide +kernel
theorem dX6_mixedInto_1 : decode cX6_mixedInto 1 = .ok (.ldc2_w 22, 3) := by decide +kernel
theorem dX6_mixedInto_4 : decode cX6_mixedInto 4 = .ok (.lmul, 1) := by decide +kernel
theorem dX6_mixedInto_5 : decode cX6_mixedInto 5 = .ok (.aload_n 0, 1) := by decide +kernel
theorem dX6_mixedInto_6 : decode cX6_mixedInto 6 = .ok (.getfield 24, 3) := by decide +kernel
theorem dX6_mixedInto_9 : decode cX6_mixedInto 9 = .ok (.i2l, 1) := by decide +kernel
theorem dX6_mixedInto_10 : decode cX6_mixedInto 10 = .ok (.ladd, 1) := by decide +kernel
theorem dX6_mixedInto_11 : decode cX6_mixedInto 11 = .ok (.ldc2_w 22, 3) := by decide +kernel
theorem dX6_mixedInto_14 : decode cX6_mixedInto 14 = .ok (.lmul, 1) := by decide +kernel
theorem dX6_mixedInto_15 : decode cX6_mixedInto 15 = .ok (.aload_n 0, 1) := by decide +kernel
theorem dX6_mixedInto_16 : decode cX6_mixedInto 16 = .ok (.getfield 27, 3) := by decide +kernel
theorem dX6_mixedInto_19 : decode cX6_mixedInto 19 = .ok (.i2l, 1) := by decide +kernel
theorem dX6_mixedInto_20 : decode cX6_mixedInto 20 = .ok (.ladd, 1) := by decide +kernel
theorem dX6_mixedInto_21 : decode cX6_mixedInto 21 = .ok (.lstore_n 3, 1) := by decide +kernel
theorem dX6_mixedInto_22 : decode cX6_mixedInto 22 = .ok (.lload_n 3, 1) := by decide +kernel
theorem dX6_mixedInto_23 : decode cX6_mixedInto 23 = .ok (.ldc2_w 22, 3) := by decide +kernel
theorem dX6_mixedInto_26 : decode cX6_mixedInto 26 = .ok (.lmul, 1) := by decide +kernel
theorem dX6_mixedInto_27 : decode cX6_mixedInto 27 = .ok (.aload_n 0, 1) := by decide +kernel
theorem dX6_mixedInto_28 : decode cX6_mixedInto 28 = .ok (.getfield 15, 3) := by decide +kernel
theorem dX6_mixedInto_31 : decode cX6_mixedInto 31 = .ok (.i2l, 1) := by decide +kernel
theorem dX6_mixedInto_32 : decode cX6_mixedInto 32 = .ok (.ladd, 1) := by decide +kernel
theorem dX6_mixedInto_33 : decode cX6_mixedInto 33 = .ok (.lstore_n 3, 1) := by decide +kernel
theorem dX6_mixedInto_34 : decode cX6_mixedInto 34 = .ok (.iconst 0, 1) := by decide +kernel
theorem dX6_mixedInto_35 : decode cX6_mixedInto 35 = .ok (.istore 5, 2) := by decide +kernel
theorem dX6_mixedInto_37 : decode cX6_mixedInto 37 = .ok (.iload 5, 2) := by decide +kernel
theorem dX6_mixedInto_39 : decode cX6_mixedInto 39 = .ok (.aload_n 0, 1) := by decide +kernel
theorem dX6_mixedInto_40 : decode cX6_mixedInto 40 = .ok (.getfield 19, 3) := by decide +kernel
theorem dX6_mixedInto_43 : decode cX6_mixedInto 43 = .ok (.if_icmp .ge 22, 3) := by decide +kernel
theorem dX6_mixedInto_46 : decode cX6_mixedInto 46 = .ok (.lload_n 3, 1) := by decide +kernel
theorem dX6_mixedInto_47 : decode cX6_mixedInto 47 = .ok (.ldc2_w 22, 3) := by decide +kernel
theorem dX6_mixedInto_50 : decode cX6_mixedInto 50 = .ok (.lmul, 1) := by decide +kernel
theorem dX6_mixedInto_51 : decode cX6_mixedInto 51 = .ok (.aload_n 0, 1) := by decide +kernel
theorem dX6_mixedInto_52 : decode cX6_mixedInto 52 = .ok (.iload 5, 2) := by decide +kernel
theorem dX6_mixedInto_54 : decode cX6_mixedInto 54 = .ok (.invokevirtual 30, 3) := by decide +kernel
theorem dX6_mixedInto_57 : decode cX6_mixedInto 57 = .ok (.ladd, 1) := by decide +kernel
theorem dX6_mixedInto_58 : decode cX6_mixedInto 58 = .ok (.lstore_n 3, 1) := by decide +kernel
theorem dX6_mixedInto_59 : decode cX6_mixedInto 59 = .ok (.iinc 5 1, 3) := by decide +kernel
theorem dX6_mixedInto_62 : decode cX6_mixedInto 62 = .ok (.goto (-25), 3) := by decide +kernel
theorem dX6_mixedInto_65 : decode cX6_mixedInto 65 = .ok (.lload_n 3, 1) := by decide +kernel
theorem dX6_mixedInto_66 : decode cX6_mixedInto 66 = .ok (.lreturn, 1) := by decide +kernel
theorem dX7_init_0 : decode cX7_init 0 = .ok (.aload_n 0, 1) := by decide +kernel
theorem dX7_init_1 : decode cX7_init 1 = .ok (.invokespecial 3, 3) := by decide +kernel
theorem dX7_init_4 : decode cX7_init 4 = .ok (.aload_n 0, 1) := by decide +kernel
theorem dX7_init_5 : decode cX7_init 5 = .ok (.bipush 6, 2) := by decide +kernel
theorem dX7_init_7 : decode cX7_init 7 = .ok (.newarray .long, 2) := by decide +kernel
theorem dX7_init_9 : decode cX7_init 9 = .ok (.putfield 9, 3) := by decide +kernel
theorem dX7_init_12 : decode cX7_init 12 = .ok (.aload_n 0, 1) := by decide +kernel
theorem dX7_init_13 : decode cX7_init 13 = .ok (.iconst 2, 1) := by decide +kernel
theorem dX7_init_14 : decode cX7_init 14 = .ok (.newarray .int, 2) := by decide +kernel
theorem dX7_init_16 : decode cX7_init 16 = .ok (.putfield 15, 3) := by decide +kernel
theorem dX7_init_19 : decode cX7_init 19 = .ok (.aload_n 0, 1) := by decide +kernel
theorem dX7_init_20 : decode cX7_init 20 = .ok (.bipush 6, 2) := by decide +kernel
theorem dX7_init_22 : decode cX7_init 22 = .ok (.newarray .int, 2) := by decide +kernel
theorem dX7_init_24 : decode cX7_init 24 = .ok (.putfield 19, 3) := by decide +kernel
theorem dX7_init_27 : decode cX7_init 27 = .ok (.aload_n 0, 1) := by decide +kernel
theorem dX7_init_28 : decode cX7_init 28 = .ok (.bipush 6, 2) := by decide +kernel
theorem dX7_init_30 : decode cX7_init 30 = .ok (.newarray .int, 2) := by decide +kernel
theorem dX7_init_32 : decode cX7_init 32 = .ok (.putfield 22, 3) := by decide +kernel
theorem dX7_init_35 : decode cX7_init 35 = .ok (.aload_n 0, 1) := by decide +kernel
theorem dX7_init_36 : decode cX7_init 36 = .ok (.bipush 6, 2) := by decide +kernel
theorem dX7_init_38 : decode cX7_init 38 = .ok (.newarray .int, 2) := by decide +kernel
theorem dX7_init_40 : decode cX7_init 40 = .ok (.putfield 25, 3) := by decide +kernel
theorem dX7_init_43 : decode cX7_init 43 = .ok (.aload_n 0, 1) := by decide +kernel
theorem dX7_init_44 : decode cX7_init 44 = .ok (.new 28, 3) := by decide +kernel
theorem dX7_init_47 : decode cX7_init 47 = .ok (.dup, 1) := by decide +kernel
theorem dX7_init_48 : decode cX7_init 48 = .ok (.invokespecial 30, 3) := by decide +kernel
theorem dX7_init_51 : decode cX7_init 51 = .ok (.putfield 31, 3) := by decide +kernel
theorem dX7_init_54 : decode cX7_init 54 = .ok (.aload_n 0, 1) := by decide +kernel
theorem dX7_init_55 : decode cX7_init 55 = .ok (.iconst 2, 1) := by decide +kernel
theorem dX7_init_56 : decode cX7_init 56 = .ok (.newarray .int, 2) := by decide +kernel
theorem dX7_init_58 : decode cX7_init 58 = .ok (.putfield 35, 3) := by decide +kernel
theorem dX7_init_61 : decode cX7_init 61 = .ok (.aload_n 0, 1) := by decide +kernel
theorem dX7_init_62 : decode cX7_init 62 = .ok (.sipush 200, 3) := by decide +kernel
theorem dX7_init_65 : decode cX7_init 65 = .ok (.newarray .boolean, 2) := by decide +kernel
theorem dX7_init_67 : decode cX7_init 67 = .ok (.putfield 38, 3) := by decide +kernel
theorem dX7_init_70 : decode cX7_init 70 = .ok (.aload_n 0, 1) := by decide +kernel
theorem dX7_init_71 : decode cX7_init 71 = .ok (.new 42, 3) := by decide +kernel
theorem dX7_init_74 : decode cX7_init 74 = .ok (.dup, 1) := by decide +kernel
theorem dX7_init_75 : decode cX7_init 75 = .ok (.invokespecial 44, 3) := by decide +kernel
theorem dX7_init_78 : decode cX7_init 78 = .ok (.putfield 45, 3) := by decide +kernel
theorem dX7_init_81 : decode cX7_init 81 = .ok (.return_, 1) := by decide +kernel
theorem dX7_clear_0 : decode cX7_clear 0 = .ok (.aload_n 0, 1) := by decide +kernel
theorem dX7_clear_1 : decode cX7_clear 1 = .ok (.iconst 0, 1) := by decide +kernel
theorem dX7_clear_2 : decode cX7_clear 2 = .ok (.putfield 49, 3) := by decide +kernel
theorem dX7_clear_5 : decode cX7_clear 5 = .ok (.aload_n 0, 1) := by decide +kernel
theorem dX7_clear_6 : decode cX7_clear 6 = .ok (.getfield 15, 3) := by decide +kernel
theorem dX7_clear_9 : decode cX7_clear 9 = .ok (.iconst 0, 1) := by decide +kernel
theorem dX7_clear_10 : decode cX7_clear 10 = .ok (.iconst (-1), 1) := by decide +kernel
theorem dX7_clear_11 : decode cX7_clear 11 = .ok (.iastore, 1) := by decide +kernel
theorem dX7_clear_12 : decode cX7_clear 12 = .ok (.aload_n 0, 1) := by decide +kernel
