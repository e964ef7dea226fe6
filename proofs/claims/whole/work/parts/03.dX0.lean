theorem dX0_init_0 : decode cX0_init 0 = .ok (.aload_n 0, 1) := by decide +kernel
theorem dX0_init_1 : decode cX0_init 1 = .ok (.invokespecial 5, 3) := by decide +kernel
theorem dX0_init_4 : decode cX0_init 4 = .ok (.aload_n 0, 1) := by decide +kernel
theorem dX0_init_5 : decode cX0_init 5 = .ok (.sipush 4440, 3) := by decide +kernel
theorem dX0_init_8 : decode cX0_init 8 = .ok (.newarray .long, 2) := by decide +kernel
theorem dX0_init_10 : decode cX0_init 10 = .ok (.putfield 11, 3) := by decide +kernel
theorem dX0_init_13 : decode cX0_init 13 = .ok (.aload_n 0, 1) := by decide +kernel
theorem dX0_init_14 : decode cX0_init 14 = .ok (.sipush 164, 3) := by decide +kernel
theorem dX0_init_17 : decode cX0_init 17 = .ok (.newarray .int, 2) := by decide +kernel
theorem dX0_init_19 : decode cX0_init 19 = .ok (.putfield 15, 3) := by decide +kernel
theorem dX0_init_22 : decode cX0_init 22 = .ok (.aload_n 0, 1) := by decide +kernel
theorem dX0_init_23 : decode cX0_init 23 = .ok (.sipush 164, 3) := by decide +kernel
theorem dX0_init_26 : decode cX0_init 26 = .ok (.newarray .int, 2) := by decide +kernel
theorem dX0_init_28 : decode cX0_init 28 = .ok (.putfield 19, 3) := by decide +kernel
theorem dX0_init_31 : decode cX0_init 31 = .ok (.aload_n 0, 1) := by decide +kernel
theorem dX0_init_32 : decode cX0_init 32 = .ok (.sipush 164, 3) := by decide +kernel
theorem dX0_init_35 : decode cX0_init 35 = .ok (.newarray .int, 2) := by decide +kernel
theorem dX0_init_37 : decode cX0_init 37 = .ok (.putfield 22, 3) := by decide +kernel
theorem dX0_init_40 : decode cX0_init 40 = .ok (.aload_n 0, 1) := by decide +kernel
theorem dX0_init_41 : decode cX0_init 41 = .ok (.iconst 5, 1) := by decide +kernel
theorem dX0_init_42 : decode cX0_init 42 = .ok (.newarray .int, 2) := by decide +kernel
theorem dX0_init_44 : decode cX0_init 44 = .ok (.putfield 25, 3) := by decide +kernel
theorem dX0_init_47 : decode cX0_init 47 = .ok (.aload_n 0, 1) := by decide +kernel
theorem dX0_init_48 : decode cX0_init 48 = .ok (.aload_n 1, 1) := by decide +kernel
theorem dX0_init_49 : decode cX0_init 49 = .ok (.putfield 28, 3) := by decide +kernel
theorem dX0_init_52 : decode cX0_init 52 = .ok (.aload_n 0, 1) := by decide +kernel
theorem dX0_init_53 : decode cX0_init 53 = .ok (.aload_n 2, 1) := by decide +kernel
theorem dX0_init_54 : decode cX0_init 54 = .ok (.putfield 32, 3) := by decide +kernel
theorem dX0_init_57 : decode cX0_init 57 = .ok (.aload_n 0, 1) := by decide +kernel
theorem dX0_init_58 : decode cX0_init 58 = .ok (.iconst 0, 1) := by decide +kernel
theorem dX0_init_59 : decode cX0_init 59 = .ok (.putfield 36, 3) := by decide +kernel
theorem dX0_init_62 : decode cX0_init 62 = .ok (.return_, 1) := by decide +kernel
theorem dX0_latest_0 : decode cX0_latest 0 = .ok (.iload_n 1, 1) := by decide +kernel
theorem dX0_latest_1 : decode cX0_latest 1 = .ok (.ifCond .lt 8, 3) := by decide +kernel
theorem dX0_latest_4 : decode cX0_latest 4 = .ok (.iload_n 1, 1) := by decide +kernel
theorem dX0_latest_5 : decode cX0_latest 5 = .ok (.iconst 5, 1) := by decide +kernel
theorem dX0_latest_6 : decode cX0_latest 6 = .ok (.if_icmp .lt 6, 3) := by decide +kernel
theorem dX0_latest_9 : decode cX0_latest 9 = .ok (.bipush (-2), 2) := by decide +kernel
theorem dX0_latest_11 : decode cX0_latest 11 = .ok (.ireturn, 1) := by decide +kernel
theorem dX0_latest_12 : decode cX0_latest 12 = .ok (.aload_n 0, 1) := by decide +kernel
theorem dX0_latest_13 : decode cX0_latest 13 = .ok (.getfield 36, 3) := by decide +kernel
theorem dX0_latest_16 : decode cX0_latest 16 = .ok (.ifCond .eq 12, 3) := by decide +kernel
theorem dX0_latest_19 : decode cX0_latest 19 = .ok (.aload_n 0, 1) := by decide +kernel
theorem dX0_latest_20 : decode cX0_latest 20 = .ok (.getfield 25, 3) := by decide +kernel
theorem dX0_latest_23 : decode cX0_latest 23 = .ok (.iload_n 1, 1) := by decide +kernel
theorem dX0_latest_24 : decode cX0_latest 24 = .ok (.iaload, 1) := by decide +kernel
theorem dX0_latest_25 : decode cX0_latest 25 = .ok (.goto 5, 3) := by decide +kernel
theorem dX0_latest_28 : decode cX0_latest 28 = .ok (.bipush (-3), 2) := by decide +kernel
theorem dX0_latest_30 : decode cX0_latest 30 = .ok (.ireturn, 1) := by decide +kernel
theorem dX0_run_0 : decode cX0_run 0 = .ok (.aload_n 0, 1) := by decide +kernel
theorem dX0_run_1 : decode cX0_run 1 = .ok (.invokevirtual 40, 3) := by decide +kernel
theorem dX0_run_4 : decode cX0_run 4 = .ok (.aload_n 0, 1) := by decide +kernel
theorem dX0_run_5 : decode cX0_run 5 = .ok (.iload_n 1, 1) := by decide +kernel
theorem dX0_run_6 : decode cX0_run 6 = .ok (.iload_n 2, 1) := by decide +kernel
theorem dX0_run_7 : decode cX0_run 7 = .ok (.invokevirtual 43, 3) := by decide +kernel
theorem dX0_run_10 : decode cX0_run 10 = .ok (.istore_n 3, 1) := by decide +kernel
theorem dX0_run_11 : decode cX0_run 11 = .ok (.iconst 0, 1) := by decide +kernel
theorem dX0_run_12 : decode cX0_run 12 = .ok (.istore 4, 2) := by decide +kernel
theorem dX0_run_14 : decode cX0_run 14 = .ok (.iload 4, 2) := by decide +kernel
theorem dX0_run_16 : decode cX0_run 16 = .ok (.ldc 47, 2) := by decide +kernel
theorem dX0_run_18 : decode cX0_run 18 = .ok (.if_icmp .ge 40, 3) := by decide +kernel
theorem dX0_run_21 : decode cX0_run 21 = .ok (.aload_n 0, 1) := by decide +kernel
theorem dX0_run_22 : decode cX0_run 22 = .ok (.getfield 48, 3) := by decide +kernel
theorem dX0_run_25 : decode cX0_run 25 = .ok (.ifCond .le 33, 3) := by decide +kernel
theorem dX0_run_28 : decode cX0_run 28 = .ok (.iload_n 3, 1) := by decide +kernel
theorem dX0_run_29 : decode cX0_run 29 = .ok (.bipush (-6), 2) := by decide +kernel
theorem dX0_run_31 : decode cX0_run 31 = .ok (.if_icmp .eq 27, 3) := by decide +kernel
theorem dX0_run_34 : decode cX0_run 34 = .ok (.iload_n 3, 1) := by decide +kernel
theorem dX0_run_35 : decode cX0_run 35 = .ok (.iconst 2, 1) := by decide +kernel
theorem dX0_run_36 : decode cX0_run 36 = .ok (.if_icmp .ne 10, 3) := by decide +kernel
theorem dX0_run_39 : decode cX0_run 39 = .ok (.aload_n 0, 1) := by decide +kernel
theorem dX0_run_40 : decode cX0_run 40 = .ok (.invokevirtual 52, 3) := by decide +kernel
theorem dX0_run_43 : decode cX0_run 43 = .ok (.goto 8, 3) := by decide +kernel
theorem dX0_run_46 : decode cX0_run 46 = .ok (.aload_n 0, 1) := by decide +kernel
theorem dX0_run_47 : decode cX0_run 47 = .ok (.iload_n 3, 1) := by decide +kernel
theorem dX0_run_48 : decode cX0_run 48 = .ok (.invokevirtual 56, 3) := by decide +kernel
theorem dX0_run_51 : decode cX0_run 51 = .ok (.istore_n 3, 1) := by decide +kernel
theorem dX0_run_52 : decode cX0_run 52 = .ok (.iinc 4 1, 3) := by decide +kernel
theorem dX0_run_55 : decode cX0_run 55 = .ok (.goto (-41), 3) := by decide +kernel
theorem dX0_run_58 : decode cX0_run 58 = .ok (.aload_n 0, 1) := by decide +kernel
theorem dX0_run_59 : decode cX0_run 59 = .ok (.getfield 28, 3) := by decide +kernel
theorem dX0_run_62 : decode cX0_run 62 = .ok (.invokevirtual 60, 3) := by decide +kernel
theorem dX0_run_65 : decode cX0_run 65 = .ok (.aload_n 0, 1) := by decide +kernel
theorem dX0_run_66 : decode cX0_run 66 = .ok (.getfield 48, 3) := by decide +kernel
theorem dX0_run_69 : decode cX0_run 69 = .ok (.ifCond .gt 9, 3) := by decide +kernel
theorem dX0_run_72 : decode cX0_run 72 = .ok (.iload_n 3, 1) := by decide +kernel
theorem dX0_run_73 : decode cX0_run 73 = .ok (.bipush (-6), 2) := by decide +kernel
theorem dX0_run_75 : decode cX0_run 75 = .ok (.if_icmp .ne 6, 3) := by decide +kernel
theorem dX0_run_78 : decode cX0_run 78 = .ok (.bipush (-6), 2) := by decide +kernel
theorem dX0_run_80 : decode cX0_run 80 = .ok (.ireturn, 1) := by decide +kernel
theorem dX0_run_81 : decode cX0_run 81 = .ok (.aload_n 0, 1) := by decide +kernel
theorem dX0_run_82 : decode cX0_run 82 = .ok (.iload_n 3, 1) := by decide +kernel
theorem dX0_run_83 : decode cX0_run 83 = .ok (.invokevirtual 65, 3) := by decide +kernel
theorem dX0_run_86 : decode cX0_run 86 = .ok (.iload_n 3, 1) := by decide +kernel
theorem dX0_run_87 : decode cX0_run 87 = .ok (.ireturn, 1) := by decide +kernel
theorem dX0_start_0 : decode cX0_start 0 = .ok (.aload_n 0, 1) := by decide +kernel
theorem dX0_start_1 : decode cX0_start 1 = .ok (.getfield 11, 3) := by decide +kernel
theorem dX0_start_4 : decode cX0_start 4 = .ok (.lconst 0, 1) := by decide +kernel
theorem dX0_start_5 : decode cX0_start 5 = .ok (.invokestatic 69, 3) := by decide +kernel
theorem dX0_start_8 : decode cX0_start 8 = .ok (.aload_n 0, 1) := by decide +kernel
theorem dX0_start_9 : decode cX0_start 9 = .ok (.iconst 0, 1) := by decide +kernel
theorem dX0_start_10 : decode cX0_start 10 = .ok (.putfield 48, 3) := by decide +kernel
theorem dX0_start_13 : decode cX0_start 13 = .ok (.aload_n 0, 1) := by decide +kernel
theorem dX0_start_14 : decode cX0_start 14 = .ok (.iconst 0, 1) := by decide +kernel
theorem dX0_start_15 : decode cX0_start 15 = .ok (.putfield 75, 3) := by decide +kernel
theorem dX0_start_18 : decode cX0_start 18 = .ok (.aload_n 0, 1) := by decide +kernel
theorem dX0_start_19 : decode cX0_start 19 = .ok (.iconst 0, 1) := by decide +kernel
theorem dX0_start_20 : decode cX0_start 20 = .ok (.putfield 78, 3) := by decide +kernel
theorem dX0_start_23 : decode cX0_start 23 = .ok (.aload_n 0, 1) := by decide +kernel
theorem dX0_start_24 : decode cX0_start 24 = .ok (.bipush (-9), 2) := by decide +kernel
theorem dX0_start_26 : decode cX0_start 26 = .ok (.putfield 81, 3) := by decide +kernel
theorem dX0_start_29 : decode cX0_start 29 = .ok (.aload_n 0, 1) := by decide +kernel
theorem dX0_start_30 : decode cX0_start 30 = .ok (.bipush (-9), 2) := by decide +kernel
theorem dX0_start_32 : decode cX0_start 32 = .ok (.putfield 84, 3) := by decide +kernel
theorem dX0_start_35 : decode cX0_start 35 = .ok (.return_, 1) := by decide +kernel
theorem dX0_keep_0 : decode cX0_keep 0 = .ok (.aload_n 0, 1) := by decide +kernel
theorem dX0_keep_1 : decode cX0_keep 1 = .ok (.getfield 25, 3) := by decide +kernel
theorem dX0_keep_4 : decode cX0_keep 4 = .ok (.iconst 0, 1) := by decide +kernel
theorem dX0_keep_5 : decode cX0_keep 5 = .ok (.aload_n 0, 1) := by decide +kernel
theorem dX0_keep_6 : decode cX0_keep 6 = .ok (.getfield 75, 3) := by decide +kernel
theorem dX0_keep_9 : decode cX0_keep 9 = .ok (.iastore, 1) := by decide +kernel
theorem dX0_keep_10 : decode cX0_keep 10 = .ok (.aload_n 0, 1) := by decide +kernel
theorem dX0_keep_11 : decode cX0_keep 11 = .ok (.getfield 25, 3) := by decide +kernel
theorem dX0_keep_14 : decode cX0_keep 14 = .ok (.iconst 1, 1) := by decide +kernel
theorem dX0_keep_15 : decode cX0_keep 15 = .ok (.aload_n 0, 1) := by decide +kernel
theorem dX0_keep_16 : decode cX0_keep 16 = .ok (.getfield 78, 3) := by decide +kernel
theorem dX0_keep_19 : decode cX0_keep 19 = .ok (.iastore, 1) := by decide +kernel
theorem dX0_keep_20 : decode cX0_keep 20 = .ok (.aload_n 0, 1) := by decide +kernel
theorem dX0_keep_21 : decode cX0_keep 21 = .ok (.getfield 25, 3) := by decide +kernel
theorem dX0_keep_24 : decode cX0_keep 24 = .ok (.iconst 2, 1) := by decide +kernel
theorem dX0_keep_25 : decode cX0_keep 25 = .ok (.iload_n 1, 1) := by decide +kernel
theorem dX0_keep_26 : decode cX0_keep 26 = .ok (.iconst 1, 1) := by decide +kernel
theorem dX0_keep_27 : decode cX0_keep 27 = .ok (.if_icmp .ne 8, 3) := by decide +kernel
theorem dX0_keep_30 : decode cX0_keep 30 = .ok (.bipush (-9), 2) := by decide +kernel
theorem dX0_keep_32 : decode cX0_keep 32 = .ok (.goto 7, 3) := by decide +kernel
theorem dX0_keep_35 : decode cX0_keep 35 = .ok (.aload_n 0, 1) := by decide +kernel
theorem dX0_keep_36 : decode cX0_keep 36 = .ok (.getfield 81, 3) := by decide +kernel
theorem dX0_keep_39 : decode cX0_keep 39 = .ok (.iastore, 1) := by decide +kernel
theorem dX0_keep_40 : decode cX0_keep 40 = .ok (.aload_n 0, 1) := by decide +kernel
theorem dX0_keep_41 : decode cX0_keep 41 = .ok (.getfield 25, 3) := by decide +kernel
theorem dX0_keep_44 : decode cX0_keep 44 = .ok (.iconst 3, 1) := by decide +kernel
theorem dX0_keep_45 : decode cX0_keep 45 = .ok (.iload_n 1, 1) := by decide +kernel
theorem dX0_keep_46 : decode cX0_keep 46 = .ok (.iconst 1, 1) := by decide +kernel
theorem dX0_keep_47 : decode cX0_keep 47 = .ok (.if_icmp .ne 8, 3) := by decide +kernel
theorem dX0_keep_50 : decode cX0_keep 50 = .ok (.bipush (-9), 2) := by decide +kernel
theorem dX0_keep_52 : decode cX0_keep 52 = .ok (.goto 7, 3) := by decide +kernel
theorem dX0_keep_55 : decode cX0_keep 55 = .ok (.aload_n 0, 1) := by decide +kernel
theorem dX0_keep_56 : decode cX0_keep 56 = .ok (.getfield 84, 3) := by decide +kernel
theorem dX0_keep_59 : decode cX0_keep 59 = .ok (.iastore, 1) := by decide +kernel
theorem dX0_keep_60 : decode cX0_keep 60 = .ok (.aload_n 0, 1) := by decide +kernel
theorem dX0_keep_61 : decode cX0_keep 61 = .ok (.getfield 25, 3) := by decide +kernel
theorem dX0_keep_64 : decode cX0_keep 64 = .ok (.iconst 4, 1) := by decide +kernel
theorem dX0_keep_65 : decode cX0_keep 65 = .ok (.iload_n 1, 1) := by decide +kernel
theorem dX0_keep_66 : decode cX0_keep 66 = .ok (.iastore, 1) := by decide +kernel
theorem dX0_keep_67 : decode cX0_keep 67 = .ok (.aload_n 0, 1) := by decide +kernel
theorem dX0_keep_68 : decode cX0_keep 68 = .ok (.iconst 1, 1) := by decide +kernel
theorem dX0_keep_69 : decode cX0_keep 69 = .ok (.putfield 36, 3) := by decide +kernel
theorem dX0_keep_72 : decode cX0_keep 72 = .ok (.return_, 1) := by decide +kernel
theorem dX0_meet_0 : decode cX0_meet 0 = .ok (.aload_n 0, 1) := by decide +kernel
theorem dX0_meet_1 : decode cX0_meet 1 = .ok (.getfield 28, 3) := by decide +kernel
theorem dX0_meet_4 : decode cX0_meet 4 = .ok (.iload_n 1, 1) := by decide +kernel
theorem dX0_meet_5 : decode cX0_meet 5 = .ok (.invokevirtual 87, 3) := by decide +kernel
theorem dX0_meet_8 : decode cX0_meet 8 = .ok (.ifCond .eq 14, 3) := by decide +kernel
theorem dX0_meet_11 : decode cX0_meet 11 = .ok (.aload_n 0, 1) := by decide +kernel
theorem dX0_meet_12 : decode cX0_meet 12 = .ok (.getfield 28, 3) := by decide +kernel
theorem dX0_meet_15 : decode cX0_meet 15 = .ok (.iload_n 2, 1) := by decide +kernel
theorem dX0_meet_16 : decode cX0_meet 16 = .ok (.invokevirtual 87, 3) := by decide +kernel
theorem dX0_meet_19 : decode cX0_meet 19 = .ok (.ifCond .ne 6, 3) := by decide +kernel
theorem dX0_meet_22 : decode cX0_meet 22 = .ok (.bipush (-6), 2) := by decide +kernel
theorem dX0_meet_24 : decode cX0_meet 24 = .ok (.ireturn, 1) := by decide +kernel
theorem dX0_meet_25 : decode cX0_meet 25 = .ok (.iload_n 1, 1) := by decide +kernel
theorem dX0_meet_26 : decode cX0_meet 26 = .ok (.iload_n 2, 1) := by decide +kernel
theorem dX0_meet_27 : decode cX0_meet 27 = .ok (.if_icmp .ne 5, 3) := by decide +kernel
theorem dX0_meet_30 : decode cX0_meet 30 = .ok (.iconst 1, 1) := by decide +kernel
theorem dX0_meet_31 : decode cX0_meet 31 = .ok (.ireturn, 1) := by decide +kernel
theorem dX0_meet_32 : decode cX0_meet 32 = .ok (.aload_n 0, 1) := by decide +kernel
theorem dX0_meet_33 : decode cX0_meet 33 = .ok (.iload_n 1, 1) := by decide +kernel
theorem dX0_meet_34 : decode cX0_meet 34 = .ok (.iload_n 2, 1) := by decide +kernel
theorem dX0_meet_35 : decode cX0_meet 35 = .ok (.invokevirtual 91, 3) := by decide +kernel
theorem dX0_meet_38 : decode cX0_meet 38 = .ok (.istore_n 3, 1) := by decide +kernel
theorem dX0_meet_39 : decode cX0_meet 39 = .ok (.iload_n 3, 1) := by decide +kernel
theorem dX0_meet_40 : decode cX0_meet 40 = .ok (.iconst 2, 1) := by decide +kernel
theorem dX0_meet_41 : decode cX0_meet 41 = .ok (.if_icmp .eq 5, 3) := by decide +kernel
theorem dX0_meet_44 : decode cX0_meet 44 = .ok (.iload_n 3, 1) := by decide +kernel
theorem dX0_meet_45 : decode cX0_meet 45 = .ok (.ireturn, 1) := by decide +kernel
theorem dX0_meet_46 : decode cX0_meet 46 = .ok (.aload_n 0, 1) := by decide +kernel
theorem dX0_meet_47 : decode cX0_meet 47 = .ok (.getfield 48, 3) := by decide +kernel
theorem dX0_meet_50 : decode cX0_meet 50 = .ok (.sipush 164, 3) := by decide +kernel
theorem dX0_meet_53 : decode cX0_meet 53 = .ok (.if_icmp .lt 6, 3) := by decide +kernel
theorem dX0_meet_56 : decode cX0_meet 56 = .ok (.bipush (-6), 2) := by decide +kernel
theorem dX0_meet_58 : decode cX0_meet 58 = .ok (.ireturn, 1) := by decide +kernel
theorem dX0_meet_59 : decode cX0_meet 59 = .ok (.aload_n 0, 1) := by decide +kernel
theorem dX0_meet_60 : decode cX0_meet 60 = .ok (.getfield 15, 3) := by decide +kernel
theorem dX0_meet_63 : decode cX0_meet 63 = .ok (.aload_n 0, 1) := by decide +kernel
theorem dX0_meet_64 : decode cX0_meet 64 = .ok (.getfield 48, 3) := by decide +kernel
theorem dX0_meet_67 : decode cX0_meet 67 = .ok (.iload_n 1, 1) := by decide +kernel
theorem dX0_meet_68 : decode cX0_meet 68 = .ok (.iastore, 1) := by decide +kernel
theorem dX0_meet_69 : decode cX0_meet 69 = .ok (.aload_n 0, 1) := by decide +kernel
theorem dX0_meet_70 : decode cX0_meet 70 = .ok (.getfield 19, 3) := by decide +kernel
theorem dX0_meet_73 : decode cX0_meet 73 = .ok (.aload_n 0, 1) := by decide +kernel
theorem dX0_meet_74 : decode cX0_meet 74 = .ok (.getfield 48, 3) := by decide +kernel
theorem dX0_meet_77 : decode cX0_meet 77 = .ok (.iload_n 2, 1) := by decide +kernel
theorem dX0_meet_78 : decode cX0_meet 78 = .ok (.iastore, 1) := by decide +kernel
theorem dX0_meet_79 : decode cX0_meet 79 = .ok (.aload_n 0, 1) := by decide +kernel
theorem dX0_meet_80 : decode cX0_meet 80 = .ok (.dup, 1) := by decide +kernel
theorem dX0_meet_81 : decode cX0_meet 81 = .ok (.getfield 48, 3) := by decide +kernel
theorem dX0_meet_84 : decode cX0_meet 84 = .ok (.iconst 1, 1) := by decide +kernel
theorem dX0_meet_85 : decode cX0_meet 85 = .ok (.iadd, 1) := by decide +kernel
theorem dX0_meet_86 : decode cX0_meet 86 = .ok (.putfield 48, 3) := by decide +kernel
theorem dX0_meet_89 : decode cX0_meet 89 = .ok (.aload_n 0, 1) := by decide +kernel
theorem dX0_meet_90 : decode cX0_meet 90 = .ok (.dup, 1) := by decide +kernel
theorem dX0_meet_91 : decode cX0_meet 91 = .ok (.getfield 78, 3) := by decide +kernel
theorem dX0_meet_94 : decode cX0_meet 94 = .ok (.iconst 1, 1) := by decide +kernel
theorem dX0_meet_95 : decode cX0_meet 95 = .ok (.iadd, 1) := by decide +kernel
theorem dX0_meet_96 : decode cX0_meet 96 = .ok (.putfield 78, 3) := by decide +kernel
theorem dX0_meet_99 : decode cX0_meet 99 = .ok (.iconst 2, 1) := by decide +kernel
theorem dX0_meet_100 : decode cX0_meet 100 = .ok (.ireturn, 1) := by decide +kernel
theorem dX0_begin_0 : decode cX0_begin 0 = .ok (.aload_n 0, 1) := by decide +kernel
theorem dX0_begin_1 : decode cX0_begin 1 = .ok (.getfield 28, 3) := by decide +kernel
theorem dX0_begin_4 : decode cX0_begin 4 = .ok (.aload_n 0, 1) := by decide +kernel
theorem dX0_begin_5 : decode cX0_begin 5 = .ok (.invokevirtual 94, 3) := by decide +kernel
theorem dX0_begin_8 : decode cX0_begin 8 = .ok (.invokevirtual 97, 3) := by decide +kernel
theorem dX0_begin_11 : decode cX0_begin 11 = .ok (.istore_n 1, 1) := by decide +kernel
theorem dX0_begin_12 : decode cX0_begin 12 = .ok (.aload_n 0, 1) := by decide +kernel
theorem dX0_begin_13 : decode cX0_begin 13 = .ok (.getfield 28, 3) := by decide +kernel
theorem dX0_begin_16 : decode cX0_begin 16 = .ok (.aload_n 0, 1) := by decide +kernel
theorem dX0_begin_17 : decode cX0_begin 17 = .ok (.invokevirtual 100, 3) := by decide +kernel
theorem dX0_begin_20 : decode cX0_begin 20 = .ok (.invokevirtual 97, 3) := by decide +kernel
theorem dX0_begin_23 : decode cX0_begin 23 = .ok (.istore_n 2, 1) := by decide +kernel
theorem dX0_begin_24 : decode cX0_begin 24 = .ok (.iload_n 1, 1) := by decide +kernel
theorem dX0_begin_25 : decode cX0_begin 25 = .ok (.iload_n 2, 1) := by decide +kernel
theorem dX0_begin_26 : decode cX0_begin 26 = .ok (.if_icmp .ne 9, 3) := by decide +kernel
theorem dX0_begin_29 : decode cX0_begin 29 = .ok (.aload_n 0, 1) := by decide +kernel
theorem dX0_begin_30 : decode cX0_begin 30 = .ok (.iconst 0, 1) := by decide +kernel
theorem dX0_begin_31 : decode cX0_begin 31 = .ok (.invokevirtual 103, 3) := by decide +kernel
theorem dX0_begin_34 : decode cX0_begin 34 = .ok (.ireturn, 1) := by decide +kernel
theorem dX0_begin_35 : decode cX0_begin 35 = .ok (.aload_n 0, 1) := by decide +kernel
theorem dX0_begin_36 : decode cX0_begin 36 = .ok (.getfield 32, 3) := by decide +kernel
theorem dX0_begin_39 : decode cX0_begin 39 = .ok (.iload_n 1, 1) := by decide +kernel
theorem dX0_begin_40 : decode cX0_begin 40 = .ok (.invokevirtual 106, 3) := by decide +kernel
theorem dX0_begin_43 : decode cX0_begin 43 = .ok (.istore_n 3, 1) := by decide +kernel
theorem dX0_begin_44 : decode cX0_begin 44 = .ok (.aload_n 0, 1) := by decide +kernel
theorem dX0_begin_45 : decode cX0_begin 45 = .ok (.getfield 32, 3) := by decide +kernel
theorem dX0_begin_48 : decode cX0_begin 48 = .ok (.iload_n 2, 1) := by decide +kernel
theorem dX0_begin_49 : decode cX0_begin 49 = .ok (.invokevirtual 106, 3) := by decide +kernel
theorem dX0_begin_52 : decode cX0_begin 52 = .ok (.istore 4, 2) := by decide +kernel
theorem dX0_begin_54 : decode cX0_begin 54 = .ok (.iload_n 3, 1) := by decide +kernel
theorem dX0_begin_55 : decode cX0_begin 55 = .ok (.ifCond .gt 8, 3) := by decide +kernel
theorem dX0_begin_58 : decode cX0_begin 58 = .ok (.iload 4, 2) := by decide +kernel
theorem dX0_begin_60 : decode cX0_begin 60 = .ok (.ifCond .le 30, 3) := by decide +kernel
theorem dX0_begin_63 : decode cX0_begin 63 = .ok (.aload_n 0, 1) := by decide +kernel
theorem dX0_begin_64 : decode cX0_begin 64 = .ok (.iload_n 3, 1) := by decide +kernel
theorem dX0_begin_65 : decode cX0_begin 65 = .ok (.iload 4, 2) := by decide +kernel
theorem dX0_begin_67 : decode cX0_begin 67 = .ok (.if_icmp .lt 7, 3) := by decide +kernel
theorem dX0_begin_70 : decode cX0_begin 70 = .ok (.iconst 1, 1) := by decide +kernel
theorem dX0_begin_71 : decode cX0_begin 71 = .ok (.goto 4, 3) := by decide +kernel
theorem dX0_begin_74 : decode cX0_begin 74 = .ok (.iconst 0, 1) := by decide +kernel
theorem dX0_begin_75 : decode cX0_begin 75 = .ok (.iload 4, 2) := by decide +kernel
theorem dX0_begin_77 : decode cX0_begin 77 = .ok (.iload_n 3, 1) := by decide +kernel
theorem dX0_begin_78 : decode cX0_begin 78 = .ok (.if_icmp .lt 7, 3) := by decide +kernel
theorem dX0_begin_81 : decode cX0_begin 81 = .ok (.iconst 1, 1) := by decide +kernel
theorem dX0_begin_82 : decode cX0_begin 82 = .ok (.goto 4, 3) := by decide +kernel
theorem dX0_begin_85 : decode cX0_begin 85 = .ok (.iconst 0, 1) := by decide +kernel
theorem dX0_begin_86 : decode cX0_begin 86 = .ok (.invokevirtual 111, 3) := by decide +kernel
theorem dX0_begin_89 : decode cX0_begin 89 = .ok (.ireturn, 1) := by decide +kernel
theorem dX0_begin_90 : decode cX0_begin 90 = .ok (.aload_n 0, 1) := by decide +kernel
theorem dX0_begin_91 : decode cX0_begin 91 = .ok (.iload_n 1, 1) := by decide +kernel
theorem dX0_begin_92 : decode cX0_begin 92 = .ok (.putfield 81, 3) := by decide +kernel
theorem dX0_begin_95 : decode cX0_begin 95 = .ok (.aload_n 0, 1) := by decide +kernel
theorem dX0_begin_96 : decode cX0_begin 96 = .ok (.iload_n 2, 1) := by decide +kernel
theorem dX0_begin_97 : decode cX0_begin 97 = .ok (.putfield 84, 3) := by decide +kernel
theorem dX0_begin_100 : decode cX0_begin 100 = .ok (.aload_n 0, 1) := by decide +kernel
theorem dX0_begin_101 : decode cX0_begin 101 = .ok (.iconst 0, 1) := by decide +kernel
theorem dX0_begin_102 : decode cX0_begin 102 = .ok (.invokevirtual 115, 3) := by decide +kernel
theorem dX0_begin_105 : decode cX0_begin 105 = .ok (.ireturn, 1) := by decide +kernel
theorem dX0_goOn_0 : decode cX0_goOn 0 = .ok (.aload_n 0, 1) := by decide +kernel
theorem dX0_goOn_1 : decode cX0_goOn 1 = .ok (.invokevirtual 118, 3) := by decide +kernel
theorem dX0_goOn_4 : decode cX0_goOn 4 = .ok (.istore_n 2, 1) := by decide +kernel
theorem dX0_goOn_5 : decode cX0_goOn 5 = .ok (.iload_n 2, 1) := by decide +kernel
theorem dX0_goOn_6 : decode cX0_goOn 6 = .ok (.iconst 2, 1) := by decide +kernel
theorem dX0_goOn_7 : decode cX0_goOn 7 = .ok (.if_icmp .ne 9, 3) := by decide +kernel
theorem dX0_goOn_10 : decode cX0_goOn 10 = .ok (.aload_n 0, 1) := by decide +kernel
theorem dX0_goOn_11 : decode cX0_goOn 11 = .ok (.iload_n 1, 1) := by decide +kernel
theorem dX0_goOn_12 : decode cX0_goOn 12 = .ok (.invokevirtual 115, 3) := by decide +kernel
theorem dX0_goOn_15 : decode cX0_goOn 15 = .ok (.ireturn, 1) := by decide +kernel
theorem dX0_goOn_16 : decode cX0_goOn 16 = .ok (.aload_n 0, 1) := by decide +kernel
theorem dX0_goOn_17 : decode cX0_goOn 17 = .ok (.getfield 28, 3) := by decide +kernel
theorem dX0_goOn_20 : decode cX0_goOn 20 = .ok (.aload_n 0, 1) := by decide +kernel
theorem dX0_goOn_21 : decode cX0_goOn 21 = .ok (.invokevirtual 94, 3) := by decide +kernel
theorem dX0_goOn_24 : decode cX0_goOn 24 = .ok (.invokevirtual 97, 3) := by decide +kernel
theorem dX0_goOn_27 : decode cX0_goOn 27 = .ok (.istore_n 3, 1) := by decide +kernel
theorem dX0_goOn_28 : decode cX0_goOn 28 = .ok (.iload_n 1, 1) := by decide +kernel
theorem dX0_goOn_29 : decode cX0_goOn 29 = .ok (.ifCond .ne 29, 3) := by decide +kernel
theorem dX0_goOn_32 : decode cX0_goOn 32 = .ok (.aload_n 0, 1) := by decide +kernel
theorem dX0_goOn_33 : decode cX0_goOn 33 = .ok (.getfield 32, 3) := by decide +kernel
theorem dX0_goOn_36 : decode cX0_goOn 36 = .ok (.iload_n 3, 1) := by decide +kernel
theorem dX0_goOn_37 : decode cX0_goOn 37 = .ok (.invokevirtual 121, 3) := by decide +kernel
theorem dX0_goOn_40 : decode cX0_goOn 40 = .ok (.ifCond .eq 12, 3) := by decide +kernel
theorem dX0_goOn_43 : decode cX0_goOn 43 = .ok (.aload_n 0, 1) := by decide +kernel
theorem dX0_goOn_44 : decode cX0_goOn 44 = .ok (.iconst 1, 1) := by decide +kernel
theorem dX0_goOn_45 : decode cX0_goOn 45 = .ok (.iconst 1, 1) := by decide +kernel
theorem dX0_goOn_46 : decode cX0_goOn 46 = .ok (.invokevirtual 111, 3) := by decide +kernel
theorem dX0_goOn_49 : decode cX0_goOn 49 = .ok (.goto 8, 3) := by decide +kernel
theorem dX0_goOn_52 : decode cX0_goOn 52 = .ok (.aload_n 0, 1) := by decide +kernel
theorem dX0_goOn_53 : decode cX0_goOn 53 = .ok (.iconst 0, 1) := by decide +kernel
theorem dX0_goOn_54 : decode cX0_goOn 54 = .ok (.invokevirtual 115, 3) := by decide +kernel
theorem dX0_goOn_57 : decode cX0_goOn 57 = .ok (.ireturn, 1) := by decide +kernel
theorem dX0_goOn_58 : decode cX0_goOn 58 = .ok (.iload_n 2, 1) := by decide +kernel
theorem dX0_goOn_59 : decode cX0_goOn 59 = .ok (.iconst 1, 1) := by decide +kernel
theorem dX0_goOn_60 : decode cX0_goOn 60 = .ok (.iadd, 1) := by decide +kernel
theorem dX0_goOn_61 : decode cX0_goOn 61 = .ok (.aload_n 0, 1) := by decide +kernel
theorem dX0_goOn_62 : decode cX0_goOn 62 = .ok (.getfield 32, 3) := by decide +kernel
theorem dX0_goOn_65 : decode cX0_goOn 65 = .ok (.iload_n 3, 1) := by decide +kernel
theorem dX0_goOn_66 : decode cX0_goOn 66 = .ok (.invokevirtual 124, 3) := by decide +kernel
theorem dX0_goOn_69 : decode cX0_goOn 69 = .ok (.if_icmp .ge 13, 3) := by decide +kernel
theorem dX0_goOn_72 : decode cX0_goOn 72 = .ok (.aload_n 0, 1) := by decide +kernel
theorem dX0_goOn_73 : decode cX0_goOn 73 = .ok (.iload_n 2, 1) := by decide +kernel
theorem dX0_goOn_74 : decode cX0_goOn 74 = .ok (.iconst 1, 1) := by decide +kernel
theorem dX0_goOn_75 : decode cX0_goOn 75 = .ok (.iadd, 1) := by decide +kernel
theorem dX0_goOn_76 : decode cX0_goOn 76 = .ok (.invokevirtual 103, 3) := by decide +kernel
theorem dX0_goOn_79 : decode cX0_goOn 79 = .ok (.goto 8, 3) := by decide +kernel
theorem dX0_goOn_82 : decode cX0_goOn 82 = .ok (.aload_n 0, 1) := by decide +kernel
theorem dX0_goOn_83 : decode cX0_goOn 83 = .ok (.iconst 1, 1) := by decide +kernel
theorem dX0_goOn_84 : decode cX0_goOn 84 = .ok (.invokevirtual 115, 3) := by decide +kernel
theorem dX0_goOn_87 : decode cX0_goOn 87 = .ok (.ireturn, 1) := by decide +kernel
theorem dX0_meetParts_0 : decode cX0_meetParts 0 = .ok (.aload_n 0, 1) := by decide +kernel
theorem dX0_meetParts_1 : decode cX0_meetParts 1 = .ok (.iload_n 1, 1) := by decide +kernel
theorem dX0_meetParts_2 : decode cX0_meetParts 2 = .ok (.invokevirtual 127, 3) := by decide +kernel
theorem dX0_meetParts_5 : decode cX0_meetParts 5 = .ok (.aload_n 0, 1) := by decide +kernel
theorem dX0_meetParts_6 : decode cX0_meetParts 6 = .ok (.aload_n 0, 1) := by decide +kernel
theorem dX0_meetParts_7 : decode cX0_meetParts 7 = .ok (.getfield 28, 3) := by decide +kernel
theorem dX0_meetParts_10 : decode cX0_meetParts 10 = .ok (.aload_n 0, 1) := by decide +kernel
theorem dX0_meetParts_11 : decode cX0_meetParts 11 = .ok (.invokevirtual 94, 3) := by decide +kernel
theorem dX0_meetParts_14 : decode cX0_meetParts 14 = .ok (.iload_n 1, 1) := by decide +kernel
theorem dX0_meetParts_15 : decode cX0_meetParts 15 = .ok (.invokevirtual 130, 3) := by decide +kernel
theorem dX0_meetParts_18 : decode cX0_meetParts 18 = .ok (.aload_n 0, 1) := by decide +kernel
theorem dX0_meetParts_19 : decode cX0_meetParts 19 = .ok (.getfield 28, 3) := by decide +kernel
theorem dX0_meetParts_22 : decode cX0_meetParts 22 = .ok (.aload_n 0, 1) := by decide +kernel
theorem dX0_meetParts_23 : decode cX0_meetParts 23 = .ok (.invokevirtual 100, 3) := by decide +kernel
theorem dX0_meetParts_26 : decode cX0_meetParts 26 = .ok (.iload_n 1, 1) := by decide +kernel
theorem dX0_meetParts_27 : decode cX0_meetParts 27 = .ok (.invokevirtual 130, 3) := by decide +kernel
theorem dX0_meetParts_30 : decode cX0_meetParts 30 = .ok (.invokevirtual 43, 3) := by decide +kernel
theorem dX0_meetParts_33 : decode cX0_meetParts 33 = .ok (.ireturn, 1) := by decide +kernel
theorem dX0_unfold_0 : decode cX0_unfold 0 = .ok (.iload_n 1, 1) := by decide +kernel
theorem dX0_unfold_1 : decode cX0_unfold 1 = .ok (.ifCond .eq 11, 3) := by decide +kernel
theorem dX0_unfold_4 : decode cX0_unfold 4 = .ok (.iload_n 2, 1) := by decide +kernel
theorem dX0_unfold_5 : decode cX0_unfold 5 = .ok (.ifCond .eq 7, 3) := by decide +kernel
theorem dX0_unfold_8 : decode cX0_unfold 8 = .ok (.iconst 2, 1) := by decide +kernel
theorem dX0_unfold_9 : decode cX0_unfold 9 = .ok (.goto 4, 3) := by decide +kernel
theorem dX0_unfold_12 : decode cX0_unfold 12 = .ok (.iconst 1, 1) := by decide +kernel
theorem dX0_unfold_13 : decode cX0_unfold 13 = .ok (.istore_n 3, 1) := by decide +kernel
theorem dX0_unfold_14 : decode cX0_unfold 14 = .ok (.aload_n 0, 1) := by decide +kernel
theorem dX0_unfold_15 : decode cX0_unfold 15 = .ok (.getfield 75, 3) := by decide +kernel
theorem dX0_unfold_18 : decode cX0_unfold 18 = .ok (.iload_n 3, 1) := by decide +kernel
theorem dX0_unfold_19 : decode cX0_unfold 19 = .ok (.iadd, 1) := by decide +kernel
theorem dX0_unfold_20 : decode cX0_unfold 20 = .ok (.bipush 40, 2) := by decide +kernel
theorem dX0_unfold_22 : decode cX0_unfold 22 = .ok (.if_icmp .le 6, 3) := by decide +kernel
theorem dX0_unfold_25 : decode cX0_unfold 25 = .ok (.bipush (-6), 2) := by decide +kernel
theorem dX0_unfold_27 : decode cX0_unfold 27 = .ok (.ireturn, 1) := by decide +kernel
theorem dX0_unfold_28 : decode cX0_unfold 28 = .ok (.aload_n 0, 1) := by decide +kernel
theorem dX0_unfold_29 : decode cX0_unfold 29 = .ok (.dup, 1) := by decide +kernel
theorem dX0_unfold_30 : decode cX0_unfold 30 = .ok (.getfield 75, 3) := by decide +kernel
theorem dX0_unfold_33 : decode cX0_unfold 33 = .ok (.iload_n 3, 1) := by decide +kernel
theorem dX0_unfold_34 : decode cX0_unfold 34 = .ok (.iadd, 1) := by decide +kernel
theorem dX0_unfold_35 : decode cX0_unfold 35 = .ok (.putfield 75, 3) := by decide +kernel
theorem dX0_unfold_38 : decode cX0_unfold 38 = .ok (.aload_n 0, 1) := by decide +kernel
theorem dX0_unfold_39 : decode cX0_unfold 39 = .ok (.iconst 2, 1) := by decide +kernel
theorem dX0_unfold_40 : decode cX0_unfold 40 = .ok (.invokevirtual 127, 3) := by decide +kernel
theorem dX0_unfold_43 : decode cX0_unfold 43 = .ok (.iload_n 1, 1) := by decide +kernel
theorem dX0_unfold_44 : decode cX0_unfold 44 = .ok (.ifCond .eq 14, 3) := by decide +kernel
theorem dX0_unfold_47 : decode cX0_unfold 47 = .ok (.aload_n 0, 1) := by decide +kernel
theorem dX0_unfold_48 : decode cX0_unfold 48 = .ok (.aload_n 0, 1) := by decide +kernel
theorem dX0_unfold_49 : decode cX0_unfold 49 = .ok (.invokevirtual 94, 3) := by decide +kernel
theorem dX0_unfold_52 : decode cX0_unfold 52 = .ok (.invokevirtual 133, 3) := by decide +kernel
theorem dX0_unfold_55 : decode cX0_unfold 55 = .ok (.goto 7, 3) := by decide +kernel
theorem dX0_unfold_58 : decode cX0_unfold 58 = .ok (.aload_n 0, 1) := by decide +kernel
theorem dX0_unfold_59 : decode cX0_unfold 59 = .ok (.invokevirtual 94, 3) := by decide +kernel
theorem dX0_unfold_62 : decode cX0_unfold 62 = .ok (.istore 4, 2) := by decide +kernel
theorem dX0_unfold_64 : decode cX0_unfold 64 = .ok (.iload_n 2, 1) := by decide +kernel
theorem dX0_unfold_65 : decode cX0_unfold 65 = .ok (.ifCond .eq 14, 3) := by decide +kernel
theorem dX0_unfold_68 : decode cX0_unfold 68 = .ok (.aload_n 0, 1) := by decide +kernel
theorem dX0_unfold_69 : decode cX0_unfold 69 = .ok (.aload_n 0, 1) := by decide +kernel
theorem dX0_unfold_70 : decode cX0_unfold 70 = .ok (.invokevirtual 100, 3) := by decide +kernel
theorem dX0_unfold_73 : decode cX0_unfold 73 = .ok (.invokevirtual 133, 3) := by decide +kernel
theorem dX0_unfold_76 : decode cX0_unfold 76 = .ok (.goto 7, 3) := by decide +kernel
theorem dX0_unfold_79 : decode cX0_unfold 79 = .ok (.aload_n 0, 1) := by decide +kernel
theorem dX0_unfold_80 : decode cX0_unfold 80 = .ok (.invokevirtual 100, 3) := by decide +kernel
theorem dX0_unfold_83 : decode cX0_unfold 83 = .ok (.istore 5, 2) := by decide +kernel
theorem dX0_unfold_85 : decode cX0_unfold 85 = .ok (.aload_n 0, 1) := by decide +kernel
theorem dX0_unfold_86 : decode cX0_unfold 86 = .ok (.iload 4, 2) := by decide +kernel
theorem dX0_unfold_88 : decode cX0_unfold 88 = .ok (.iload 5, 2) := by decide +kernel
theorem dX0_unfold_90 : decode cX0_unfold 90 = .ok (.invokevirtual 43, 3) := by decide +kernel
theorem dX0_unfold_93 : decode cX0_unfold 93 = .ok (.ireturn, 1) := by decide +kernel
theorem dX0_unfolded_0 : decode cX0_unfolded 0 = .ok (.aload_n 0, 1) := by decide +kernel
theorem dX0_unfolded_1 : decode cX0_unfolded 1 = .ok (.getfield 32, 3) := by decide +kernel
theorem dX0_unfolded_4 : decode cX0_unfolded 4 = .ok (.aload_n 0, 1) := by decide +kernel
theorem dX0_unfolded_5 : decode cX0_unfolded 5 = .ok (.getfield 28, 3) := by decide +kernel
theorem dX0_unfolded_8 : decode cX0_unfolded 8 = .ok (.iload_n 1, 1) := by decide +kernel
theorem dX0_unfolded_9 : decode cX0_unfolded 9 = .ok (.invokevirtual 97, 3) := by decide +kernel
theorem dX0_unfolded_12 : decode cX0_unfolded 12 = .ok (.invokevirtual 136, 3) := by decide +kernel
theorem dX0_unfolded_15 : decode cX0_unfolded 15 = .ok (.istore_n 2, 1) := by decide +kernel
theorem dX0_unfolded_16 : decode cX0_unfolded 16 = .ok (.aload_n 0, 1) := by decide +kernel
theorem dX0_unfolded_17 : decode cX0_unfolded 17 = .ok (.getfield 28, 3) := by decide +kernel
theorem dX0_unfolded_20 : decode cX0_unfolded 20 = .ok (.iload_n 2, 1) := by decide +kernel
theorem dX0_unfolded_21 : decode cX0_unfolded 21 = .ok (.aload_n 0, 1) := by decide +kernel
theorem dX0_unfolded_22 : decode cX0_unfolded 22 = .ok (.getfield 28, 3) := by decide +kernel
theorem dX0_unfolded_25 : decode cX0_unfolded 25 = .ok (.iload_n 1, 1) := by decide +kernel
theorem dX0_unfolded_26 : decode cX0_unfolded 26 = .ok (.iconst 0, 1) := by decide +kernel
theorem dX0_unfolded_27 : decode cX0_unfolded 27 = .ok (.invokevirtual 130, 3) := by decide +kernel
theorem dX0_unfolded_30 : decode cX0_unfolded 30 = .ok (.aload_n 0, 1) := by decide +kernel
theorem dX0_unfolded_31 : decode cX0_unfolded 31 = .ok (.getfield 28, 3) := by decide +kernel
theorem dX0_unfolded_34 : decode cX0_unfolded 34 = .ok (.iload_n 1, 1) := by decide +kernel
theorem dX0_unfolded_35 : decode cX0_unfolded 35 = .ok (.iconst 1, 1) := by decide +kernel
theorem dX0_unfolded_36 : decode cX0_unfolded 36 = .ok (.invokevirtual 130, 3) := by decide +kernel
theorem dX0_unfolded_39 : decode cX0_unfolded 39 = .ok (.invokevirtual 139, 3) := by decide +kernel
theorem dX0_unfolded_42 : decode cX0_unfolded 42 = .ok (.ireturn, 1) := by decide +kernel
theorem dX0_close_0 : decode cX0_close 0 = .ok (.aload_n 0, 1) := by decide +kernel
theorem dX0_close_1 : decode cX0_close 1 = .ok (.aload_n 0, 1) := by decide +kernel
theorem dX0_close_2 : decode cX0_close 2 = .ok (.invokevirtual 94, 3) := by decide +kernel
theorem dX0_close_5 : decode cX0_close 5 = .ok (.aload_n 0, 1) := by decide +kernel
theorem dX0_close_6 : decode cX0_close 6 = .ok (.invokevirtual 100, 3) := by decide +kernel
theorem dX0_close_9 : decode cX0_close 9 = .ok (.iload_n 1, 1) := by decide +kernel
theorem dX0_close_10 : decode cX0_close 10 = .ok (.invokevirtual 142, 3) := by decide +kernel
theorem dX0_close_13 : decode cX0_close 13 = .ok (.aload_n 0, 1) := by decide +kernel
theorem dX0_close_14 : decode cX0_close 14 = .ok (.iconst 0, 1) := by decide +kernel
theorem dX0_close_15 : decode cX0_close 15 = .ok (.aload_n 0, 1) := by decide +kernel
theorem dX0_close_16 : decode cX0_close 16 = .ok (.getfield 48, 3) := by decide +kernel
theorem dX0_close_19 : decode cX0_close 19 = .ok (.iconst 1, 1) := by decide +kernel
theorem dX0_close_20 : decode cX0_close 20 = .ok (.isub, 1) := by decide +kernel
theorem dX0_close_21 : decode cX0_close 21 = .ok (.invokestatic 146, 3) := by decide +kernel
theorem dX0_close_24 : decode cX0_close 24 = .ok (.putfield 48, 3) := by decide +kernel
theorem dX0_close_27 : decode cX0_close 27 = .ok (.iload_n 1, 1) := by decide +kernel
theorem dX0_close_28 : decode cX0_close 28 = .ok (.ireturn, 1) := by decide +kernel
theorem dX0_hasLast_0 : decode cX0_hasLast 0 = .ok (.aload_n 0, 1) := by decide +kernel
theorem dX0_hasLast_1 : decode cX0_hasLast 1 = .ok (.getfield 48, 3) := by decide +kernel
theorem dX0_hasLast_4 : decode cX0_hasLast 4 = .ok (.ifCond .le 17, 3) := by decide +kernel
theorem dX0_hasLast_7 : decode cX0_hasLast 7 = .ok (.aload_n 0, 1) := by decide +kernel
theorem dX0_hasLast_8 : decode cX0_hasLast 8 = .ok (.getfield 48, 3) := by decide +kernel
theorem dX0_hasLast_11 : decode cX0_hasLast 11 = .ok (.sipush 164, 3) := by decide +kernel
theorem dX0_hasLast_14 : decode cX0_hasLast 14 = .ok (.if_icmp .gt 7, 3) := by decide +kernel
theorem dX0_hasLast_17 : decode cX0_hasLast 17 = .ok (.iconst 1, 1) := by decide +kernel
theorem dX0_hasLast_18 : decode cX0_hasLast 18 = .ok (.goto 4, 3) := by decide +kernel
theorem dX0_hasLast_21 : decode cX0_hasLast 21 = .ok (.iconst 0, 1) := by decide +kernel
theorem dX0_hasLast_22 : decode cX0_hasLast 22 = .ok (.ireturn, 1) := by decide +kernel
theorem dX0_lastX_0 : decode cX0_lastX 0 = .ok (.aload_n 0, 1) := by decide +kernel
theorem dX0_lastX_1 : decode cX0_lastX 1 = .ok (.invokevirtual 151, 3) := by decide +kernel
theorem dX0_lastX_4 : decode cX0_lastX 4 = .ok (.ifCond .eq 17, 3) := by decide +kernel
theorem dX0_lastX_7 : decode cX0_lastX 7 = .ok (.aload_n 0, 1) := by decide +kernel
theorem dX0_lastX_8 : decode cX0_lastX 8 = .ok (.getfield 15, 3) := by decide +kernel
theorem dX0_lastX_11 : decode cX0_lastX 11 = .ok (.aload_n 0, 1) := by decide +kernel
theorem dX0_lastX_12 : decode cX0_lastX 12 = .ok (.getfield 48, 3) := by decide +kernel
theorem dX0_lastX_15 : decode cX0_lastX 15 = .ok (.iconst 1, 1) := by decide +kernel
theorem dX0_lastX_16 : decode cX0_lastX 16 = .ok (.isub, 1) := by decide +kernel
theorem dX0_lastX_17 : decode cX0_lastX 17 = .ok (.iaload, 1) := by decide +kernel
theorem dX0_lastX_18 : decode cX0_lastX 18 = .ok (.goto 5, 3) := by decide +kernel
theorem dX0_lastX_21 : decode cX0_lastX 21 = .ok (.bipush (-9), 2) := by decide +kernel
theorem dX0_lastX_23 : decode cX0_lastX 23 = .ok (.ireturn, 1) := by decide +kernel
theorem dX0_lastY_0 : decode cX0_lastY 0 = .ok (.aload_n 0, 1) := by decide +kernel
theorem dX0_lastY_1 : decode cX0_lastY 1 = .ok (.invokevirtual 151, 3) := by decide +kernel
theorem dX0_lastY_4 : decode cX0_lastY 4 = .ok (.ifCond .eq 17, 3) := by decide +kernel
theorem dX0_lastY_7 : decode cX0_lastY 7 = .ok (.aload_n 0, 1) := by decide +kernel
theorem dX0_lastY_8 : decode cX0_lastY 8 = .ok (.getfield 19, 3) := by decide +kernel
theorem dX0_lastY_11 : decode cX0_lastY 11 = .ok (.aload_n 0, 1) := by decide +kernel
theorem dX0_lastY_12 : decode cX0_lastY 12 = .ok (.getfield 48, 3) := by decide +kernel
theorem dX0_lastY_15 : decode cX0_lastY 15 = .ok (.iconst 1, 1) := by decide +kernel
theorem dX0_lastY_16 : decode cX0_lastY 16 = .ok (.isub, 1) := by decide +kernel
theorem dX0_lastY_17 : decode cX0_lastY 17 = .ok (.iaload, 1) := by decide +kernel
theorem dX0_lastY_18 : decode cX0_lastY 18 = .ok (.goto 5, 3) := by decide +kernel
theorem dX0_lastY_21 : decode cX0_lastY 21 = .ok (.bipush (-9), 2) := by decide +kernel
theorem dX0_lastY_23 : decode cX0_lastY 23 = .ok (.ireturn, 1) := by decide +kernel
theorem dX0_lastWaitsFor_0 : decode cX0_lastWaitsFor 0 = .ok (.aload_n 0, 1) := by decide +kernel
theorem dX0_lastWaitsFor_1 : decode cX0_lastWaitsFor 1 = .ok (.invokevirtual 151, 3) := by decide +kernel
theorem dX0_lastWaitsFor_4 : decode cX0_lastWaitsFor 4 = .ok (.ifCond .eq 17, 3) := by decide +kernel
theorem dX0_lastWaitsFor_7 : decode cX0_lastWaitsFor 7 = .ok (.aload_n 0, 1) := by decide +kernel
theorem dX0_lastWaitsFor_8 : decode cX0_lastWaitsFor 8 = .ok (.getfield 22, 3) := by decide +kernel
theorem dX0_lastWaitsFor_11 : decode cX0_lastWaitsFor 11 = .ok (.aload_n 0, 1) := by decide +kernel
theorem dX0_lastWaitsFor_12 : decode cX0_lastWaitsFor 12 = .ok (.getfield 48, 3) := by decide +kernel
theorem dX0_lastWaitsFor_15 : decode cX0_lastWaitsFor 15 = .ok (.iconst 1, 1) := by decide +kernel
theorem dX0_lastWaitsFor_16 : decode cX0_lastWaitsFor 16 = .ok (.isub, 1) := by decide +kernel
theorem dX0_lastWaitsFor_17 : decode cX0_lastWaitsFor 17 = .ok (.iaload, 1) := by decide +kernel
theorem dX0_lastWaitsFor_18 : decode cX0_lastWaitsFor 18 = .ok (.goto 4, 3) := by decide +kernel
theorem dX0_lastWaitsFor_21 : decode cX0_lastWaitsFor 21 = .ok (.iconst 2, 1) := by decide +kernel
theorem dX0_lastWaitsFor_22 : decode cX0_lastWaitsFor 22 = .ok (.ireturn, 1) := by decide +kernel
theorem dX0_setLastWaitsFor_0 : decode cX0_setLastWaitsFor 0 = .ok (.aload_n 0, 1) := by decide +kernel
theorem dX0_setLastWaitsFor_1 : decode cX0_setLastWaitsFor 1 = .ok (.invokevirtual 151, 3) := by decide +kernel
theorem dX0_setLastWaitsFor_4 : decode cX0_setLastWaitsFor 4 = .ok (.ifCond .eq 15, 3) := by decide +kernel
theorem dX0_setLastWaitsFor_7 : decode cX0_setLastWaitsFor 7 = .ok (.aload_n 0, 1) := by decide +kernel
theorem dX0_setLastWaitsFor_8 : decode cX0_setLastWaitsFor 8 = .ok (.getfield 22, 3) := by decide +kernel
theorem dX0_setLastWaitsFor_11 : decode cX0_setLastWaitsFor 11 = .ok (.aload_n 0, 1) := by decide +kernel
theorem dX0_setLastWaitsFor_12 : decode cX0_setLastWaitsFor 12 = .ok (.getfield 48, 3) := by decide +kernel
theorem dX0_setLastWaitsFor_15 : decode cX0_setLastWaitsFor 15 = .ok (.iconst 1, 1) := by decide +kernel
theorem dX0_setLastWaitsFor_16 : decode cX0_setLastWaitsFor 16 = .ok (.isub, 1) := by decide +kernel
theorem dX0_setLastWaitsFor_17 : decode cX0_setLastWaitsFor 17 = .ok (.iload_n 1, 1) := by decide +kernel
theorem dX0_setLastWaitsFor_18 : decode cX0_setLastWaitsFor 18 = .ok (.iastore, 1) := by decide +kernel
theorem dX0_setLastWaitsFor_19 : decode cX0_setLastWaitsFor 19 = .ok (.return_, 1) := by decide +kernel
theorem dX0_judgment_0 : decode cX0_judgment 0 = .ok (.aload_n 0, 1) := by decide +kernel
theorem dX0_judgment_1 : decode cX0_judgment 1 = .ok (.getfield 28, 3) := by decide +kernel
theorem dX0_judgment_4 : decode cX0_judgment 4 = .ok (.iload_n 1, 1) := by decide +kernel
theorem dX0_judgment_5 : decode cX0_judgment 5 = .ok (.invokevirtual 87, 3) := by decide +kernel
theorem dX0_judgment_8 : decode cX0_judgment 8 = .ok (.ifCond .eq 14, 3) := by decide +kernel
theorem dX0_judgment_11 : decode cX0_judgment 11 = .ok (.aload_n 0, 1) := by decide +kernel
theorem dX0_judgment_12 : decode cX0_judgment 12 = .ok (.getfield 28, 3) := by decide +kernel
theorem dX0_judgment_15 : decode cX0_judgment 15 = .ok (.iload_n 2, 1) := by decide +kernel
theorem dX0_judgment_16 : decode cX0_judgment 16 = .ok (.invokevirtual 87, 3) := by decide +kernel
theorem dX0_judgment_19 : decode cX0_judgment 19 = .ok (.ifCond .ne 5, 3) := by decide +kernel
theorem dX0_judgment_22 : decode cX0_judgment 22 = .ok (.iconst 2, 1) := by decide +kernel
theorem dX0_judgment_23 : decode cX0_judgment 23 = .ok (.ireturn, 1) := by decide +kernel
theorem dX0_judgment_24 : decode cX0_judgment 24 = .ok (.aload_n 0, 1) := by decide +kernel
theorem dX0_judgment_25 : decode cX0_judgment 25 = .ok (.getfield 11, 3) := by decide +kernel
theorem dX0_judgment_28 : decode cX0_judgment 28 = .ok (.iload_n 1, 1) := by decide +kernel
theorem dX0_judgment_29 : decode cX0_judgment 29 = .ok (.iload_n 2, 1) := by decide +kernel
theorem dX0_judgment_30 : decode cX0_judgment 30 = .ok (.invokestatic 155, 3) := by decide +kernel
theorem dX0_judgment_33 : decode cX0_judgment 33 = .ok (.laload, 1) := by decide +kernel
theorem dX0_judgment_34 : decode cX0_judgment 34 = .ok (.iload_n 2, 1) := by decide +kernel
theorem dX0_judgment_35 : decode cX0_judgment 35 = .ok (.invokestatic 158, 3) := by decide +kernel
theorem dX0_judgment_38 : decode cX0_judgment 38 = .ok (.lushr, 1) := by decide +kernel
theorem dX0_judgment_39 : decode cX0_judgment 39 = .ok (.l2i, 1) := by decide +kernel
theorem dX0_judgment_40 : decode cX0_judgment 40 = .ok (.iconst 3, 1) := by decide +kernel
theorem dX0_judgment_41 : decode cX0_judgment 41 = .ok (.iand, 1) := by decide +kernel
theorem dX0_judgment_42 : decode cX0_judgment 42 = .ok (.istore_n 3, 1) := by decide +kernel
theorem dX0_judgment_43 : decode cX0_judgment 43 = .ok (.iload_n 3, 1) := by decide +kernel
theorem dX0_judgment_44 : decode cX0_judgment 44 = .ok (.ifCond .ne 7, 3) := by decide +kernel
theorem dX0_judgment_47 : decode cX0_judgment 47 = .ok (.iconst 2, 1) := by decide +kernel
theorem dX0_judgment_48 : decode cX0_judgment 48 = .ok (.goto 6, 3) := by decide +kernel
theorem dX0_judgment_51 : decode cX0_judgment 51 = .ok (.iload_n 3, 1) := by decide +kernel
theorem dX0_judgment_52 : decode cX0_judgment 52 = .ok (.iconst 1, 1) := by decide +kernel
theorem dX0_judgment_53 : decode cX0_judgment 53 = .ok (.isub, 1) := by decide +kernel
theorem dX0_judgment_54 : decode cX0_judgment 54 = .ok (.ireturn, 1) := by decide +kernel
theorem dX0_judge_0 : decode cX0_judge 0 = .ok (.aload_n 0, 1) := by decide +kernel
theorem dX0_judge_1 : decode cX0_judge 1 = .ok (.getfield 28, 3) := by decide +kernel
theorem dX0_judge_4 : decode cX0_judge 4 = .ok (.iload_n 1, 1) := by decide +kernel
theorem dX0_judge_5 : decode cX0_judge 5 = .ok (.invokevirtual 87, 3) := by decide +kernel
theorem dX0_judge_8 : decode cX0_judge 8 = .ok (.ifCond .eq 14, 3) := by decide +kernel
theorem dX0_judge_11 : decode cX0_judge 11 = .ok (.aload_n 0, 1) := by decide +kernel
theorem dX0_judge_12 : decode cX0_judge 12 = .ok (.getfield 28, 3) := by decide +kernel
theorem dX0_judge_15 : decode cX0_judge 15 = .ok (.iload_n 2, 1) := by decide +kernel
theorem dX0_judge_16 : decode cX0_judge 16 = .ok (.invokevirtual 87, 3) := by decide +kernel
theorem dX0_judge_19 : decode cX0_judge 19 = .ok (.ifCond .ne 4, 3) := by decide +kernel
theorem dX0_judge_22 : decode cX0_judge 22 = .ok (.return_, 1) := by decide +kernel
theorem dX0_judge_23 : decode cX0_judge 23 = .ok (.aload_n 0, 1) := by decide +kernel
theorem dX0_judge_24 : decode cX0_judge 24 = .ok (.getfield 11, 3) := by decide +kernel
theorem dX0_judge_27 : decode cX0_judge 27 = .ok (.iload_n 1, 1) := by decide +kernel
theorem dX0_judge_28 : decode cX0_judge 28 = .ok (.iload_n 2, 1) := by decide +kernel
theorem dX0_judge_29 : decode cX0_judge 29 = .ok (.invokestatic 155, 3) := by decide +kernel
theorem dX0_judge_32 : decode cX0_judge 32 = .ok (.dup2, 1) := by decide +kernel
theorem dX0_judge_33 : decode cX0_judge 33 = .ok (.laload, 1) := by decide +kernel
theorem dX0_judge_34 : decode cX0_judge 34 = .ok (.iload_n 3, 1) := by decide +kernel
theorem dX0_judge_35 : decode cX0_judge 35 = .ok (.i2l, 1) := by decide +kernel
theorem dX0_judge_36 : decode cX0_judge 36 = .ok (.lconst 1, 1) := by decide +kernel
theorem dX0_judge_37 : decode cX0_judge 37 = .ok (.ladd, 1) := by decide +kernel
theorem dX0_judge_38 : decode cX0_judge 38 = .ok (.iload_n 2, 1) := by decide +kernel
theorem dX0_judge_39 : decode cX0_judge 39 = .ok (.invokestatic 158, 3) := by decide +kernel
theorem dX0_judge_42 : decode cX0_judge 42 = .ok (.lshl, 1) := by decide +kernel
theorem dX0_judge_43 : decode cX0_judge 43 = .ok (.lor, 1) := by decide +kernel
theorem dX0_judge_44 : decode cX0_judge 44 = .ok (.lastore, 1) := by decide +kernel
theorem dX0_judge_45 : decode cX0_judge 45 = .ok (.return_, 1) := by decide +kernel
theorem dX0_wordOf_0 : decode cX0_wordOf 0 = .ok (.iload_n 0, 1) := by decide +kernel
theorem dX0_wordOf_1 : decode cX0_wordOf 1 = .ok (.bipush 12, 2) := by decide +kernel
theorem dX0_wordOf_3 : decode cX0_wordOf 3 = .ok (.imul, 1) := by decide +kernel
theorem dX0_wordOf_4 : decode cX0_wordOf 4 = .ok (.iload_n 1, 1) := by decide +kernel
theorem dX0_wordOf_5 : decode cX0_wordOf 5 = .ok (.bipush 32, 2) := by decide +kernel
theorem dX0_wordOf_7 : decode cX0_wordOf 7 = .ok (.idiv, 1) := by decide +kernel
theorem dX0_wordOf_8 : decode cX0_wordOf 8 = .ok (.iadd, 1) := by decide +kernel
theorem dX0_wordOf_9 : decode cX0_wordOf 9 = .ok (.ireturn, 1) := by decide +kernel
theorem dX0_shiftOf_0 : decode cX0_shiftOf 0 = .ok (.iload_n 0, 1) := by decide +kernel
theorem dX0_shiftOf_1 : decode cX0_shiftOf 1 = .ok (.bipush 32, 2) := by decide +kernel
theorem dX0_shiftOf_3 : decode cX0_shiftOf 3 = .ok (.irem, 1) := by decide +kernel
theorem dX0_shiftOf_4 : decode cX0_shiftOf 4 = .ok (.iconst 2, 1) := by decide +kernel
theorem dX0_shiftOf_5 : decode cX0_shiftOf 5 = .ok (.imul, 1) := by decide +kernel
theorem dX0_shiftOf_6 : decode cX0_shiftOf 6 = .ok (.ireturn, 1) := by decide +kernel
