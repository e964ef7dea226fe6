theorem dX2_init_0 : decode cX2_init 0 = .ok (.aload_n 0, 1) := by decide +kernel
theorem dX2_init_1 : decode cX2_init 1 = .ok (.invokespecial 3, 3) := by decide +kernel
theorem dX2_init_4 : decode cX2_init 4 = .ok (.aload_n 0, 1) := by decide +kernel
theorem dX2_init_5 : decode cX2_init 5 = .ok (.sipush 370, 3) := by decide +kernel
theorem dX2_init_8 : decode cX2_init 8 = .ok (.newarray .int, 2) := by decide +kernel
theorem dX2_init_10 : decode cX2_init 10 = .ok (.putfield 9, 3) := by decide +kernel
theorem dX2_init_13 : decode cX2_init 13 = .ok (.aload_n 0, 1) := by decide +kernel
theorem dX2_init_14 : decode cX2_init 14 = .ok (.sipush 370, 3) := by decide +kernel
theorem dX2_init_17 : decode cX2_init 17 = .ok (.newarray .int, 2) := by decide +kernel
theorem dX2_init_19 : decode cX2_init 19 = .ok (.putfield 15, 3) := by decide +kernel
theorem dX2_init_22 : decode cX2_init 22 = .ok (.aload_n 0, 1) := by decide +kernel
theorem dX2_init_23 : decode cX2_init 23 = .ok (.sipush 370, 3) := by decide +kernel
theorem dX2_init_26 : decode cX2_init 26 = .ok (.newarray .int, 2) := by decide +kernel
theorem dX2_init_28 : decode cX2_init 28 = .ok (.putfield 18, 3) := by decide +kernel
theorem dX2_init_31 : decode cX2_init 31 = .ok (.aload_n 0, 1) := by decide +kernel
theorem dX2_init_32 : decode cX2_init 32 = .ok (.bipush 90, 2) := by decide +kernel
theorem dX2_init_34 : decode cX2_init 34 = .ok (.newarray .int, 2) := by decide +kernel
theorem dX2_init_36 : decode cX2_init 36 = .ok (.putfield 21, 3) := by decide +kernel
theorem dX2_init_39 : decode cX2_init 39 = .ok (.aload_n 0, 1) := by decide +kernel
theorem dX2_init_40 : decode cX2_init 40 = .ok (.bipush 90, 2) := by decide +kernel
theorem dX2_init_42 : decode cX2_init 42 = .ok (.newarray .int, 2) := by decide +kernel
theorem dX2_init_44 : decode cX2_init 44 = .ok (.putfield 24, 3) := by decide +kernel
theorem dX2_init_47 : decode cX2_init 47 = .ok (.aload_n 0, 1) := by decide +kernel
theorem dX2_init_48 : decode cX2_init 48 = .ok (.bipush 90, 2) := by decide +kernel
theorem dX2_init_50 : decode cX2_init 50 = .ok (.newarray .int, 2) := by decide +kernel
theorem dX2_init_52 : decode cX2_init 52 = .ok (.putfield 27, 3) := by decide +kernel
theorem dX2_init_55 : decode cX2_init 55 = .ok (.aload_n 0, 1) := by decide +kernel
theorem dX2_init_56 : decode cX2_init 56 = .ok (.bipush 90, 2) := by decide +kernel
theorem dX2_init_58 : decode cX2_init 58 = .ok (.newarray .int, 2) := by decide +kernel
theorem dX2_init_60 : decode cX2_init 60 = .ok (.putfield 30, 3) := by decide +kernel
theorem dX2_init_63 : decode cX2_init 63 = .ok (.aload_n 0, 1) := by decide +kernel
theorem dX2_init_64 : decode cX2_init 64 = .ok (.bipush 90, 2) := by decide +kernel
theorem dX2_init_66 : decode cX2_init 66 = .ok (.newarray .int, 2) := by decide +kernel
theorem dX2_init_68 : decode cX2_init 68 = .ok (.putfield 33, 3) := by decide +kernel
theorem dX2_init_71 : decode cX2_init 71 = .ok (.aload_n 0, 1) := by decide +kernel
theorem dX2_init_72 : decode cX2_init 72 = .ok (.iconst 0, 1) := by decide +kernel
theorem dX2_init_73 : decode cX2_init 73 = .ok (.putfield 36, 3) := by decide +kernel
theorem dX2_init_76 : decode cX2_init 76 = .ok (.aload_n 0, 1) := by decide +kernel
theorem dX2_init_77 : decode cX2_init 77 = .ok (.iconst 0, 1) := by decide +kernel
theorem dX2_init_78 : decode cX2_init 78 = .ok (.putfield 40, 3) := by decide +kernel
theorem dX2_init_81 : decode cX2_init 81 = .ok (.return_, 1) := by decide +kernel
theorem dX2_wasMade_0 : decode cX2_wasMade 0 = .ok (.iload_n 1, 1) := by decide +kernel
theorem dX2_wasMade_1 : decode cX2_wasMade 1 = .ok (.ifCond .lt 15, 3) := by decide +kernel
theorem dX2_wasMade_4 : decode cX2_wasMade 4 = .ok (.iload_n 1, 1) := by decide +kernel
theorem dX2_wasMade_5 : decode cX2_wasMade 5 = .ok (.aload_n 0, 1) := by decide +kernel
theorem dX2_wasMade_6 : decode cX2_wasMade 6 = .ok (.getfield 36, 3) := by decide +kernel
theorem dX2_wasMade_9 : decode cX2_wasMade 9 = .ok (.if_icmp .ge 7, 3) := by decide +kernel
theorem dX2_wasMade_12 : decode cX2_wasMade 12 = .ok (.iconst 1, 1) := by decide +kernel
theorem dX2_wasMade_13 : decode cX2_wasMade 13 = .ok (.goto 4, 3) := by decide +kernel
theorem dX2_wasMade_16 : decode cX2_wasMade 16 = .ok (.iconst 0, 1) := by decide +kernel
theorem dX2_wasMade_17 : decode cX2_wasMade 17 = .ok (.ireturn, 1) := by decide +kernel
theorem dX2_isHeld_0 : decode cX2_isHeld 0 = .ok (.iload_n 1, 1) := by decide +kernel
theorem dX2_isHeld_1 : decode cX2_isHeld 1 = .ok (.ifCond .lt 15, 3) := by decide +kernel
theorem dX2_isHeld_4 : decode cX2_isHeld 4 = .ok (.iload_n 1, 1) := by decide +kernel
theorem dX2_isHeld_5 : decode cX2_isHeld 5 = .ok (.aload_n 0, 1) := by decide +kernel
theorem dX2_isHeld_6 : decode cX2_isHeld 6 = .ok (.getfield 40, 3) := by decide +kernel
theorem dX2_isHeld_9 : decode cX2_isHeld 9 = .ok (.if_icmp .ge 7, 3) := by decide +kernel
theorem dX2_isHeld_12 : decode cX2_isHeld 12 = .ok (.iconst 1, 1) := by decide +kernel
theorem dX2_isHeld_13 : decode cX2_isHeld 13 = .ok (.goto 4, 3) := by decide +kernel
theorem dX2_isHeld_16 : decode cX2_isHeld 16 = .ok (.iconst 0, 1) := by decide +kernel
theorem dX2_isHeld_17 : decode cX2_isHeld 17 = .ok (.ireturn, 1) := by decide +kernel
theorem dX2_howMany_0 : decode cX2_howMany 0 = .ok (.aload_n 0, 1) := by decide +kernel
theorem dX2_howMany_1 : decode cX2_howMany 1 = .ok (.getfield 36, 3) := by decide +kernel
theorem dX2_howMany_4 : decode cX2_howMany 4 = .ok (.ireturn, 1) := by decide +kernel
theorem dX2_howManyClosed_0 : decode cX2_howManyClosed 0 = .ok (.iconst 0, 1) := by decide +kernel
theorem dX2_howManyClosed_1 : decode cX2_howManyClosed 1 = .ok (.istore_n 1, 1) := by decide +kernel
theorem dX2_howManyClosed_2 : decode cX2_howManyClosed 2 = .ok (.iconst 0, 1) := by decide +kernel
theorem dX2_howManyClosed_3 : decode cX2_howManyClosed 3 = .ok (.istore_n 2, 1) := by decide +kernel
theorem dX2_howManyClosed_4 : decode cX2_howManyClosed 4 = .ok (.iload_n 2, 1) := by decide +kernel
theorem dX2_howManyClosed_5 : decode cX2_howManyClosed 5 = .ok (.aload_n 0, 1) := by decide +kernel
theorem dX2_howManyClosed_6 : decode cX2_howManyClosed 6 = .ok (.getfield 36, 3) := by decide +kernel
theorem dX2_howManyClosed_9 : decode cX2_howManyClosed 9 = .ok (.if_icmp .ge 20, 3) := by decide +kernel
theorem dX2_howManyClosed_12 : decode cX2_howManyClosed 12 = .ok (.aload_n 0, 1) := by decide +kernel
theorem dX2_howManyClosed_13 : decode cX2_howManyClosed 13 = .ok (.iload_n 2, 1) := by decide +kernel
theorem dX2_howManyClosed_14 : decode cX2_howManyClosed 14 = .ok (.invokevirtual 43, 3) := by decide +kernel
theorem dX2_howManyClosed_17 : decode cX2_howManyClosed 17 = .ok (.ifCond .eq 6, 3) := by decide +kernel
theorem dX2_howManyClosed_20 : decode cX2_howManyClosed 20 = .ok (.iinc 1 1, 3) := by decide +kernel
theorem dX2_howManyClosed_23 : decode cX2_howManyClosed 23 = .ok (.iinc 2 1, 3) := by decide +kernel
theorem dX2_howManyClosed_26 : decode cX2_howManyClosed 26 = .ok (.goto (-22), 3) := by decide +kernel
theorem dX2_howManyClosed_29 : decode cX2_howManyClosed 29 = .ok (.iload_n 1, 1) := by decide +kernel
theorem dX2_howManyClosed_30 : decode cX2_howManyClosed 30 = .ok (.ireturn, 1) := by decide +kernel
theorem dX2_frontOf_0 : decode cX2_frontOf 0 = .ok (.aload_n 0, 1) := by decide +kernel
theorem dX2_frontOf_1 : decode cX2_frontOf 1 = .ok (.iload_n 1, 1) := by decide +kernel
theorem dX2_frontOf_2 : decode cX2_frontOf 2 = .ok (.invokevirtual 47, 3) := by decide +kernel
theorem dX2_frontOf_5 : decode cX2_frontOf 5 = .ok (.ifCond .eq 12, 3) := by decide +kernel
theorem dX2_frontOf_8 : decode cX2_frontOf 8 = .ok (.aload_n 0, 1) := by decide +kernel
theorem dX2_frontOf_9 : decode cX2_frontOf 9 = .ok (.getfield 9, 3) := by decide +kernel
theorem dX2_frontOf_12 : decode cX2_frontOf 12 = .ok (.iload_n 1, 1) := by decide +kernel
theorem dX2_frontOf_13 : decode cX2_frontOf 13 = .ok (.iaload, 1) := by decide +kernel
theorem dX2_frontOf_14 : decode cX2_frontOf 14 = .ok (.goto 5, 3) := by decide +kernel
theorem dX2_frontOf_17 : decode cX2_frontOf 17 = .ok (.bipush (-9), 2) := by decide +kernel
theorem dX2_frontOf_19 : decode cX2_frontOf 19 = .ok (.ireturn, 1) := by decide +kernel
theorem dX2_partOf_0 : decode cX2_partOf 0 = .ok (.aload_n 0, 1) := by decide +kernel
theorem dX2_partOf_1 : decode cX2_partOf 1 = .ok (.iload_n 1, 1) := by decide +kernel
theorem dX2_partOf_2 : decode cX2_partOf 2 = .ok (.invokevirtual 47, 3) := by decide +kernel
theorem dX2_partOf_5 : decode cX2_partOf 5 = .ok (.ifCond .ne 6, 3) := by decide +kernel
theorem dX2_partOf_8 : decode cX2_partOf 8 = .ok (.bipush (-9), 2) := by decide +kernel
theorem dX2_partOf_10 : decode cX2_partOf 10 = .ok (.ireturn, 1) := by decide +kernel
theorem dX2_partOf_11 : decode cX2_partOf 11 = .ok (.iload_n 2, 1) := by decide +kernel
theorem dX2_partOf_12 : decode cX2_partOf 12 = .ok (.ifCond .ne 12, 3) := by decide +kernel
theorem dX2_partOf_15 : decode cX2_partOf 15 = .ok (.aload_n 0, 1) := by decide +kernel
theorem dX2_partOf_16 : decode cX2_partOf 16 = .ok (.getfield 15, 3) := by decide +kernel
theorem dX2_partOf_19 : decode cX2_partOf 19 = .ok (.iload_n 1, 1) := by decide +kernel
theorem dX2_partOf_20 : decode cX2_partOf 20 = .ok (.iaload, 1) := by decide +kernel
theorem dX2_partOf_21 : decode cX2_partOf 21 = .ok (.goto 9, 3) := by decide +kernel
theorem dX2_partOf_24 : decode cX2_partOf 24 = .ok (.aload_n 0, 1) := by decide +kernel
theorem dX2_partOf_25 : decode cX2_partOf 25 = .ok (.getfield 18, 3) := by decide +kernel
theorem dX2_partOf_28 : decode cX2_partOf 28 = .ok (.iload_n 1, 1) := by decide +kernel
theorem dX2_partOf_29 : decode cX2_partOf 29 = .ok (.iaload, 1) := by decide +kernel
theorem dX2_partOf_30 : decode cX2_partOf 30 = .ok (.ireturn, 1) := by decide +kernel
theorem dX2_depthOf_0 : decode cX2_depthOf 0 = .ok (.aload_n 0, 1) := by decide +kernel
theorem dX2_depthOf_1 : decode cX2_depthOf 1 = .ok (.iload_n 1, 1) := by decide +kernel
theorem dX2_depthOf_2 : decode cX2_depthOf 2 = .ok (.invokevirtual 50, 3) := by decide +kernel
theorem dX2_depthOf_5 : decode cX2_depthOf 5 = .ok (.ifCond .eq 12, 3) := by decide +kernel
theorem dX2_depthOf_8 : decode cX2_depthOf 8 = .ok (.aload_n 0, 1) := by decide +kernel
theorem dX2_depthOf_9 : decode cX2_depthOf 9 = .ok (.getfield 21, 3) := by decide +kernel
theorem dX2_depthOf_12 : decode cX2_depthOf 12 = .ok (.iload_n 1, 1) := by decide +kernel
theorem dX2_depthOf_13 : decode cX2_depthOf 13 = .ok (.iaload, 1) := by decide +kernel
theorem dX2_depthOf_14 : decode cX2_depthOf 14 = .ok (.goto 4, 3) := by decide +kernel
theorem dX2_depthOf_17 : decode cX2_depthOf 17 = .ok (.iconst 0, 1) := by decide +kernel
theorem dX2_depthOf_18 : decode cX2_depthOf 18 = .ok (.ireturn, 1) := by decide +kernel
theorem dX2_depthAbove_0 : decode cX2_depthAbove 0 = .ok (.iconst 1, 1) := by decide +kernel
theorem dX2_depthAbove_1 : decode cX2_depthAbove 1 = .ok (.aload_n 0, 1) := by decide +kernel
theorem dX2_depthAbove_2 : decode cX2_depthAbove 2 = .ok (.iload_n 1, 1) := by decide +kernel
theorem dX2_depthAbove_3 : decode cX2_depthAbove 3 = .ok (.invokevirtual 53, 3) := by decide +kernel
theorem dX2_depthAbove_6 : decode cX2_depthAbove 6 = .ok (.aload_n 0, 1) := by decide +kernel
theorem dX2_depthAbove_7 : decode cX2_depthAbove 7 = .ok (.iload_n 2, 1) := by decide +kernel
theorem dX2_depthAbove_8 : decode cX2_depthAbove 8 = .ok (.invokevirtual 53, 3) := by decide +kernel
theorem dX2_depthAbove_11 : decode cX2_depthAbove 11 = .ok (.invokestatic 57, 3) := by decide +kernel
theorem dX2_depthAbove_14 : decode cX2_depthAbove 14 = .ok (.iadd, 1) := by decide +kernel
theorem dX2_depthAbove_15 : decode cX2_depthAbove 15 = .ok (.ireturn, 1) := by decide +kernel
theorem dX2_sizeOf_0 : decode cX2_sizeOf 0 = .ok (.aload_n 0, 1) := by decide +kernel
theorem dX2_sizeOf_1 : decode cX2_sizeOf 1 = .ok (.iload_n 1, 1) := by decide +kernel
theorem dX2_sizeOf_2 : decode cX2_sizeOf 2 = .ok (.invokevirtual 50, 3) := by decide +kernel
theorem dX2_sizeOf_5 : decode cX2_sizeOf 5 = .ok (.ifCond .eq 12, 3) := by decide +kernel
theorem dX2_sizeOf_8 : decode cX2_sizeOf 8 = .ok (.aload_n 0, 1) := by decide +kernel
theorem dX2_sizeOf_9 : decode cX2_sizeOf 9 = .ok (.getfield 24, 3) := by decide +kernel
theorem dX2_sizeOf_12 : decode cX2_sizeOf 12 = .ok (.iload_n 1, 1) := by decide +kernel
theorem dX2_sizeOf_13 : decode cX2_sizeOf 13 = .ok (.iaload, 1) := by decide +kernel
theorem dX2_sizeOf_14 : decode cX2_sizeOf 14 = .ok (.goto 4, 3) := by decide +kernel
theorem dX2_sizeOf_17 : decode cX2_sizeOf 17 = .ok (.iconst 0, 1) := by decide +kernel
theorem dX2_sizeOf_18 : decode cX2_sizeOf 18 = .ok (.ireturn, 1) := by decide +kernel
theorem dX2_namesIn_0 : decode cX2_namesIn 0 = .ok (.aload_n 0, 1) := by decide +kernel
theorem dX2_namesIn_1 : decode cX2_namesIn 1 = .ok (.iload_n 1, 1) := by decide +kernel
theorem dX2_namesIn_2 : decode cX2_namesIn 2 = .ok (.invokevirtual 50, 3) := by decide +kernel
theorem dX2_namesIn_5 : decode cX2_namesIn 5 = .ok (.ifCond .eq 12, 3) := by decide +kernel
theorem dX2_namesIn_8 : decode cX2_namesIn 8 = .ok (.aload_n 0, 1) := by decide +kernel
theorem dX2_namesIn_9 : decode cX2_namesIn 9 = .ok (.getfield 27, 3) := by decide +kernel
theorem dX2_namesIn_12 : decode cX2_namesIn 12 = .ok (.iload_n 1, 1) := by decide +kernel
theorem dX2_namesIn_13 : decode cX2_namesIn 13 = .ok (.iaload, 1) := by decide +kernel
theorem dX2_namesIn_14 : decode cX2_namesIn 14 = .ok (.goto 4, 3) := by decide +kernel
theorem dX2_namesIn_17 : decode cX2_namesIn 17 = .ok (.iconst 0, 1) := by decide +kernel
theorem dX2_namesIn_18 : decode cX2_namesIn 18 = .ok (.ireturn, 1) := by decide +kernel
theorem dX2_timesOfParameter_0 : decode cX2_timesOfParameter 0 = .ok (.aload_n 0, 1) := by decide +kernel
theorem dX2_timesOfParameter_1 : decode cX2_timesOfParameter 1 = .ok (.iload_n 1, 1) := by decide +kernel
theorem dX2_timesOfParameter_2 : decode cX2_timesOfParameter 2 = .ok (.invokevirtual 50, 3) := by decide +kernel
theorem dX2_timesOfParameter_5 : decode cX2_timesOfParameter 5 = .ok (.ifCond .ne 5, 3) := by decide +kernel
theorem dX2_timesOfParameter_8 : decode cX2_timesOfParameter 8 = .ok (.iconst 0, 1) := by decide +kernel
theorem dX2_timesOfParameter_9 : decode cX2_timesOfParameter 9 = .ok (.ireturn, 1) := by decide +kernel
theorem dX2_timesOfParameter_10 : decode cX2_timesOfParameter 10 = .ok (.iload_n 2, 1) := by decide +kernel
theorem dX2_timesOfParameter_11 : decode cX2_timesOfParameter 11 = .ok (.ifCond .ne 12, 3) := by decide +kernel
theorem dX2_timesOfParameter_14 : decode cX2_timesOfParameter 14 = .ok (.aload_n 0, 1) := by decide +kernel
theorem dX2_timesOfParameter_15 : decode cX2_timesOfParameter 15 = .ok (.getfield 30, 3) := by decide +kernel
theorem dX2_timesOfParameter_18 : decode cX2_timesOfParameter 18 = .ok (.iload_n 1, 1) := by decide +kernel
theorem dX2_timesOfParameter_19 : decode cX2_timesOfParameter 19 = .ok (.iaload, 1) := by decide +kernel
theorem dX2_timesOfParameter_20 : decode cX2_timesOfParameter 20 = .ok (.goto 9, 3) := by decide +kernel
theorem dX2_timesOfParameter_23 : decode cX2_timesOfParameter 23 = .ok (.aload_n 0, 1) := by decide +kernel
theorem dX2_timesOfParameter_24 : decode cX2_timesOfParameter 24 = .ok (.getfield 33, 3) := by decide +kernel
theorem dX2_timesOfParameter_27 : decode cX2_timesOfParameter 27 = .ok (.iload_n 1, 1) := by decide +kernel
theorem dX2_timesOfParameter_28 : decode cX2_timesOfParameter 28 = .ok (.iaload, 1) := by decide +kernel
theorem dX2_timesOfParameter_29 : decode cX2_timesOfParameter 29 = .ok (.ireturn, 1) := by decide +kernel
theorem dX2_isClosed_0 : decode cX2_isClosed 0 = .ok (.aload_n 0, 1) := by decide +kernel
theorem dX2_isClosed_1 : decode cX2_isClosed 1 = .ok (.iload_n 1, 1) := by decide +kernel
theorem dX2_isClosed_2 : decode cX2_isClosed 2 = .ok (.iconst 0, 1) := by decide +kernel
theorem dX2_isClosed_3 : decode cX2_isClosed 3 = .ok (.invokevirtual 63, 3) := by decide +kernel
theorem dX2_isClosed_6 : decode cX2_isClosed 6 = .ok (.ifCond .ne 16, 3) := by decide +kernel
theorem dX2_isClosed_9 : decode cX2_isClosed 9 = .ok (.aload_n 0, 1) := by decide +kernel
theorem dX2_isClosed_10 : decode cX2_isClosed 10 = .ok (.iload_n 1, 1) := by decide +kernel
theorem dX2_isClosed_11 : decode cX2_isClosed 11 = .ok (.iconst 1, 1) := by decide +kernel
theorem dX2_isClosed_12 : decode cX2_isClosed 12 = .ok (.invokevirtual 63, 3) := by decide +kernel
theorem dX2_isClosed_15 : decode cX2_isClosed 15 = .ok (.ifCond .ne 7, 3) := by decide +kernel
theorem dX2_isClosed_18 : decode cX2_isClosed 18 = .ok (.iconst 1, 1) := by decide +kernel
theorem dX2_isClosed_19 : decode cX2_isClosed 19 = .ok (.goto 4, 3) := by decide +kernel
theorem dX2_isClosed_22 : decode cX2_isClosed 22 = .ok (.iconst 0, 1) := by decide +kernel
theorem dX2_isClosed_23 : decode cX2_isClosed 23 = .ok (.ireturn, 1) := by decide +kernel
theorem dX2_numberOf_0 : decode cX2_numberOf 0 = .ok (.aload_n 0, 1) := by decide +kernel
theorem dX2_numberOf_1 : decode cX2_numberOf 1 = .ok (.iload_n 1, 1) := by decide +kernel
theorem dX2_numberOf_2 : decode cX2_numberOf 2 = .ok (.iload_n 2, 1) := by decide +kernel
theorem dX2_numberOf_3 : decode cX2_numberOf 3 = .ok (.iload_n 3, 1) := by decide +kernel
theorem dX2_numberOf_4 : decode cX2_numberOf 4 = .ok (.invokevirtual 66, 3) := by decide +kernel
theorem dX2_numberOf_7 : decode cX2_numberOf 7 = .ok (.istore 4, 2) := by decide +kernel
theorem dX2_numberOf_9 : decode cX2_numberOf 9 = .ok (.iload 4, 2) := by decide +kernel
theorem dX2_numberOf_11 : decode cX2_numberOf 11 = .ok (.bipush (-9), 2) := by decide +kernel
theorem dX2_numberOf_13 : decode cX2_numberOf 13 = .ok (.if_icmp .eq 6, 3) := by decide +kernel
theorem dX2_numberOf_16 : decode cX2_numberOf 16 = .ok (.iload 4, 2) := by decide +kernel
theorem dX2_numberOf_18 : decode cX2_numberOf 18 = .ok (.ireturn, 1) := by decide +kernel
theorem dX2_numberOf_19 : decode cX2_numberOf 19 = .ok (.aload_n 0, 1) := by decide +kernel
theorem dX2_numberOf_20 : decode cX2_numberOf 20 = .ok (.getfield 36, 3) := by decide +kernel
theorem dX2_numberOf_23 : decode cX2_numberOf 23 = .ok (.bipush 90, 2) := by decide +kernel
theorem dX2_numberOf_25 : decode cX2_numberOf 25 = .ok (.if_icmp .lt 6, 3) := by decide +kernel
theorem dX2_numberOf_28 : decode cX2_numberOf 28 = .ok (.bipush (-4), 2) := by decide +kernel
theorem dX2_numberOf_30 : decode cX2_numberOf 30 = .ok (.ireturn, 1) := by decide +kernel
theorem dX2_numberOf_31 : decode cX2_numberOf 31 = .ok (.aload_n 0, 1) := by decide +kernel
theorem dX2_numberOf_32 : decode cX2_numberOf 32 = .ok (.iload_n 1, 1) := by decide +kernel
theorem dX2_numberOf_33 : decode cX2_numberOf 33 = .ok (.iload_n 2, 1) := by decide +kernel
theorem dX2_numberOf_34 : decode cX2_numberOf 34 = .ok (.iload_n 3, 1) := by decide +kernel
theorem dX2_numberOf_35 : decode cX2_numberOf 35 = .ok (.invokevirtual 70, 3) := by decide +kernel
theorem dX2_numberOf_38 : decode cX2_numberOf 38 = .ok (.istore 4, 2) := by decide +kernel
theorem dX2_numberOf_40 : decode cX2_numberOf 40 = .ok (.aload_n 0, 1) := by decide +kernel
theorem dX2_numberOf_41 : decode cX2_numberOf 41 = .ok (.aload_n 0, 1) := by decide +kernel
theorem dX2_numberOf_42 : decode cX2_numberOf 42 = .ok (.getfield 40, 3) := by decide +kernel
theorem dX2_numberOf_45 : decode cX2_numberOf 45 = .ok (.putfield 36, 3) := by decide +kernel
theorem dX2_numberOf_48 : decode cX2_numberOf 48 = .ok (.aload_n 0, 1) := by decide +kernel
theorem dX2_numberOf_49 : decode cX2_numberOf 49 = .ok (.iload 4, 2) := by decide +kernel
theorem dX2_numberOf_51 : decode cX2_numberOf 51 = .ok (.invokevirtual 73, 3) := by decide +kernel
theorem dX2_numberOf_54 : decode cX2_numberOf 54 = .ok (.iload 4, 2) := by decide +kernel
theorem dX2_numberOf_56 : decode cX2_numberOf 56 = .ok (.ireturn, 1) := by decide +kernel
theorem dX2_unfolded_0 : decode cX2_unfolded 0 = .ok (.aload_n 0, 1) := by decide +kernel
theorem dX2_unfolded_1 : decode cX2_unfolded 1 = .ok (.iload_n 1, 1) := by decide +kernel
theorem dX2_unfolded_2 : decode cX2_unfolded 2 = .ok (.iload_n 2, 1) := by decide +kernel
theorem dX2_unfolded_3 : decode cX2_unfolded 3 = .ok (.iload_n 3, 1) := by decide +kernel
theorem dX2_unfolded_4 : decode cX2_unfolded 4 = .ok (.iconst 1, 1) := by decide +kernel
theorem dX2_unfolded_5 : decode cX2_unfolded 5 = .ok (.invokevirtual 77, 3) := by decide +kernel
theorem dX2_unfolded_8 : decode cX2_unfolded 8 = .ok (.ireturn, 1) := by decide +kernel
theorem dX2_filled_0 : decode cX2_filled 0 = .ok (.aload_n 0, 1) := by decide +kernel
theorem dX2_filled_1 : decode cX2_filled 1 = .ok (.iload_n 1, 1) := by decide +kernel
theorem dX2_filled_2 : decode cX2_filled 2 = .ok (.invokevirtual 50, 3) := by decide +kernel
theorem dX2_filled_5 : decode cX2_filled 5 = .ok (.ifCond .eq 9, 3) := by decide +kernel
theorem dX2_filled_8 : decode cX2_filled 8 = .ok (.iload 4, 2) := by decide +kernel
theorem dX2_filled_10 : decode cX2_filled 10 = .ok (.iconst 4, 1) := by decide +kernel
theorem dX2_filled_11 : decode cX2_filled 11 = .ok (.if_icmp .le 6, 3) := by decide +kernel
theorem dX2_filled_14 : decode cX2_filled 14 = .ok (.bipush (-9), 2) := by decide +kernel
theorem dX2_filled_16 : decode cX2_filled 16 = .ok (.ireturn, 1) := by decide +kernel
theorem dX2_filled_17 : decode cX2_filled 17 = .ok (.aload_n 0, 1) := by decide +kernel
theorem dX2_filled_18 : decode cX2_filled 18 = .ok (.getfield 30, 3) := by decide +kernel
theorem dX2_filled_21 : decode cX2_filled 21 = .ok (.iload_n 1, 1) := by decide +kernel
theorem dX2_filled_22 : decode cX2_filled 22 = .ok (.iaload, 1) := by decide +kernel
theorem dX2_filled_23 : decode cX2_filled 23 = .ok (.ifCond .ne 14, 3) := by decide +kernel
theorem dX2_filled_26 : decode cX2_filled 26 = .ok (.aload_n 0, 1) := by decide +kernel
theorem dX2_filled_27 : decode cX2_filled 27 = .ok (.getfield 33, 3) := by decide +kernel
theorem dX2_filled_30 : decode cX2_filled 30 = .ok (.iload_n 1, 1) := by decide +kernel
theorem dX2_filled_31 : decode cX2_filled 31 = .ok (.iaload, 1) := by decide +kernel
theorem dX2_filled_32 : decode cX2_filled 32 = .ok (.ifCond .ne 5, 3) := by decide +kernel
theorem dX2_filled_35 : decode cX2_filled 35 = .ok (.iload_n 1, 1) := by decide +kernel
theorem dX2_filled_36 : decode cX2_filled 36 = .ok (.ireturn, 1) := by decide +kernel
theorem dX2_filled_37 : decode cX2_filled 37 = .ok (.aload_n 0, 1) := by decide +kernel
theorem dX2_filled_38 : decode cX2_filled 38 = .ok (.getfield 9, 3) := by decide +kernel
theorem dX2_filled_41 : decode cX2_filled 41 = .ok (.iload_n 1, 1) := by decide +kernel
theorem dX2_filled_42 : decode cX2_filled 42 = .ok (.iaload, 1) := by decide +kernel
theorem dX2_filled_43 : decode cX2_filled 43 = .ok (.istore 5, 2) := by decide +kernel
theorem dX2_filled_45 : decode cX2_filled 45 = .ok (.iload 5, 2) := by decide +kernel
theorem dX2_filled_47 : decode cX2_filled 47 = .ok (.bipush 100, 2) := by decide +kernel
theorem dX2_filled_49 : decode cX2_filled 49 = .ok (.if_icmp .ne 5, 3) := by decide +kernel
theorem dX2_filled_52 : decode cX2_filled 52 = .ok (.iload_n 2, 1) := by decide +kernel
theorem dX2_filled_53 : decode cX2_filled 53 = .ok (.ireturn, 1) := by decide +kernel
theorem dX2_filled_54 : decode cX2_filled 54 = .ok (.iload 5, 2) := by decide +kernel
theorem dX2_filled_56 : decode cX2_filled 56 = .ok (.bipush 100, 2) := by decide +kernel
theorem dX2_filled_58 : decode cX2_filled 58 = .ok (.if_icmp .le 5, 3) := by decide +kernel
theorem dX2_filled_61 : decode cX2_filled 61 = .ok (.iload_n 3, 1) := by decide +kernel
theorem dX2_filled_62 : decode cX2_filled 62 = .ok (.ireturn, 1) := by decide +kernel
theorem dX2_filled_63 : decode cX2_filled 63 = .ok (.aload_n 0, 1) := by decide +kernel
theorem dX2_filled_64 : decode cX2_filled 64 = .ok (.aload_n 0, 1) := by decide +kernel
theorem dX2_filled_65 : decode cX2_filled 65 = .ok (.getfield 15, 3) := by decide +kernel
theorem dX2_filled_68 : decode cX2_filled 68 = .ok (.iload_n 1, 1) := by decide +kernel
theorem dX2_filled_69 : decode cX2_filled 69 = .ok (.iaload, 1) := by decide +kernel
theorem dX2_filled_70 : decode cX2_filled 70 = .ok (.iload_n 2, 1) := by decide +kernel
theorem dX2_filled_71 : decode cX2_filled 71 = .ok (.iload_n 3, 1) := by decide +kernel
theorem dX2_filled_72 : decode cX2_filled 72 = .ok (.iload 4, 2) := by decide +kernel
theorem dX2_filled_74 : decode cX2_filled 74 = .ok (.iconst 1, 1) := by decide +kernel
theorem dX2_filled_75 : decode cX2_filled 75 = .ok (.iadd, 1) := by decide +kernel
theorem dX2_filled_76 : decode cX2_filled 76 = .ok (.invokevirtual 77, 3) := by decide +kernel
theorem dX2_filled_79 : decode cX2_filled 79 = .ok (.istore 6, 2) := by decide +kernel
theorem dX2_filled_81 : decode cX2_filled 81 = .ok (.aload_n 0, 1) := by decide +kernel
theorem dX2_filled_82 : decode cX2_filled 82 = .ok (.aload_n 0, 1) := by decide +kernel
theorem dX2_filled_83 : decode cX2_filled 83 = .ok (.getfield 18, 3) := by decide +kernel
theorem dX2_filled_86 : decode cX2_filled 86 = .ok (.iload_n 1, 1) := by decide +kernel
theorem dX2_filled_87 : decode cX2_filled 87 = .ok (.iaload, 1) := by decide +kernel
theorem dX2_filled_88 : decode cX2_filled 88 = .ok (.iload_n 2, 1) := by decide +kernel
theorem dX2_filled_89 : decode cX2_filled 89 = .ok (.iload_n 3, 1) := by decide +kernel
theorem dX2_filled_90 : decode cX2_filled 90 = .ok (.iload 4, 2) := by decide +kernel
theorem dX2_filled_92 : decode cX2_filled 92 = .ok (.iconst 1, 1) := by decide +kernel
theorem dX2_filled_93 : decode cX2_filled 93 = .ok (.iadd, 1) := by decide +kernel
theorem dX2_filled_94 : decode cX2_filled 94 = .ok (.invokevirtual 77, 3) := by decide +kernel
theorem dX2_filled_97 : decode cX2_filled 97 = .ok (.istore 7, 2) := by decide +kernel
theorem dX2_filled_99 : decode cX2_filled 99 = .ok (.aload_n 0, 1) := by decide +kernel
theorem dX2_filled_100 : decode cX2_filled 100 = .ok (.iload 5, 2) := by decide +kernel
theorem dX2_filled_102 : decode cX2_filled 102 = .ok (.iload 6, 2) := by decide +kernel
theorem dX2_filled_104 : decode cX2_filled 104 = .ok (.iload 7, 2) := by decide +kernel
theorem dX2_filled_106 : decode cX2_filled 106 = .ok (.invokevirtual 66, 3) := by decide +kernel
theorem dX2_filled_109 : decode cX2_filled 109 = .ok (.istore 8, 2) := by decide +kernel
theorem dX2_filled_111 : decode cX2_filled 111 = .ok (.iload 8, 2) := by decide +kernel
theorem dX2_filled_113 : decode cX2_filled 113 = .ok (.bipush (-9), 2) := by decide +kernel
theorem dX2_filled_115 : decode cX2_filled 115 = .ok (.if_icmp .eq 8, 3) := by decide +kernel
theorem dX2_filled_118 : decode cX2_filled 118 = .ok (.iload 8, 2) := by decide +kernel
theorem dX2_filled_120 : decode cX2_filled 120 = .ok (.goto 13, 3) := by decide +kernel
theorem dX2_filled_123 : decode cX2_filled 123 = .ok (.aload_n 0, 1) := by decide +kernel
theorem dX2_filled_124 : decode cX2_filled 124 = .ok (.iload 5, 2) := by decide +kernel
theorem dX2_filled_126 : decode cX2_filled 126 = .ok (.iload 6, 2) := by decide +kernel
theorem dX2_filled_128 : decode cX2_filled 128 = .ok (.iload 7, 2) := by decide +kernel
theorem dX2_filled_130 : decode cX2_filled 130 = .ok (.invokevirtual 70, 3) := by decide +kernel
theorem dX2_filled_133 : decode cX2_filled 133 = .ok (.ireturn, 1) := by decide +kernel
theorem dX2_dropNotMade_0 : decode cX2_dropNotMade 0 = .ok (.aload_n 0, 1) := by decide +kernel
theorem dX2_dropNotMade_1 : decode cX2_dropNotMade 1 = .ok (.aload_n 0, 1) := by decide +kernel
theorem dX2_dropNotMade_2 : decode cX2_dropNotMade 2 = .ok (.getfield 36, 3) := by decide +kernel
theorem dX2_dropNotMade_5 : decode cX2_dropNotMade 5 = .ok (.putfield 40, 3) := by decide +kernel
theorem dX2_dropNotMade_8 : decode cX2_dropNotMade 8 = .ok (.return_, 1) := by decide +kernel
theorem dX2_find_0 : decode cX2_find 0 = .ok (.iconst 0, 1) := by decide +kernel
theorem dX2_find_1 : decode cX2_find 1 = .ok (.istore 4, 2) := by decide +kernel
theorem dX2_find_3 : decode cX2_find 3 = .ok (.iload 4, 2) := by decide +kernel
theorem dX2_find_5 : decode cX2_find 5 = .ok (.aload_n 0, 1) := by decide +kernel
theorem dX2_find_6 : decode cX2_find 6 = .ok (.getfield 40, 3) := by decide +kernel
theorem dX2_find_9 : decode cX2_find 9 = .ok (.if_icmp .ge 45, 3) := by decide +kernel
theorem dX2_find_12 : decode cX2_find 12 = .ok (.aload_n 0, 1) := by decide +kernel
theorem dX2_find_13 : decode cX2_find 13 = .ok (.getfield 9, 3) := by decide +kernel
theorem dX2_find_16 : decode cX2_find 16 = .ok (.iload 4, 2) := by decide +kernel
theorem dX2_find_18 : decode cX2_find 18 = .ok (.iaload, 1) := by decide +kernel
theorem dX2_find_19 : decode cX2_find 19 = .ok (.iload_n 1, 1) := by decide +kernel
theorem dX2_find_20 : decode cX2_find 20 = .ok (.if_icmp .ne 28, 3) := by decide +kernel
theorem dX2_find_23 : decode cX2_find 23 = .ok (.aload_n 0, 1) := by decide +kernel
theorem dX2_find_24 : decode cX2_find 24 = .ok (.getfield 15, 3) := by decide +kernel
theorem dX2_find_27 : decode cX2_find 27 = .ok (.iload 4, 2) := by decide +kernel
theorem dX2_find_29 : decode cX2_find 29 = .ok (.iaload, 1) := by decide +kernel
theorem dX2_find_30 : decode cX2_find 30 = .ok (.iload_n 2, 1) := by decide +kernel
theorem dX2_find_31 : decode cX2_find 31 = .ok (.if_icmp .ne 17, 3) := by decide +kernel
theorem dX2_find_34 : decode cX2_find 34 = .ok (.aload_n 0, 1) := by decide +kernel
theorem dX2_find_35 : decode cX2_find 35 = .ok (.getfield 18, 3) := by decide +kernel
theorem dX2_find_38 : decode cX2_find 38 = .ok (.iload 4, 2) := by decide +kernel
theorem dX2_find_40 : decode cX2_find 40 = .ok (.iaload, 1) := by decide +kernel
theorem dX2_find_41 : decode cX2_find 41 = .ok (.iload_n 3, 1) := by decide +kernel
theorem dX2_find_42 : decode cX2_find 42 = .ok (.if_icmp .ne 6, 3) := by decide +kernel
theorem dX2_find_45 : decode cX2_find 45 = .ok (.iload 4, 2) := by decide +kernel
theorem dX2_find_47 : decode cX2_find 47 = .ok (.ireturn, 1) := by decide +kernel
theorem dX2_find_48 : decode cX2_find 48 = .ok (.iinc 4 1, 3) := by decide +kernel
theorem dX2_find_51 : decode cX2_find 51 = .ok (.goto (-48), 3) := by decide +kernel
theorem dX2_find_54 : decode cX2_find 54 = .ok (.bipush (-9), 2) := by decide +kernel
theorem dX2_find_56 : decode cX2_find 56 = .ok (.ireturn, 1) := by decide +kernel
theorem dX2_hold_0 : decode cX2_hold 0 = .ok (.aload_n 0, 1) := by decide +kernel
theorem dX2_hold_1 : decode cX2_hold 1 = .ok (.getfield 40, 3) := by decide +kernel
theorem dX2_hold_4 : decode cX2_hold 4 = .ok (.sipush 370, 3) := by decide +kernel
theorem dX2_hold_7 : decode cX2_hold 7 = .ok (.if_icmp .lt 6, 3) := by decide +kernel
theorem dX2_hold_10 : decode cX2_hold 10 = .ok (.bipush (-9), 2) := by decide +kernel
theorem dX2_hold_12 : decode cX2_hold 12 = .ok (.ireturn, 1) := by decide +kernel
theorem dX2_hold_13 : decode cX2_hold 13 = .ok (.aload_n 0, 1) := by decide +kernel
theorem dX2_hold_14 : decode cX2_hold 14 = .ok (.getfield 40, 3) := by decide +kernel
theorem dX2_hold_17 : decode cX2_hold 17 = .ok (.istore 4, 2) := by decide +kernel
theorem dX2_hold_19 : decode cX2_hold 19 = .ok (.aload_n 0, 1) := by decide +kernel
theorem dX2_hold_20 : decode cX2_hold 20 = .ok (.getfield 9, 3) := by decide +kernel
theorem dX2_hold_23 : decode cX2_hold 23 = .ok (.iload 4, 2) := by decide +kernel
theorem dX2_hold_25 : decode cX2_hold 25 = .ok (.iload_n 1, 1) := by decide +kernel
theorem dX2_hold_26 : decode cX2_hold 26 = .ok (.iastore, 1) := by decide +kernel
theorem dX2_hold_27 : decode cX2_hold 27 = .ok (.aload_n 0, 1) := by decide +kernel
theorem dX2_hold_28 : decode cX2_hold 28 = .ok (.getfield 15, 3) := by decide +kernel
theorem dX2_hold_31 : decode cX2_hold 31 = .ok (.iload 4, 2) := by decide +kernel
theorem dX2_hold_33 : decode cX2_hold 33 = .ok (.iload_n 2, 1) := by decide +kernel
theorem dX2_hold_34 : decode cX2_hold 34 = .ok (.iastore, 1) := by decide +kernel
theorem dX2_hold_35 : decode cX2_hold 35 = .ok (.aload_n 0, 1) := by decide +kernel
theorem dX2_hold_36 : decode cX2_hold 36 = .ok (.getfield 18, 3) := by decide +kernel
theorem dX2_hold_39 : decode cX2_hold 39 = .ok (.iload 4, 2) := by decide +kernel
theorem dX2_hold_41 : decode cX2_hold 41 = .ok (.iload_n 3, 1) := by decide +kernel
theorem dX2_hold_42 : decode cX2_hold 42 = .ok (.iastore, 1) := by decide +kernel
theorem dX2_hold_43 : decode cX2_hold 43 = .ok (.aload_n 0, 1) := by decide +kernel
theorem dX2_hold_44 : decode cX2_hold 44 = .ok (.dup, 1) := by decide +kernel
theorem dX2_hold_45 : decode cX2_hold 45 = .ok (.getfield 40, 3) := by decide +kernel
theorem dX2_hold_48 : decode cX2_hold 48 = .ok (.iconst 1, 1) := by decide +kernel
theorem dX2_hold_49 : decode cX2_hold 49 = .ok (.iadd, 1) := by decide +kernel
theorem dX2_hold_50 : decode cX2_hold 50 = .ok (.putfield 40, 3) := by decide +kernel
theorem dX2_hold_53 : decode cX2_hold 53 = .ok (.iload 4, 2) := by decide +kernel
theorem dX2_hold_55 : decode cX2_hold 55 = .ok (.ireturn, 1) := by decide +kernel
theorem dX2_measure_0 : decode cX2_measure 0 = .ok (.aload_n 0, 1) := by decide +kernel
theorem dX2_measure_1 : decode cX2_measure 1 = .ok (.iload_n 1, 1) := by decide +kernel
theorem dX2_measure_2 : decode cX2_measure 2 = .ok (.invokevirtual 50, 3) := by decide +kernel
theorem dX2_measure_5 : decode cX2_measure 5 = .ok (.ifCond .ne 4, 3) := by decide +kernel
theorem dX2_measure_8 : decode cX2_measure 8 = .ok (.return_, 1) := by decide +kernel
theorem dX2_measure_9 : decode cX2_measure 9 = .ok (.aload_n 0, 1) := by decide +kernel
theorem dX2_measure_10 : decode cX2_measure 10 = .ok (.getfield 9, 3) := by decide +kernel
theorem dX2_measure_13 : decode cX2_measure 13 = .ok (.iload_n 1, 1) := by decide +kernel
theorem dX2_measure_14 : decode cX2_measure 14 = .ok (.iaload, 1) := by decide +kernel
theorem dX2_measure_15 : decode cX2_measure 15 = .ok (.istore_n 2, 1) := by decide +kernel
theorem dX2_measure_16 : decode cX2_measure 16 = .ok (.aload_n 0, 1) := by decide +kernel
theorem dX2_measure_17 : decode cX2_measure 17 = .ok (.getfield 15, 3) := by decide +kernel
theorem dX2_measure_20 : decode cX2_measure 20 = .ok (.iload_n 1, 1) := by decide +kernel
theorem dX2_measure_21 : decode cX2_measure 21 = .ok (.iaload, 1) := by decide +kernel
theorem dX2_measure_22 : decode cX2_measure 22 = .ok (.istore_n 3, 1) := by decide +kernel
theorem dX2_measure_23 : decode cX2_measure 23 = .ok (.aload_n 0, 1) := by decide +kernel
theorem dX2_measure_24 : decode cX2_measure 24 = .ok (.getfield 18, 3) := by decide +kernel
theorem dX2_measure_27 : decode cX2_measure 27 = .ok (.iload_n 1, 1) := by decide +kernel
theorem dX2_measure_28 : decode cX2_measure 28 = .ok (.iaload, 1) := by decide +kernel
theorem dX2_measure_29 : decode cX2_measure 29 = .ok (.istore 4, 2) := by decide +kernel
theorem dX2_measure_31 : decode cX2_measure 31 = .ok (.aload_n 0, 1) := by decide +kernel
theorem dX2_measure_32 : decode cX2_measure 32 = .ok (.getfield 21, 3) := by decide +kernel
theorem dX2_measure_35 : decode cX2_measure 35 = .ok (.iload_n 1, 1) := by decide +kernel
theorem dX2_measure_36 : decode cX2_measure 36 = .ok (.aload_n 0, 1) := by decide +kernel
theorem dX2_measure_37 : decode cX2_measure 37 = .ok (.iload_n 3, 1) := by decide +kernel
theorem dX2_measure_38 : decode cX2_measure 38 = .ok (.iload 4, 2) := by decide +kernel
theorem dX2_measure_40 : decode cX2_measure 40 = .ok (.invokevirtual 81, 3) := by decide +kernel
theorem dX2_measure_43 : decode cX2_measure 43 = .ok (.iastore, 1) := by decide +kernel
theorem dX2_measure_44 : decode cX2_measure 44 = .ok (.aload_n 0, 1) := by decide +kernel
theorem dX2_measure_45 : decode cX2_measure 45 = .ok (.getfield 24, 3) := by decide +kernel
theorem dX2_measure_48 : decode cX2_measure 48 = .ok (.iload_n 1, 1) := by decide +kernel
theorem dX2_measure_49 : decode cX2_measure 49 = .ok (.iconst 1, 1) := by decide +kernel
theorem dX2_measure_50 : decode cX2_measure 50 = .ok (.aload_n 0, 1) := by decide +kernel
theorem dX2_measure_51 : decode cX2_measure 51 = .ok (.iload_n 3, 1) := by decide +kernel
theorem dX2_measure_52 : decode cX2_measure 52 = .ok (.invokevirtual 84, 3) := by decide +kernel
theorem dX2_measure_55 : decode cX2_measure 55 = .ok (.iadd, 1) := by decide +kernel
theorem dX2_measure_56 : decode cX2_measure 56 = .ok (.aload_n 0, 1) := by decide +kernel
theorem dX2_measure_57 : decode cX2_measure 57 = .ok (.iload 4, 2) := by decide +kernel
theorem dX2_measure_59 : decode cX2_measure 59 = .ok (.invokevirtual 84, 3) := by decide +kernel
theorem dX2_measure_62 : decode cX2_measure 62 = .ok (.iadd, 1) := by decide +kernel
theorem dX2_measure_63 : decode cX2_measure 63 = .ok (.iastore, 1) := by decide +kernel
theorem dX2_measure_64 : decode cX2_measure 64 = .ok (.aload_n 0, 1) := by decide +kernel
theorem dX2_measure_65 : decode cX2_measure 65 = .ok (.getfield 27, 3) := by decide +kernel
theorem dX2_measure_68 : decode cX2_measure 68 = .ok (.iload_n 1, 1) := by decide +kernel
theorem dX2_measure_69 : decode cX2_measure 69 = .ok (.aload_n 0, 1) := by decide +kernel
theorem dX2_measure_70 : decode cX2_measure 70 = .ok (.iload_n 3, 1) := by decide +kernel
theorem dX2_measure_71 : decode cX2_measure 71 = .ok (.invokevirtual 87, 3) := by decide +kernel
theorem dX2_measure_74 : decode cX2_measure 74 = .ok (.aload_n 0, 1) := by decide +kernel
theorem dX2_measure_75 : decode cX2_measure 75 = .ok (.iload 4, 2) := by decide +kernel
theorem dX2_measure_77 : decode cX2_measure 77 = .ok (.invokevirtual 87, 3) := by decide +kernel
theorem dX2_measure_80 : decode cX2_measure 80 = .ok (.ior, 1) := by decide +kernel
theorem dX2_measure_81 : decode cX2_measure 81 = .ok (.iload_n 2, 1) := by decide +kernel
theorem dX2_measure_82 : decode cX2_measure 82 = .ok (.bipush 100, 2) := by decide +kernel
theorem dX2_measure_84 : decode cX2_measure 84 = .ok (.if_icmp .ge 9, 3) := by decide +kernel
theorem dX2_measure_87 : decode cX2_measure 87 = .ok (.iconst 1, 1) := by decide +kernel
theorem dX2_measure_88 : decode cX2_measure 88 = .ok (.iload_n 2, 1) := by decide +kernel
theorem dX2_measure_89 : decode cX2_measure 89 = .ok (.ishl, 1) := by decide +kernel
theorem dX2_measure_90 : decode cX2_measure 90 = .ok (.goto 4, 3) := by decide +kernel
theorem dX2_measure_93 : decode cX2_measure 93 = .ok (.iconst 0, 1) := by decide +kernel
theorem dX2_measure_94 : decode cX2_measure 94 = .ok (.ior, 1) := by decide +kernel
theorem dX2_measure_95 : decode cX2_measure 95 = .ok (.iastore, 1) := by decide +kernel
theorem dX2_measure_96 : decode cX2_measure 96 = .ok (.aload_n 0, 1) := by decide +kernel
theorem dX2_measure_97 : decode cX2_measure 97 = .ok (.getfield 30, 3) := by decide +kernel
theorem dX2_measure_100 : decode cX2_measure 100 = .ok (.iload_n 1, 1) := by decide +kernel
theorem dX2_measure_101 : decode cX2_measure 101 = .ok (.aload_n 0, 1) := by decide +kernel
theorem dX2_measure_102 : decode cX2_measure 102 = .ok (.iload_n 3, 1) := by decide +kernel
theorem dX2_measure_103 : decode cX2_measure 103 = .ok (.iconst 0, 1) := by decide +kernel
theorem dX2_measure_104 : decode cX2_measure 104 = .ok (.invokevirtual 63, 3) := by decide +kernel
theorem dX2_measure_107 : decode cX2_measure 107 = .ok (.aload_n 0, 1) := by decide +kernel
theorem dX2_measure_108 : decode cX2_measure 108 = .ok (.iload 4, 2) := by decide +kernel
theorem dX2_measure_110 : decode cX2_measure 110 = .ok (.iconst 0, 1) := by decide +kernel
theorem dX2_measure_111 : decode cX2_measure 111 = .ok (.invokevirtual 63, 3) := by decide +kernel
theorem dX2_measure_114 : decode cX2_measure 114 = .ok (.iadd, 1) := by decide +kernel
theorem dX2_measure_115 : decode cX2_measure 115 = .ok (.iload_n 2, 1) := by decide +kernel
theorem dX2_measure_116 : decode cX2_measure 116 = .ok (.bipush 100, 2) := by decide +kernel
theorem dX2_measure_118 : decode cX2_measure 118 = .ok (.if_icmp .ne 7, 3) := by decide +kernel
theorem dX2_measure_121 : decode cX2_measure 121 = .ok (.iconst 1, 1) := by decide +kernel
theorem dX2_measure_122 : decode cX2_measure 122 = .ok (.goto 4, 3) := by decide +kernel
theorem dX2_measure_125 : decode cX2_measure 125 = .ok (.iconst 0, 1) := by decide +kernel
theorem dX2_measure_126 : decode cX2_measure 126 = .ok (.iadd, 1) := by decide +kernel
theorem dX2_measure_127 : decode cX2_measure 127 = .ok (.iastore, 1) := by decide +kernel
theorem dX2_measure_128 : decode cX2_measure 128 = .ok (.aload_n 0, 1) := by decide +kernel
theorem dX2_measure_129 : decode cX2_measure 129 = .ok (.getfield 33, 3) := by decide +kernel
theorem dX2_measure_132 : decode cX2_measure 132 = .ok (.iload_n 1, 1) := by decide +kernel
theorem dX2_measure_133 : decode cX2_measure 133 = .ok (.aload_n 0, 1) := by decide +kernel
theorem dX2_measure_134 : decode cX2_measure 134 = .ok (.iload_n 3, 1) := by decide +kernel
theorem dX2_measure_135 : decode cX2_measure 135 = .ok (.iconst 1, 1) := by decide +kernel
theorem dX2_measure_136 : decode cX2_measure 136 = .ok (.invokevirtual 63, 3) := by decide +kernel
theorem dX2_measure_139 : decode cX2_measure 139 = .ok (.aload_n 0, 1) := by decide +kernel
theorem dX2_measure_140 : decode cX2_measure 140 = .ok (.iload 4, 2) := by decide +kernel
theorem dX2_measure_142 : decode cX2_measure 142 = .ok (.iconst 1, 1) := by decide +kernel
theorem dX2_measure_143 : decode cX2_measure 143 = .ok (.invokevirtual 63, 3) := by decide +kernel
theorem dX2_measure_146 : decode cX2_measure 146 = .ok (.iadd, 1) := by decide +kernel
theorem dX2_measure_147 : decode cX2_measure 147 = .ok (.iload_n 2, 1) := by decide +kernel
theorem dX2_measure_148 : decode cX2_measure 148 = .ok (.bipush 100, 2) := by decide +kernel
theorem dX2_measure_150 : decode cX2_measure 150 = .ok (.if_icmp .le 7, 3) := by decide +kernel
theorem dX2_measure_153 : decode cX2_measure 153 = .ok (.iconst 1, 1) := by decide +kernel
theorem dX2_measure_154 : decode cX2_measure 154 = .ok (.goto 4, 3) := by decide +kernel
theorem dX2_measure_157 : decode cX2_measure 157 = .ok (.iconst 0, 1) := by decide +kernel
theorem dX2_measure_158 : decode cX2_measure 158 = .ok (.iadd, 1) := by decide +kernel
theorem dX2_measure_159 : decode cX2_measure 159 = .ok (.iastore, 1) := by decide +kernel
theorem dX2_measure_160 : decode cX2_measure 160 = .ok (.return_, 1) := by decide +kernel
