theorem dX1_init_0 : decode cX1_init 0 = .ok (.aload_n 0, 1) := by decide +kernel
theorem dX1_init_1 : decode cX1_init 1 = .ok (.invokespecial 3, 3) := by decide +kernel
theorem dX1_init_4 : decode cX1_init 4 = .ok (.aload_n 0, 1) := by decide +kernel
theorem dX1_init_5 : decode cX1_init 5 = .ok (.bipush 12, 2) := by decide +kernel
theorem dX1_init_7 : decode cX1_init 7 = .ok (.newarray .int, 2) := by decide +kernel
theorem dX1_init_9 : decode cX1_init 9 = .ok (.putfield 9, 3) := by decide +kernel
theorem dX1_init_12 : decode cX1_init 12 = .ok (.aload_n 0, 1) := by decide +kernel
theorem dX1_init_13 : decode cX1_init 13 = .ok (.bipush 12, 2) := by decide +kernel
theorem dX1_init_15 : decode cX1_init 15 = .ok (.newarray .int, 2) := by decide +kernel
theorem dX1_init_17 : decode cX1_init 17 = .ok (.putfield 15, 3) := by decide +kernel
theorem dX1_init_20 : decode cX1_init 20 = .ok (.aload_n 0, 1) := by decide +kernel
theorem dX1_init_21 : decode cX1_init 21 = .ok (.bipush 12, 2) := by decide +kernel
theorem dX1_init_23 : decode cX1_init 23 = .ok (.newarray .boolean, 2) := by decide +kernel
theorem dX1_init_25 : decode cX1_init 25 = .ok (.putfield 18, 3) := by decide +kernel
theorem dX1_init_28 : decode cX1_init 28 = .ok (.aload_n 0, 1) := by decide +kernel
theorem dX1_init_29 : decode cX1_init 29 = .ok (.bipush 12, 2) := by decide +kernel
theorem dX1_init_31 : decode cX1_init 31 = .ok (.newarray .int, 2) := by decide +kernel
theorem dX1_init_33 : decode cX1_init 33 = .ok (.putfield 22, 3) := by decide +kernel
theorem dX1_init_36 : decode cX1_init 36 = .ok (.aload_n 0, 1) := by decide +kernel
theorem dX1_init_37 : decode cX1_init 37 = .ok (.bipush 12, 2) := by decide +kernel
theorem dX1_init_39 : decode cX1_init 39 = .ok (.newarray .int, 2) := by decide +kernel
theorem dX1_init_41 : decode cX1_init 41 = .ok (.putfield 25, 3) := by decide +kernel
theorem dX1_init_44 : decode cX1_init 44 = .ok (.aload_n 0, 1) := by decide +kernel
theorem dX1_init_45 : decode cX1_init 45 = .ok (.iconst 4, 1) := by decide +kernel
theorem dX1_init_46 : decode cX1_init 46 = .ok (.bipush 12, 2) := by decide +kernel
theorem dX1_init_48 : decode cX1_init 48 = .ok (.multianewarray 28 2, 4) := by decide +kernel
theorem dX1_init_52 : decode cX1_init 52 = .ok (.putfield 30, 3) := by decide +kernel
theorem dX1_init_55 : decode cX1_init 55 = .ok (.aload_n 0, 1) := by decide +kernel
theorem dX1_init_56 : decode cX1_init 56 = .ok (.aload_n 1, 1) := by decide +kernel
theorem dX1_init_57 : decode cX1_init 57 = .ok (.putfield 33, 3) := by decide +kernel
theorem dX1_init_60 : decode cX1_init 60 = .ok (.aload_n 0, 1) := by decide +kernel
theorem dX1_init_61 : decode cX1_init 61 = .ok (.iconst 0, 1) := by decide +kernel
theorem dX1_init_62 : decode cX1_init 62 = .ok (.putfield 37, 3) := by decide +kernel
theorem dX1_init_65 : decode cX1_init 65 = .ok (.return_, 1) := by decide +kernel
theorem dX1_has_0 : decode cX1_has 0 = .ok (.iload_n 1, 1) := by decide +kernel
theorem dX1_has_1 : decode cX1_has 1 = .ok (.ifCond .lt 15, 3) := by decide +kernel
theorem dX1_has_4 : decode cX1_has 4 = .ok (.iload_n 1, 1) := by decide +kernel
theorem dX1_has_5 : decode cX1_has 5 = .ok (.aload_n 0, 1) := by decide +kernel
theorem dX1_has_6 : decode cX1_has 6 = .ok (.getfield 37, 3) := by decide +kernel
theorem dX1_has_9 : decode cX1_has 9 = .ok (.if_icmp .ge 7, 3) := by decide +kernel
theorem dX1_has_12 : decode cX1_has 12 = .ok (.iconst 1, 1) := by decide +kernel
theorem dX1_has_13 : decode cX1_has 13 = .ok (.goto 4, 3) := by decide +kernel
theorem dX1_has_16 : decode cX1_has 16 = .ok (.iconst 0, 1) := by decide +kernel
theorem dX1_has_17 : decode cX1_has 17 = .ok (.ireturn, 1) := by decide +kernel
theorem dX1_howMany_0 : decode cX1_howMany 0 = .ok (.aload_n 0, 1) := by decide +kernel
theorem dX1_howMany_1 : decode cX1_howMany 1 = .ok (.getfield 37, 3) := by decide +kernel
theorem dX1_howMany_4 : decode cX1_howMany 4 = .ok (.ireturn, 1) := by decide +kernel
theorem dX1_howManyDefined_0 : decode cX1_howManyDefined 0 = .ok (.iconst 0, 1) := by decide +kernel
theorem dX1_howManyDefined_1 : decode cX1_howManyDefined 1 = .ok (.istore_n 1, 1) := by decide +kernel
theorem dX1_howManyDefined_2 : decode cX1_howManyDefined 2 = .ok (.iconst 0, 1) := by decide +kernel
theorem dX1_howManyDefined_3 : decode cX1_howManyDefined 3 = .ok (.istore_n 2, 1) := by decide +kernel
theorem dX1_howManyDefined_4 : decode cX1_howManyDefined 4 = .ok (.iload_n 2, 1) := by decide +kernel
theorem dX1_howManyDefined_5 : decode cX1_howManyDefined 5 = .ok (.aload_n 0, 1) := by decide +kernel
theorem dX1_howManyDefined_6 : decode cX1_howManyDefined 6 = .ok (.getfield 37, 3) := by decide +kernel
theorem dX1_howManyDefined_9 : decode cX1_howManyDefined 9 = .ok (.if_icmp .ge 23, 3) := by decide +kernel
theorem dX1_howManyDefined_12 : decode cX1_howManyDefined 12 = .ok (.aload_n 0, 1) := by decide +kernel
theorem dX1_howManyDefined_13 : decode cX1_howManyDefined 13 = .ok (.getfield 15, 3) := by decide +kernel
theorem dX1_howManyDefined_16 : decode cX1_howManyDefined 16 = .ok (.iload_n 2, 1) := by decide +kernel
theorem dX1_howManyDefined_17 : decode cX1_howManyDefined 17 = .ok (.iaload, 1) := by decide +kernel
theorem dX1_howManyDefined_18 : decode cX1_howManyDefined 18 = .ok (.bipush (-9), 2) := by decide +kernel
theorem dX1_howManyDefined_20 : decode cX1_howManyDefined 20 = .ok (.if_icmp .eq 6, 3) := by decide +kernel
theorem dX1_howManyDefined_23 : decode cX1_howManyDefined 23 = .ok (.iinc 1 1, 3) := by decide +kernel
theorem dX1_howManyDefined_26 : decode cX1_howManyDefined 26 = .ok (.iinc 2 1, 3) := by decide +kernel
theorem dX1_howManyDefined_29 : decode cX1_howManyDefined 29 = .ok (.goto (-25), 3) := by decide +kernel
theorem dX1_howManyDefined_32 : decode cX1_howManyDefined 32 = .ok (.iload_n 1, 1) := by decide +kernel
theorem dX1_howManyDefined_33 : decode cX1_howManyDefined 33 = .ok (.ireturn, 1) := by decide +kernel
theorem dX1_howManyFolded_0 : decode cX1_howManyFolded 0 = .ok (.iconst 0, 1) := by decide +kernel
theorem dX1_howManyFolded_1 : decode cX1_howManyFolded 1 = .ok (.istore_n 1, 1) := by decide +kernel
theorem dX1_howManyFolded_2 : decode cX1_howManyFolded 2 = .ok (.iconst 0, 1) := by decide +kernel
theorem dX1_howManyFolded_3 : decode cX1_howManyFolded 3 = .ok (.istore_n 2, 1) := by decide +kernel
theorem dX1_howManyFolded_4 : decode cX1_howManyFolded 4 = .ok (.iload_n 2, 1) := by decide +kernel
theorem dX1_howManyFolded_5 : decode cX1_howManyFolded 5 = .ok (.aload_n 0, 1) := by decide +kernel
theorem dX1_howManyFolded_6 : decode cX1_howManyFolded 6 = .ok (.getfield 37, 3) := by decide +kernel
theorem dX1_howManyFolded_9 : decode cX1_howManyFolded 9 = .ok (.if_icmp .ge 20, 3) := by decide +kernel
theorem dX1_howManyFolded_12 : decode cX1_howManyFolded 12 = .ok (.aload_n 0, 1) := by decide +kernel
theorem dX1_howManyFolded_13 : decode cX1_howManyFolded 13 = .ok (.iload_n 2, 1) := by decide +kernel
theorem dX1_howManyFolded_14 : decode cX1_howManyFolded 14 = .ok (.invokevirtual 41, 3) := by decide +kernel
theorem dX1_howManyFolded_17 : decode cX1_howManyFolded 17 = .ok (.ifCond .eq 6, 3) := by decide +kernel
theorem dX1_howManyFolded_20 : decode cX1_howManyFolded 20 = .ok (.iinc 1 1, 3) := by decide +kernel
theorem dX1_howManyFolded_23 : decode cX1_howManyFolded 23 = .ok (.iinc 2 1, 3) := by decide +kernel
theorem dX1_howManyFolded_26 : decode cX1_howManyFolded 26 = .ok (.goto (-22), 3) := by decide +kernel
theorem dX1_howManyFolded_29 : decode cX1_howManyFolded 29 = .ok (.iload_n 1, 1) := by decide +kernel
theorem dX1_howManyFolded_30 : decode cX1_howManyFolded 30 = .ok (.ireturn, 1) := by decide +kernel
theorem dX1_arityOf_0 : decode cX1_arityOf 0 = .ok (.aload_n 0, 1) := by decide +kernel
theorem dX1_arityOf_1 : decode cX1_arityOf 1 = .ok (.iload_n 1, 1) := by decide +kernel
theorem dX1_arityOf_2 : decode cX1_arityOf 2 = .ok (.invokevirtual 45, 3) := by decide +kernel
theorem dX1_arityOf_5 : decode cX1_arityOf 5 = .ok (.ifCond .eq 12, 3) := by decide +kernel
theorem dX1_arityOf_8 : decode cX1_arityOf 8 = .ok (.aload_n 0, 1) := by decide +kernel
theorem dX1_arityOf_9 : decode cX1_arityOf 9 = .ok (.getfield 9, 3) := by decide +kernel
theorem dX1_arityOf_12 : decode cX1_arityOf 12 = .ok (.iload_n 1, 1) := by decide +kernel
theorem dX1_arityOf_13 : decode cX1_arityOf 13 = .ok (.iaload, 1) := by decide +kernel
theorem dX1_arityOf_14 : decode cX1_arityOf 14 = .ok (.goto 4, 3) := by decide +kernel
theorem dX1_arityOf_17 : decode cX1_arityOf 17 = .ok (.iconst 0, 1) := by decide +kernel
theorem dX1_arityOf_18 : decode cX1_arityOf 18 = .ok (.ireturn, 1) := by decide +kernel
theorem dX1_definitionOf_0 : decode cX1_definitionOf 0 = .ok (.aload_n 0, 1) := by decide +kernel
theorem dX1_definitionOf_1 : decode cX1_definitionOf 1 = .ok (.iload_n 1, 1) := by decide +kernel
theorem dX1_definitionOf_2 : decode cX1_definitionOf 2 = .ok (.invokevirtual 45, 3) := by decide +kernel
theorem dX1_definitionOf_5 : decode cX1_definitionOf 5 = .ok (.ifCond .eq 12, 3) := by decide +kernel
theorem dX1_definitionOf_8 : decode cX1_definitionOf 8 = .ok (.aload_n 0, 1) := by decide +kernel
theorem dX1_definitionOf_9 : decode cX1_definitionOf 9 = .ok (.getfield 15, 3) := by decide +kernel
theorem dX1_definitionOf_12 : decode cX1_definitionOf 12 = .ok (.iload_n 1, 1) := by decide +kernel
theorem dX1_definitionOf_13 : decode cX1_definitionOf 13 = .ok (.iaload, 1) := by decide +kernel
theorem dX1_definitionOf_14 : decode cX1_definitionOf 14 = .ok (.goto 5, 3) := by decide +kernel
theorem dX1_definitionOf_17 : decode cX1_definitionOf 17 = .ok (.bipush (-9), 2) := by decide +kernel
theorem dX1_definitionOf_19 : decode cX1_definitionOf 19 = .ok (.ireturn, 1) := by decide +kernel
theorem dX1_isOpaque_0 : decode cX1_isOpaque 0 = .ok (.aload_n 0, 1) := by decide +kernel
theorem dX1_isOpaque_1 : decode cX1_isOpaque 1 = .ok (.iload_n 1, 1) := by decide +kernel
theorem dX1_isOpaque_2 : decode cX1_isOpaque 2 = .ok (.invokevirtual 45, 3) := by decide +kernel
theorem dX1_isOpaque_5 : decode cX1_isOpaque 5 = .ok (.ifCond .eq 16, 3) := by decide +kernel
theorem dX1_isOpaque_8 : decode cX1_isOpaque 8 = .ok (.aload_n 0, 1) := by decide +kernel
theorem dX1_isOpaque_9 : decode cX1_isOpaque 9 = .ok (.getfield 18, 3) := by decide +kernel
theorem dX1_isOpaque_12 : decode cX1_isOpaque 12 = .ok (.iload_n 1, 1) := by decide +kernel
theorem dX1_isOpaque_13 : decode cX1_isOpaque 13 = .ok (.baload, 1) := by decide +kernel
theorem dX1_isOpaque_14 : decode cX1_isOpaque 14 = .ok (.ifCond .eq 7, 3) := by decide +kernel
theorem dX1_isOpaque_17 : decode cX1_isOpaque 17 = .ok (.iconst 1, 1) := by decide +kernel
theorem dX1_isOpaque_18 : decode cX1_isOpaque 18 = .ok (.goto 4, 3) := by decide +kernel
theorem dX1_isOpaque_21 : decode cX1_isOpaque 21 = .ok (.iconst 0, 1) := by decide +kernel
theorem dX1_isOpaque_22 : decode cX1_isOpaque 22 = .ok (.ireturn, 1) := by decide +kernel
theorem dX1_isFolded_0 : decode cX1_isFolded 0 = .ok (.aload_n 0, 1) := by decide +kernel
theorem dX1_isFolded_1 : decode cX1_isFolded 1 = .ok (.iload_n 1, 1) := by decide +kernel
theorem dX1_isFolded_2 : decode cX1_isFolded 2 = .ok (.invokevirtual 48, 3) := by decide +kernel
theorem dX1_isFolded_5 : decode cX1_isFolded 5 = .ok (.bipush (-9), 2) := by decide +kernel
theorem dX1_isFolded_7 : decode cX1_isFolded 7 = .ok (.if_icmp .eq 15, 3) := by decide +kernel
theorem dX1_isFolded_10 : decode cX1_isFolded 10 = .ok (.aload_n 0, 1) := by decide +kernel
theorem dX1_isFolded_11 : decode cX1_isFolded 11 = .ok (.iload_n 1, 1) := by decide +kernel
theorem dX1_isFolded_12 : decode cX1_isFolded 12 = .ok (.invokevirtual 52, 3) := by decide +kernel
theorem dX1_isFolded_15 : decode cX1_isFolded 15 = .ok (.ifCond .ne 7, 3) := by decide +kernel
theorem dX1_isFolded_18 : decode cX1_isFolded 18 = .ok (.iconst 1, 1) := by decide +kernel
theorem dX1_isFolded_19 : decode cX1_isFolded 19 = .ok (.goto 4, 3) := by decide +kernel
theorem dX1_isFolded_22 : decode cX1_isFolded 22 = .ok (.iconst 0, 1) := by decide +kernel
theorem dX1_isFolded_23 : decode cX1_isFolded 23 = .ok (.ireturn, 1) := by decide +kernel
theorem dX1_heightOf_0 : decode cX1_heightOf 0 = .ok (.aload_n 0, 1) := by decide +kernel
theorem dX1_heightOf_1 : decode cX1_heightOf 1 = .ok (.iload_n 1, 1) := by decide +kernel
theorem dX1_heightOf_2 : decode cX1_heightOf 2 = .ok (.invokevirtual 45, 3) := by decide +kernel
theorem dX1_heightOf_5 : decode cX1_heightOf 5 = .ok (.ifCond .eq 12, 3) := by decide +kernel
theorem dX1_heightOf_8 : decode cX1_heightOf 8 = .ok (.aload_n 0, 1) := by decide +kernel
theorem dX1_heightOf_9 : decode cX1_heightOf 9 = .ok (.getfield 22, 3) := by decide +kernel
theorem dX1_heightOf_12 : decode cX1_heightOf 12 = .ok (.iload_n 1, 1) := by decide +kernel
theorem dX1_heightOf_13 : decode cX1_heightOf 13 = .ok (.iaload, 1) := by decide +kernel
theorem dX1_heightOf_14 : decode cX1_heightOf 14 = .ok (.goto 4, 3) := by decide +kernel
theorem dX1_heightOf_17 : decode cX1_heightOf 17 = .ok (.iconst 0, 1) := by decide +kernel
theorem dX1_heightOf_18 : decode cX1_heightOf 18 = .ok (.ireturn, 1) := by decide +kernel
theorem dX1_come_0 : decode cX1_come 0 = .ok (.aload_n 0, 1) := by decide +kernel
theorem dX1_come_1 : decode cX1_come 1 = .ok (.getfield 37, 3) := by decide +kernel
theorem dX1_come_4 : decode cX1_come 4 = .ok (.bipush 12, 2) := by decide +kernel
theorem dX1_come_6 : decode cX1_come 6 = .ok (.if_icmp .lt 6, 3) := by decide +kernel
theorem dX1_come_9 : decode cX1_come 9 = .ok (.bipush (-4), 2) := by decide +kernel
theorem dX1_come_11 : decode cX1_come 11 = .ok (.ireturn, 1) := by decide +kernel
theorem dX1_come_12 : decode cX1_come 12 = .ok (.aload_n 0, 1) := by decide +kernel
theorem dX1_come_13 : decode cX1_come 13 = .ok (.getfield 37, 3) := by decide +kernel
theorem dX1_come_16 : decode cX1_come 16 = .ok (.istore_n 2, 1) := by decide +kernel
theorem dX1_come_17 : decode cX1_come 17 = .ok (.aload_n 0, 1) := by decide +kernel
theorem dX1_come_18 : decode cX1_come 18 = .ok (.getfield 9, 3) := by decide +kernel
theorem dX1_come_21 : decode cX1_come 21 = .ok (.iload_n 2, 1) := by decide +kernel
theorem dX1_come_22 : decode cX1_come 22 = .ok (.iload_n 1, 1) := by decide +kernel
theorem dX1_come_23 : decode cX1_come 23 = .ok (.iastore, 1) := by decide +kernel
theorem dX1_come_24 : decode cX1_come 24 = .ok (.aload_n 0, 1) := by decide +kernel
theorem dX1_come_25 : decode cX1_come 25 = .ok (.getfield 15, 3) := by decide +kernel
theorem dX1_come_28 : decode cX1_come 28 = .ok (.iload_n 2, 1) := by decide +kernel
theorem dX1_come_29 : decode cX1_come 29 = .ok (.bipush (-9), 2) := by decide +kernel
theorem dX1_come_31 : decode cX1_come 31 = .ok (.iastore, 1) := by decide +kernel
theorem dX1_come_32 : decode cX1_come 32 = .ok (.aload_n 0, 1) := by decide +kernel
theorem dX1_come_33 : decode cX1_come 33 = .ok (.getfield 18, 3) := by decide +kernel
theorem dX1_come_36 : decode cX1_come 36 = .ok (.iload_n 2, 1) := by decide +kernel
theorem dX1_come_37 : decode cX1_come 37 = .ok (.iconst 0, 1) := by decide +kernel
theorem dX1_come_38 : decode cX1_come 38 = .ok (.bastore, 1) := by decide +kernel
theorem dX1_come_39 : decode cX1_come 39 = .ok (.aload_n 0, 1) := by decide +kernel
theorem dX1_come_40 : decode cX1_come 40 = .ok (.dup, 1) := by decide +kernel
theorem dX1_come_41 : decode cX1_come 41 = .ok (.getfield 37, 3) := by decide +kernel
theorem dX1_come_44 : decode cX1_come 44 = .ok (.iconst 1, 1) := by decide +kernel
theorem dX1_come_45 : decode cX1_come 45 = .ok (.iadd, 1) := by decide +kernel
theorem dX1_come_46 : decode cX1_come 46 = .ok (.putfield 37, 3) := by decide +kernel
theorem dX1_come_49 : decode cX1_come 49 = .ok (.aload_n 0, 1) := by decide +kernel
theorem dX1_come_50 : decode cX1_come 50 = .ok (.iload_n 2, 1) := by decide +kernel
theorem dX1_come_51 : decode cX1_come 51 = .ok (.invokevirtual 55, 3) := by decide +kernel
theorem dX1_come_54 : decode cX1_come 54 = .ok (.iload_n 2, 1) := by decide +kernel
theorem dX1_come_55 : decode cX1_come 55 = .ok (.ireturn, 1) := by decide +kernel
theorem dX1_mayStandFor_0 : decode cX1_mayStandFor 0 = .ok (.iconst (-1), 1) := by decide +kernel
theorem dX1_mayStandFor_1 : decode cX1_mayStandFor 1 = .ok (.iload_n 1, 1) := by decide +kernel
theorem dX1_mayStandFor_2 : decode cX1_mayStandFor 2 = .ok (.ishl, 1) := by decide +kernel
theorem dX1_mayStandFor_3 : decode cX1_mayStandFor 3 = .ok (.istore_n 3, 1) := by decide +kernel
theorem dX1_mayStandFor_4 : decode cX1_mayStandFor 4 = .ok (.aload_n 0, 1) := by decide +kernel
theorem dX1_mayStandFor_5 : decode cX1_mayStandFor 5 = .ok (.getfield 33, 3) := by decide +kernel
theorem dX1_mayStandFor_8 : decode cX1_mayStandFor 8 = .ok (.iload_n 2, 1) := by decide +kernel
theorem dX1_mayStandFor_9 : decode cX1_mayStandFor 9 = .ok (.invokevirtual 59, 3) := by decide +kernel
theorem dX1_mayStandFor_12 : decode cX1_mayStandFor 12 = .ok (.iload_n 3, 1) := by decide +kernel
theorem dX1_mayStandFor_13 : decode cX1_mayStandFor 13 = .ok (.iand, 1) := by decide +kernel
theorem dX1_mayStandFor_14 : decode cX1_mayStandFor 14 = .ok (.ifCond .eq 5, 3) := by decide +kernel
theorem dX1_mayStandFor_17 : decode cX1_mayStandFor 17 = .ok (.iconst 0, 1) := by decide +kernel
theorem dX1_mayStandFor_18 : decode cX1_mayStandFor 18 = .ok (.ireturn, 1) := by decide +kernel
theorem dX1_mayStandFor_19 : decode cX1_mayStandFor 19 = .ok (.aload_n 0, 1) := by decide +kernel
theorem dX1_mayStandFor_20 : decode cX1_mayStandFor 20 = .ok (.iload_n 1, 1) := by decide +kernel
theorem dX1_mayStandFor_21 : decode cX1_mayStandFor 21 = .ok (.invokevirtual 64, 3) := by decide +kernel
theorem dX1_mayStandFor_24 : decode cX1_mayStandFor 24 = .ok (.istore 4, 2) := by decide +kernel
theorem dX1_mayStandFor_26 : decode cX1_mayStandFor 26 = .ok (.iload 4, 2) := by decide +kernel
theorem dX1_mayStandFor_28 : decode cX1_mayStandFor 28 = .ok (.iconst 2, 1) := by decide +kernel
theorem dX1_mayStandFor_29 : decode cX1_mayStandFor 29 = .ok (.if_icmp .ge 24, 3) := by decide +kernel
theorem dX1_mayStandFor_32 : decode cX1_mayStandFor 32 = .ok (.aload_n 0, 1) := by decide +kernel
theorem dX1_mayStandFor_33 : decode cX1_mayStandFor 33 = .ok (.getfield 33, 3) := by decide +kernel
theorem dX1_mayStandFor_36 : decode cX1_mayStandFor 36 = .ok (.iload_n 2, 1) := by decide +kernel
theorem dX1_mayStandFor_37 : decode cX1_mayStandFor 37 = .ok (.iload 4, 2) := by decide +kernel
theorem dX1_mayStandFor_39 : decode cX1_mayStandFor 39 = .ok (.invokevirtual 67, 3) := by decide +kernel
theorem dX1_mayStandFor_42 : decode cX1_mayStandFor 42 = .ok (.ifCond .eq 5, 3) := by decide +kernel
theorem dX1_mayStandFor_45 : decode cX1_mayStandFor 45 = .ok (.iconst 0, 1) := by decide +kernel
theorem dX1_mayStandFor_46 : decode cX1_mayStandFor 46 = .ok (.ireturn, 1) := by decide +kernel
theorem dX1_mayStandFor_47 : decode cX1_mayStandFor 47 = .ok (.iinc 4 1, 3) := by decide +kernel
theorem dX1_mayStandFor_50 : decode cX1_mayStandFor 50 = .ok (.goto (-24), 3) := by decide +kernel
theorem dX1_mayStandFor_53 : decode cX1_mayStandFor 53 = .ok (.iconst 1, 1) := by decide +kernel
theorem dX1_mayStandFor_54 : decode cX1_mayStandFor 54 = .ok (.ireturn, 1) := by decide +kernel
theorem dX1_redefine_0 : decode cX1_redefine 0 = .ok (.aload_n 0, 1) := by decide +kernel
theorem dX1_redefine_1 : decode cX1_redefine 1 = .ok (.iload_n 1, 1) := by decide +kernel
theorem dX1_redefine_2 : decode cX1_redefine 2 = .ok (.invokevirtual 45, 3) := by decide +kernel
theorem dX1_redefine_5 : decode cX1_redefine 5 = .ok (.ifCond .ne 5, 3) := by decide +kernel
theorem dX1_redefine_8 : decode cX1_redefine 8 = .ok (.iconst (-1), 1) := by decide +kernel
theorem dX1_redefine_9 : decode cX1_redefine 9 = .ok (.ireturn, 1) := by decide +kernel
theorem dX1_redefine_10 : decode cX1_redefine 10 = .ok (.aload_n 0, 1) := by decide +kernel
theorem dX1_redefine_11 : decode cX1_redefine 11 = .ok (.getfield 15, 3) := by decide +kernel
theorem dX1_redefine_14 : decode cX1_redefine 14 = .ok (.iload_n 1, 1) := by decide +kernel
theorem dX1_redefine_15 : decode cX1_redefine 15 = .ok (.iaload, 1) := by decide +kernel
theorem dX1_redefine_16 : decode cX1_redefine 16 = .ok (.istore_n 3, 1) := by decide +kernel
theorem dX1_redefine_17 : decode cX1_redefine 17 = .ok (.aload_n 0, 1) := by decide +kernel
theorem dX1_redefine_18 : decode cX1_redefine 18 = .ok (.getfield 15, 3) := by decide +kernel
theorem dX1_redefine_21 : decode cX1_redefine 21 = .ok (.iload_n 1, 1) := by decide +kernel
theorem dX1_redefine_22 : decode cX1_redefine 22 = .ok (.iload_n 2, 1) := by decide +kernel
theorem dX1_redefine_23 : decode cX1_redefine 23 = .ok (.iastore, 1) := by decide +kernel
theorem dX1_redefine_24 : decode cX1_redefine 24 = .ok (.aload_n 0, 1) := by decide +kernel
theorem dX1_redefine_25 : decode cX1_redefine 25 = .ok (.iload_n 1, 1) := by decide +kernel
theorem dX1_redefine_26 : decode cX1_redefine 26 = .ok (.invokevirtual 55, 3) := by decide +kernel
theorem dX1_redefine_29 : decode cX1_redefine 29 = .ok (.iload_n 3, 1) := by decide +kernel
theorem dX1_redefine_30 : decode cX1_redefine 30 = .ok (.ireturn, 1) := by decide +kernel
theorem dX1_cover_0 : decode cX1_cover 0 = .ok (.aload_n 0, 1) := by decide +kernel
theorem dX1_cover_1 : decode cX1_cover 1 = .ok (.iload_n 1, 1) := by decide +kernel
theorem dX1_cover_2 : decode cX1_cover 2 = .ok (.invokevirtual 45, 3) := by decide +kernel
theorem dX1_cover_5 : decode cX1_cover 5 = .ok (.ifCond .eq 13, 3) := by decide +kernel
theorem dX1_cover_8 : decode cX1_cover 8 = .ok (.aload_n 0, 1) := by decide +kernel
theorem dX1_cover_9 : decode cX1_cover 9 = .ok (.getfield 18, 3) := by decide +kernel
theorem dX1_cover_12 : decode cX1_cover 12 = .ok (.iload_n 1, 1) := by decide +kernel
theorem dX1_cover_13 : decode cX1_cover 13 = .ok (.baload, 1) := by decide +kernel
theorem dX1_cover_14 : decode cX1_cover 14 = .ok (.iload_n 2, 1) := by decide +kernel
theorem dX1_cover_15 : decode cX1_cover 15 = .ok (.if_icmp .ne 5, 3) := by decide +kernel
theorem dX1_cover_18 : decode cX1_cover 18 = .ok (.iconst 0, 1) := by decide +kernel
theorem dX1_cover_19 : decode cX1_cover 19 = .ok (.ireturn, 1) := by decide +kernel
theorem dX1_cover_20 : decode cX1_cover 20 = .ok (.aload_n 0, 1) := by decide +kernel
theorem dX1_cover_21 : decode cX1_cover 21 = .ok (.getfield 18, 3) := by decide +kernel
theorem dX1_cover_24 : decode cX1_cover 24 = .ok (.iload_n 1, 1) := by decide +kernel
theorem dX1_cover_25 : decode cX1_cover 25 = .ok (.iload_n 2, 1) := by decide +kernel
theorem dX1_cover_26 : decode cX1_cover 26 = .ok (.bastore, 1) := by decide +kernel
theorem dX1_cover_27 : decode cX1_cover 27 = .ok (.aload_n 0, 1) := by decide +kernel
theorem dX1_cover_28 : decode cX1_cover 28 = .ok (.iload_n 1, 1) := by decide +kernel
theorem dX1_cover_29 : decode cX1_cover 29 = .ok (.invokevirtual 55, 3) := by decide +kernel
theorem dX1_cover_32 : decode cX1_cover 32 = .ok (.iconst 1, 1) := by decide +kernel
theorem dX1_cover_33 : decode cX1_cover 33 = .ok (.ireturn, 1) := by decide +kernel
theorem dX1_settleFrom_0 : decode cX1_settleFrom 0 = .ok (.iload_n 1, 1) := by decide +kernel
theorem dX1_settleFrom_1 : decode cX1_settleFrom 1 = .ok (.istore_n 2, 1) := by decide +kernel
theorem dX1_settleFrom_2 : decode cX1_settleFrom 2 = .ok (.iload_n 2, 1) := by decide +kernel
theorem dX1_settleFrom_3 : decode cX1_settleFrom 3 = .ok (.aload_n 0, 1) := by decide +kernel
theorem dX1_settleFrom_4 : decode cX1_settleFrom 4 = .ok (.getfield 37, 3) := by decide +kernel
theorem dX1_settleFrom_7 : decode cX1_settleFrom 7 = .ok (.if_icmp .ge 30, 3) := by decide +kernel
theorem dX1_settleFrom_10 : decode cX1_settleFrom 10 = .ok (.aload_n 0, 1) := by decide +kernel
theorem dX1_settleFrom_11 : decode cX1_settleFrom 11 = .ok (.iload_n 2, 1) := by decide +kernel
theorem dX1_settleFrom_12 : decode cX1_settleFrom 12 = .ok (.invokevirtual 41, 3) := by decide +kernel
theorem dX1_settleFrom_15 : decode cX1_settleFrom 15 = .ok (.ifCond .eq 11, 3) := by decide +kernel
theorem dX1_settleFrom_18 : decode cX1_settleFrom 18 = .ok (.aload_n 0, 1) := by decide +kernel
theorem dX1_settleFrom_19 : decode cX1_settleFrom 19 = .ok (.iload_n 2, 1) := by decide +kernel
theorem dX1_settleFrom_20 : decode cX1_settleFrom 20 = .ok (.invokevirtual 71, 3) := by decide +kernel
theorem dX1_settleFrom_23 : decode cX1_settleFrom 23 = .ok (.goto 8, 3) := by decide +kernel
theorem dX1_settleFrom_26 : decode cX1_settleFrom 26 = .ok (.aload_n 0, 1) := by decide +kernel
theorem dX1_settleFrom_27 : decode cX1_settleFrom 27 = .ok (.iload_n 2, 1) := by decide +kernel
theorem dX1_settleFrom_28 : decode cX1_settleFrom 28 = .ok (.invokevirtual 74, 3) := by decide +kernel
theorem dX1_settleFrom_31 : decode cX1_settleFrom 31 = .ok (.iinc 2 1, 3) := by decide +kernel
theorem dX1_settleFrom_34 : decode cX1_settleFrom 34 = .ok (.goto (-32), 3) := by decide +kernel
theorem dX1_settleFrom_37 : decode cX1_settleFrom 37 = .ok (.return_, 1) := by decide +kernel
theorem dX1_settlePlain_0 : decode cX1_settlePlain 0 = .ok (.aload_n 0, 1) := by decide +kernel
theorem dX1_settlePlain_1 : decode cX1_settlePlain 1 = .ok (.iload_n 1, 1) := by decide +kernel
theorem dX1_settlePlain_2 : decode cX1_settlePlain 2 = .ok (.invokevirtual 45, 3) := by decide +kernel
theorem dX1_settlePlain_5 : decode cX1_settlePlain 5 = .ok (.ifCond .ne 4, 3) := by decide +kernel
theorem dX1_settlePlain_8 : decode cX1_settlePlain 8 = .ok (.return_, 1) := by decide +kernel
theorem dX1_settlePlain_9 : decode cX1_settlePlain 9 = .ok (.aload_n 0, 1) := by decide +kernel
theorem dX1_settlePlain_10 : decode cX1_settlePlain 10 = .ok (.getfield 22, 3) := by decide +kernel
theorem dX1_settlePlain_13 : decode cX1_settlePlain 13 = .ok (.iload_n 1, 1) := by decide +kernel
theorem dX1_settlePlain_14 : decode cX1_settlePlain 14 = .ok (.iconst 0, 1) := by decide +kernel
theorem dX1_settlePlain_15 : decode cX1_settlePlain 15 = .ok (.iastore, 1) := by decide +kernel
theorem dX1_settlePlain_16 : decode cX1_settlePlain 16 = .ok (.aload_n 0, 1) := by decide +kernel
theorem dX1_settlePlain_17 : decode cX1_settlePlain 17 = .ok (.getfield 25, 3) := by decide +kernel
theorem dX1_settlePlain_20 : decode cX1_settlePlain 20 = .ok (.iload_n 1, 1) := by decide +kernel
theorem dX1_settlePlain_21 : decode cX1_settlePlain 21 = .ok (.iload_n 1, 1) := by decide +kernel
theorem dX1_settlePlain_22 : decode cX1_settlePlain 22 = .ok (.iastore, 1) := by decide +kernel
theorem dX1_settlePlain_23 : decode cX1_settlePlain 23 = .ok (.iconst 0, 1) := by decide +kernel
theorem dX1_settlePlain_24 : decode cX1_settlePlain 24 = .ok (.istore_n 2, 1) := by decide +kernel
theorem dX1_settlePlain_25 : decode cX1_settlePlain 25 = .ok (.iload_n 2, 1) := by decide +kernel
theorem dX1_settlePlain_26 : decode cX1_settlePlain 26 = .ok (.iconst 2, 1) := by decide +kernel
theorem dX1_settlePlain_27 : decode cX1_settlePlain 27 = .ok (.if_icmp .ge 32, 3) := by decide +kernel
theorem dX1_settlePlain_30 : decode cX1_settlePlain 30 = .ok (.aload_n 0, 1) := by decide +kernel
theorem dX1_settlePlain_31 : decode cX1_settlePlain 31 = .ok (.getfield 30, 3) := by decide +kernel
theorem dX1_settlePlain_34 : decode cX1_settlePlain 34 = .ok (.iload_n 2, 1) := by decide +kernel
theorem dX1_settlePlain_35 : decode cX1_settlePlain 35 = .ok (.aaload, 1) := by decide +kernel
theorem dX1_settlePlain_36 : decode cX1_settlePlain 36 = .ok (.iload_n 1, 1) := by decide +kernel
theorem dX1_settlePlain_37 : decode cX1_settlePlain 37 = .ok (.iload_n 2, 1) := by decide +kernel
theorem dX1_settlePlain_38 : decode cX1_settlePlain 38 = .ok (.aload_n 0, 1) := by decide +kernel
theorem dX1_settlePlain_39 : decode cX1_settlePlain 39 = .ok (.getfield 9, 3) := by decide +kernel
theorem dX1_settlePlain_42 : decode cX1_settlePlain 42 = .ok (.iload_n 1, 1) := by decide +kernel
theorem dX1_settlePlain_43 : decode cX1_settlePlain 43 = .ok (.iaload, 1) := by decide +kernel
theorem dX1_settlePlain_44 : decode cX1_settlePlain 44 = .ok (.if_icmp .ge 7, 3) := by decide +kernel
theorem dX1_settlePlain_47 : decode cX1_settlePlain 47 = .ok (.lconst 1, 1) := by decide +kernel
theorem dX1_settlePlain_48 : decode cX1_settlePlain 48 = .ok (.goto 4, 3) := by decide +kernel
theorem dX1_settlePlain_51 : decode cX1_settlePlain 51 = .ok (.lconst 0, 1) := by decide +kernel
theorem dX1_settlePlain_52 : decode cX1_settlePlain 52 = .ok (.lastore, 1) := by decide +kernel
theorem dX1_settlePlain_53 : decode cX1_settlePlain 53 = .ok (.iinc 2 1, 3) := by decide +kernel
theorem dX1_settlePlain_56 : decode cX1_settlePlain 56 = .ok (.goto (-31), 3) := by decide +kernel
theorem dX1_settlePlain_59 : decode cX1_settlePlain 59 = .ok (.aload_n 0, 1) := by decide +kernel
theorem dX1_settlePlain_60 : decode cX1_settlePlain 60 = .ok (.getfield 30, 3) := by decide +kernel
theorem dX1_settlePlain_63 : decode cX1_settlePlain 63 = .ok (.iconst 2, 1) := by decide +kernel
theorem dX1_settlePlain_64 : decode cX1_settlePlain 64 = .ok (.aaload, 1) := by decide +kernel
theorem dX1_settlePlain_65 : decode cX1_settlePlain 65 = .ok (.iload_n 1, 1) := by decide +kernel
theorem dX1_settlePlain_66 : decode cX1_settlePlain 66 = .ok (.lconst 1, 1) := by decide +kernel
theorem dX1_settlePlain_67 : decode cX1_settlePlain 67 = .ok (.lastore, 1) := by decide +kernel
theorem dX1_settlePlain_68 : decode cX1_settlePlain 68 = .ok (.aload_n 0, 1) := by decide +kernel
theorem dX1_settlePlain_69 : decode cX1_settlePlain 69 = .ok (.getfield 30, 3) := by decide +kernel
theorem dX1_settlePlain_72 : decode cX1_settlePlain 72 = .ok (.iconst 3, 1) := by decide +kernel
theorem dX1_settlePlain_73 : decode cX1_settlePlain 73 = .ok (.aaload, 1) := by decide +kernel
theorem dX1_settlePlain_74 : decode cX1_settlePlain 74 = .ok (.iload_n 1, 1) := by decide +kernel
theorem dX1_settlePlain_75 : decode cX1_settlePlain 75 = .ok (.lconst 0, 1) := by decide +kernel
theorem dX1_settlePlain_76 : decode cX1_settlePlain 76 = .ok (.lastore, 1) := by decide +kernel
theorem dX1_settlePlain_77 : decode cX1_settlePlain 77 = .ok (.return_, 1) := by decide +kernel
theorem dX1_settleFolded_0 : decode cX1_settleFolded 0 = .ok (.aload_n 0, 1) := by decide +kernel
theorem dX1_settleFolded_1 : decode cX1_settleFolded 1 = .ok (.iload_n 1, 1) := by decide +kernel
theorem dX1_settleFolded_2 : decode cX1_settleFolded 2 = .ok (.invokevirtual 45, 3) := by decide +kernel
theorem dX1_settleFolded_5 : decode cX1_settleFolded 5 = .ok (.ifCond .ne 4, 3) := by decide +kernel
theorem dX1_settleFolded_8 : decode cX1_settleFolded 8 = .ok (.return_, 1) := by decide +kernel
theorem dX1_settleFolded_9 : decode cX1_settleFolded 9 = .ok (.aload_n 0, 1) := by decide +kernel
theorem dX1_settleFolded_10 : decode cX1_settleFolded 10 = .ok (.getfield 15, 3) := by decide +kernel
theorem dX1_settleFolded_13 : decode cX1_settleFolded 13 = .ok (.iload_n 1, 1) := by decide +kernel
theorem dX1_settleFolded_14 : decode cX1_settleFolded 14 = .ok (.iaload, 1) := by decide +kernel
theorem dX1_settleFolded_15 : decode cX1_settleFolded 15 = .ok (.istore_n 2, 1) := by decide +kernel
theorem dX1_settleFolded_16 : decode cX1_settleFolded 16 = .ok (.aload_n 0, 1) := by decide +kernel
theorem dX1_settleFolded_17 : decode cX1_settleFolded 17 = .ok (.getfield 22, 3) := by decide +kernel
theorem dX1_settleFolded_20 : decode cX1_settleFolded 20 = .ok (.iload_n 1, 1) := by decide +kernel
theorem dX1_settleFolded_21 : decode cX1_settleFolded 21 = .ok (.iconst 1, 1) := by decide +kernel
theorem dX1_settleFolded_22 : decode cX1_settleFolded 22 = .ok (.aload_n 0, 1) := by decide +kernel
theorem dX1_settleFolded_23 : decode cX1_settleFolded 23 = .ok (.iload_n 2, 1) := by decide +kernel
theorem dX1_settleFolded_24 : decode cX1_settleFolded 24 = .ok (.invokevirtual 77, 3) := by decide +kernel
theorem dX1_settleFolded_27 : decode cX1_settleFolded 27 = .ok (.iadd, 1) := by decide +kernel
theorem dX1_settleFolded_28 : decode cX1_settleFolded 28 = .ok (.iastore, 1) := by decide +kernel
theorem dX1_settleFolded_29 : decode cX1_settleFolded 29 = .ok (.aload_n 0, 1) := by decide +kernel
theorem dX1_settleFolded_30 : decode cX1_settleFolded 30 = .ok (.getfield 25, 3) := by decide +kernel
theorem dX1_settleFolded_33 : decode cX1_settleFolded 33 = .ok (.iload_n 1, 1) := by decide +kernel
theorem dX1_settleFolded_34 : decode cX1_settleFolded 34 = .ok (.aload_n 0, 1) := by decide +kernel
theorem dX1_settleFolded_35 : decode cX1_settleFolded 35 = .ok (.iload_n 2, 1) := by decide +kernel
theorem dX1_settleFolded_36 : decode cX1_settleFolded 36 = .ok (.invokevirtual 80, 3) := by decide +kernel
theorem dX1_settleFolded_39 : decode cX1_settleFolded 39 = .ok (.iastore, 1) := by decide +kernel
theorem dX1_settleFolded_40 : decode cX1_settleFolded 40 = .ok (.iconst 0, 1) := by decide +kernel
theorem dX1_settleFolded_41 : decode cX1_settleFolded 41 = .ok (.istore_n 3, 1) := by decide +kernel
theorem dX1_settleFolded_42 : decode cX1_settleFolded 42 = .ok (.iload_n 3, 1) := by decide +kernel
theorem dX1_settleFolded_43 : decode cX1_settleFolded 43 = .ok (.iconst 4, 1) := by decide +kernel
theorem dX1_settleFolded_44 : decode cX1_settleFolded 44 = .ok (.if_icmp .ge 24, 3) := by decide +kernel
theorem dX1_settleFolded_47 : decode cX1_settleFolded 47 = .ok (.aload_n 0, 1) := by decide +kernel
theorem dX1_settleFolded_48 : decode cX1_settleFolded 48 = .ok (.getfield 30, 3) := by decide +kernel
theorem dX1_settleFolded_51 : decode cX1_settleFolded 51 = .ok (.iload_n 3, 1) := by decide +kernel
theorem dX1_settleFolded_52 : decode cX1_settleFolded 52 = .ok (.aaload, 1) := by decide +kernel
theorem dX1_settleFolded_53 : decode cX1_settleFolded 53 = .ok (.iload_n 1, 1) := by decide +kernel
theorem dX1_settleFolded_54 : decode cX1_settleFolded 54 = .ok (.aload_n 0, 1) := by decide +kernel
theorem dX1_settleFolded_55 : decode cX1_settleFolded 55 = .ok (.iload_n 2, 1) := by decide +kernel
theorem dX1_settleFolded_56 : decode cX1_settleFolded 56 = .ok (.iload_n 3, 1) := by decide +kernel
theorem dX1_settleFolded_57 : decode cX1_settleFolded 57 = .ok (.iconst 1, 1) := by decide +kernel
theorem dX1_settleFolded_58 : decode cX1_settleFolded 58 = .ok (.invokevirtual 83, 3) := by decide +kernel
theorem dX1_settleFolded_61 : decode cX1_settleFolded 61 = .ok (.lastore, 1) := by decide +kernel
theorem dX1_settleFolded_62 : decode cX1_settleFolded 62 = .ok (.iinc 3 1, 3) := by decide +kernel
theorem dX1_settleFolded_65 : decode cX1_settleFolded 65 = .ok (.goto (-23), 3) := by decide +kernel
theorem dX1_settleFolded_68 : decode cX1_settleFolded 68 = .ok (.aload_n 0, 1) := by decide +kernel
theorem dX1_settleFolded_69 : decode cX1_settleFolded 69 = .ok (.getfield 30, 3) := by decide +kernel
theorem dX1_settleFolded_72 : decode cX1_settleFolded 72 = .ok (.iconst 3, 1) := by decide +kernel
theorem dX1_settleFolded_73 : decode cX1_settleFolded 73 = .ok (.aaload, 1) := by decide +kernel
theorem dX1_settleFolded_74 : decode cX1_settleFolded 74 = .ok (.iload_n 1, 1) := by decide +kernel
theorem dX1_settleFolded_75 : decode cX1_settleFolded 75 = .ok (.lconst 1, 1) := by decide +kernel
theorem dX1_settleFolded_76 : decode cX1_settleFolded 76 = .ok (.aload_n 0, 1) := by decide +kernel
theorem dX1_settleFolded_77 : decode cX1_settleFolded 77 = .ok (.getfield 30, 3) := by decide +kernel
theorem dX1_settleFolded_80 : decode cX1_settleFolded 80 = .ok (.iconst 3, 1) := by decide +kernel
theorem dX1_settleFolded_81 : decode cX1_settleFolded 81 = .ok (.aaload, 1) := by decide +kernel
theorem dX1_settleFolded_82 : decode cX1_settleFolded 82 = .ok (.iload_n 1, 1) := by decide +kernel
theorem dX1_settleFolded_83 : decode cX1_settleFolded 83 = .ok (.laload, 1) := by decide +kernel
theorem dX1_settleFolded_84 : decode cX1_settleFolded 84 = .ok (.invokestatic 87, 3) := by decide +kernel
theorem dX1_settleFolded_87 : decode cX1_settleFolded 87 = .ok (.lastore, 1) := by decide +kernel
theorem dX1_settleFolded_88 : decode cX1_settleFolded 88 = .ok (.return_, 1) := by decide +kernel
theorem dX1_greatestHeightIn_0 : decode cX1_greatestHeightIn 0 = .ok (.aload_n 0, 1) := by decide +kernel
theorem dX1_greatestHeightIn_1 : decode cX1_greatestHeightIn 1 = .ok (.getfield 33, 3) := by decide +kernel
theorem dX1_greatestHeightIn_4 : decode cX1_greatestHeightIn 4 = .ok (.iload_n 1, 1) := by decide +kernel
theorem dX1_greatestHeightIn_5 : decode cX1_greatestHeightIn 5 = .ok (.invokevirtual 59, 3) := by decide +kernel
theorem dX1_greatestHeightIn_8 : decode cX1_greatestHeightIn 8 = .ok (.istore_n 2, 1) := by decide +kernel
theorem dX1_greatestHeightIn_9 : decode cX1_greatestHeightIn 9 = .ok (.iconst 0, 1) := by decide +kernel
theorem dX1_greatestHeightIn_10 : decode cX1_greatestHeightIn 10 = .ok (.istore_n 3, 1) := by decide +kernel
theorem dX1_greatestHeightIn_11 : decode cX1_greatestHeightIn 11 = .ok (.iconst 0, 1) := by decide +kernel
theorem dX1_greatestHeightIn_12 : decode cX1_greatestHeightIn 12 = .ok (.istore 4, 2) := by decide +kernel
theorem dX1_greatestHeightIn_14 : decode cX1_greatestHeightIn 14 = .ok (.iload 4, 2) := by decide +kernel
theorem dX1_greatestHeightIn_16 : decode cX1_greatestHeightIn 16 = .ok (.aload_n 0, 1) := by decide +kernel
theorem dX1_greatestHeightIn_17 : decode cX1_greatestHeightIn 17 = .ok (.getfield 37, 3) := by decide +kernel
theorem dX1_greatestHeightIn_20 : decode cX1_greatestHeightIn 20 = .ok (.if_icmp .ge 31, 3) := by decide +kernel
theorem dX1_greatestHeightIn_23 : decode cX1_greatestHeightIn 23 = .ok (.iload_n 2, 1) := by decide +kernel
theorem dX1_greatestHeightIn_24 : decode cX1_greatestHeightIn 24 = .ok (.iload 4, 2) := by decide +kernel
theorem dX1_greatestHeightIn_26 : decode cX1_greatestHeightIn 26 = .ok (.ishr, 1) := by decide +kernel
theorem dX1_greatestHeightIn_27 : decode cX1_greatestHeightIn 27 = .ok (.iconst 1, 1) := by decide +kernel
theorem dX1_greatestHeightIn_28 : decode cX1_greatestHeightIn 28 = .ok (.iand, 1) := by decide +kernel
theorem dX1_greatestHeightIn_29 : decode cX1_greatestHeightIn 29 = .ok (.iconst 1, 1) := by decide +kernel
theorem dX1_greatestHeightIn_30 : decode cX1_greatestHeightIn 30 = .ok (.if_icmp .ne 15, 3) := by decide +kernel
theorem dX1_greatestHeightIn_33 : decode cX1_greatestHeightIn 33 = .ok (.iload_n 3, 1) := by decide +kernel
theorem dX1_greatestHeightIn_34 : decode cX1_greatestHeightIn 34 = .ok (.aload_n 0, 1) := by decide +kernel
theorem dX1_greatestHeightIn_35 : decode cX1_greatestHeightIn 35 = .ok (.getfield 22, 3) := by decide +kernel
theorem dX1_greatestHeightIn_38 : decode cX1_greatestHeightIn 38 = .ok (.iload 4, 2) := by decide +kernel
theorem dX1_greatestHeightIn_40 : decode cX1_greatestHeightIn 40 = .ok (.iaload, 1) := by decide +kernel
theorem dX1_greatestHeightIn_41 : decode cX1_greatestHeightIn 41 = .ok (.invokestatic 91, 3) := by decide +kernel
theorem dX1_greatestHeightIn_44 : decode cX1_greatestHeightIn 44 = .ok (.istore_n 3, 1) := by decide +kernel
theorem dX1_greatestHeightIn_45 : decode cX1_greatestHeightIn 45 = .ok (.iinc 4 1, 3) := by decide +kernel
theorem dX1_greatestHeightIn_48 : decode cX1_greatestHeightIn 48 = .ok (.goto (-34), 3) := by decide +kernel
theorem dX1_greatestHeightIn_51 : decode cX1_greatestHeightIn 51 = .ok (.iload_n 3, 1) := by decide +kernel
theorem dX1_greatestHeightIn_52 : decode cX1_greatestHeightIn 52 = .ok (.ireturn, 1) := by decide +kernel
theorem dX1_frontOfWhole_0 : decode cX1_frontOfWhole 0 = .ok (.iload_n 1, 1) := by decide +kernel
theorem dX1_frontOfWhole_1 : decode cX1_frontOfWhole 1 = .ok (.istore_n 2, 1) := by decide +kernel
theorem dX1_frontOfWhole_2 : decode cX1_frontOfWhole 2 = .ok (.iconst 0, 1) := by decide +kernel
theorem dX1_frontOfWhole_3 : decode cX1_frontOfWhole 3 = .ok (.istore_n 3, 1) := by decide +kernel
theorem dX1_frontOfWhole_4 : decode cX1_frontOfWhole 4 = .ok (.iload_n 3, 1) := by decide +kernel
theorem dX1_frontOfWhole_5 : decode cX1_frontOfWhole 5 = .ok (.iconst 4, 1) := by decide +kernel
theorem dX1_frontOfWhole_6 : decode cX1_frontOfWhole 6 = .ok (.if_icmp .ge 64, 3) := by decide +kernel
theorem dX1_frontOfWhole_9 : decode cX1_frontOfWhole 9 = .ok (.aload_n 0, 1) := by decide +kernel
theorem dX1_frontOfWhole_10 : decode cX1_frontOfWhole 10 = .ok (.getfield 33, 3) := by decide +kernel
theorem dX1_frontOfWhole_13 : decode cX1_frontOfWhole 13 = .ok (.iload_n 2, 1) := by decide +kernel
theorem dX1_frontOfWhole_14 : decode cX1_frontOfWhole 14 = .ok (.invokevirtual 96, 3) := by decide +kernel
theorem dX1_frontOfWhole_17 : decode cX1_frontOfWhole 17 = .ok (.istore 4, 2) := by decide +kernel
theorem dX1_frontOfWhole_19 : decode cX1_frontOfWhole 19 = .ok (.aload_n 0, 1) := by decide +kernel
theorem dX1_frontOfWhole_20 : decode cX1_frontOfWhole 20 = .ok (.iload 4, 2) := by decide +kernel
theorem dX1_frontOfWhole_22 : decode cX1_frontOfWhole 22 = .ok (.invokevirtual 45, 3) := by decide +kernel
theorem dX1_frontOfWhole_25 : decode cX1_frontOfWhole 25 = .ok (.ifCond .ne 6, 3) := by decide +kernel
theorem dX1_frontOfWhole_28 : decode cX1_frontOfWhole 28 = .ok (.iload 4, 2) := by decide +kernel
theorem dX1_frontOfWhole_30 : decode cX1_frontOfWhole 30 = .ok (.ireturn, 1) := by decide +kernel
theorem dX1_frontOfWhole_31 : decode cX1_frontOfWhole 31 = .ok (.aload_n 0, 1) := by decide +kernel
theorem dX1_frontOfWhole_32 : decode cX1_frontOfWhole 32 = .ok (.getfield 25, 3) := by decide +kernel
theorem dX1_frontOfWhole_35 : decode cX1_frontOfWhole 35 = .ok (.iload 4, 2) := by decide +kernel
theorem dX1_frontOfWhole_37 : decode cX1_frontOfWhole 37 = .ok (.iaload, 1) := by decide +kernel
theorem dX1_frontOfWhole_38 : decode cX1_frontOfWhole 38 = .ok (.istore 5, 2) := by decide +kernel
theorem dX1_frontOfWhole_40 : decode cX1_frontOfWhole 40 = .ok (.iload 5, 2) := by decide +kernel
theorem dX1_frontOfWhole_42 : decode cX1_frontOfWhole 42 = .ok (.bipush 100, 2) := by decide +kernel
theorem dX1_frontOfWhole_44 : decode cX1_frontOfWhole 44 = .ok (.if_icmp .ge 6, 3) := by decide +kernel
theorem dX1_frontOfWhole_47 : decode cX1_frontOfWhole 47 = .ok (.iload 5, 2) := by decide +kernel
theorem dX1_frontOfWhole_49 : decode cX1_frontOfWhole 49 = .ok (.ireturn, 1) := by decide +kernel
theorem dX1_frontOfWhole_50 : decode cX1_frontOfWhole 50 = .ok (.aload_n 0, 1) := by decide +kernel
theorem dX1_frontOfWhole_51 : decode cX1_frontOfWhole 51 = .ok (.getfield 33, 3) := by decide +kernel
theorem dX1_frontOfWhole_54 : decode cX1_frontOfWhole 54 = .ok (.iload_n 2, 1) := by decide +kernel
theorem dX1_frontOfWhole_55 : decode cX1_frontOfWhole 55 = .ok (.iload 5, 2) := by decide +kernel
theorem dX1_frontOfWhole_57 : decode cX1_frontOfWhole 57 = .ok (.bipush 100, 2) := by decide +kernel
theorem dX1_frontOfWhole_59 : decode cX1_frontOfWhole 59 = .ok (.isub, 1) := by decide +kernel
theorem dX1_frontOfWhole_60 : decode cX1_frontOfWhole 60 = .ok (.invokevirtual 99, 3) := by decide +kernel
theorem dX1_frontOfWhole_63 : decode cX1_frontOfWhole 63 = .ok (.istore_n 2, 1) := by decide +kernel
theorem dX1_frontOfWhole_64 : decode cX1_frontOfWhole 64 = .ok (.iinc 3 1, 3) := by decide +kernel
theorem dX1_frontOfWhole_67 : decode cX1_frontOfWhole 67 = .ok (.goto (-63), 3) := by decide +kernel
theorem dX1_frontOfWhole_70 : decode cX1_frontOfWhole 70 = .ok (.bipush (-9), 2) := by decide +kernel
theorem dX1_frontOfWhole_72 : decode cX1_frontOfWhole 72 = .ok (.ireturn, 1) := by decide +kernel
theorem dX1_countInWhole_0 : decode cX1_countInWhole 0 = .ok (.iload_n 2, 1) := by decide +kernel
theorem dX1_countInWhole_1 : decode cX1_countInWhole 1 = .ok (.ifCond .lt 13, 3) := by decide +kernel
theorem dX1_countInWhole_4 : decode cX1_countInWhole 4 = .ok (.iload_n 2, 1) := by decide +kernel
theorem dX1_countInWhole_5 : decode cX1_countInWhole 5 = .ok (.iconst 4, 1) := by decide +kernel
theorem dX1_countInWhole_6 : decode cX1_countInWhole 6 = .ok (.if_icmp .ge 8, 3) := by decide +kernel
theorem dX1_countInWhole_9 : decode cX1_countInWhole 9 = .ok (.iload_n 3, 1) := by decide +kernel
theorem dX1_countInWhole_10 : decode cX1_countInWhole 10 = .ok (.iconst 4, 1) := by decide +kernel
theorem dX1_countInWhole_11 : decode cX1_countInWhole 11 = .ok (.if_icmp .le 5, 3) := by decide +kernel
theorem dX1_countInWhole_14 : decode cX1_countInWhole 14 = .ok (.lconst 0, 1) := by decide +kernel
theorem dX1_countInWhole_15 : decode cX1_countInWhole 15 = .ok (.lreturn, 1) := by decide +kernel
theorem dX1_countInWhole_16 : decode cX1_countInWhole 16 = .ok (.aload_n 0, 1) := by decide +kernel
theorem dX1_countInWhole_17 : decode cX1_countInWhole 17 = .ok (.getfield 33, 3) := by decide +kernel
theorem dX1_countInWhole_20 : decode cX1_countInWhole 20 = .ok (.iload_n 1, 1) := by decide +kernel
theorem dX1_countInWhole_21 : decode cX1_countInWhole 21 = .ok (.invokevirtual 96, 3) := by decide +kernel
theorem dX1_countInWhole_24 : decode cX1_countInWhole 24 = .ok (.istore 4, 2) := by decide +kernel
theorem dX1_countInWhole_26 : decode cX1_countInWhole 26 = .ok (.aload_n 0, 1) := by decide +kernel
theorem dX1_countInWhole_27 : decode cX1_countInWhole 27 = .ok (.iload 4, 2) := by decide +kernel
theorem dX1_countInWhole_29 : decode cX1_countInWhole 29 = .ok (.invokevirtual 45, 3) := by decide +kernel
theorem dX1_countInWhole_32 : decode cX1_countInWhole 32 = .ok (.ifCond .ne 18, 3) := by decide +kernel
theorem dX1_countInWhole_35 : decode cX1_countInWhole 35 = .ok (.iload 4, 2) := by decide +kernel
theorem dX1_countInWhole_37 : decode cX1_countInWhole 37 = .ok (.bipush 100, 2) := by decide +kernel
theorem dX1_countInWhole_39 : decode cX1_countInWhole 39 = .ok (.iload_n 2, 1) := by decide +kernel
theorem dX1_countInWhole_40 : decode cX1_countInWhole 40 = .ok (.iadd, 1) := by decide +kernel
theorem dX1_countInWhole_41 : decode cX1_countInWhole 41 = .ok (.if_icmp .ne 7, 3) := by decide +kernel
theorem dX1_countInWhole_44 : decode cX1_countInWhole 44 = .ok (.lconst 1, 1) := by decide +kernel
theorem dX1_countInWhole_45 : decode cX1_countInWhole 45 = .ok (.goto 4, 3) := by decide +kernel
theorem dX1_countInWhole_48 : decode cX1_countInWhole 48 = .ok (.lconst 0, 1) := by decide +kernel
theorem dX1_countInWhole_49 : decode cX1_countInWhole 49 = .ok (.lreturn, 1) := by decide +kernel
theorem dX1_countInWhole_50 : decode cX1_countInWhole 50 = .ok (.iload_n 2, 1) := by decide +kernel
theorem dX1_countInWhole_51 : decode cX1_countInWhole 51 = .ok (.iconst 2, 1) := by decide +kernel
theorem dX1_countInWhole_52 : decode cX1_countInWhole 52 = .ok (.if_icmp .ge 7, 3) := by decide +kernel
theorem dX1_countInWhole_55 : decode cX1_countInWhole 55 = .ok (.lconst 0, 1) := by decide +kernel
theorem dX1_countInWhole_56 : decode cX1_countInWhole 56 = .ok (.goto 12, 3) := by decide +kernel
theorem dX1_countInWhole_59 : decode cX1_countInWhole 59 = .ok (.aload_n 0, 1) := by decide +kernel
theorem dX1_countInWhole_60 : decode cX1_countInWhole 60 = .ok (.getfield 30, 3) := by decide +kernel
theorem dX1_countInWhole_63 : decode cX1_countInWhole 63 = .ok (.iload_n 2, 1) := by decide +kernel
theorem dX1_countInWhole_64 : decode cX1_countInWhole 64 = .ok (.aaload, 1) := by decide +kernel
theorem dX1_countInWhole_65 : decode cX1_countInWhole 65 = .ok (.iload 4, 2) := by decide +kernel
theorem dX1_countInWhole_67 : decode cX1_countInWhole 67 = .ok (.laload, 1) := by decide +kernel
theorem dX1_countInWhole_68 : decode cX1_countInWhole 68 = .ok (.lstore 5, 2) := by decide +kernel
theorem dX1_countInWhole_70 : decode cX1_countInWhole 70 = .ok (.iconst 0, 1) := by decide +kernel
theorem dX1_countInWhole_71 : decode cX1_countInWhole 71 = .ok (.istore 7, 2) := by decide +kernel
theorem dX1_countInWhole_73 : decode cX1_countInWhole 73 = .ok (.iload 7, 2) := by decide +kernel
theorem dX1_countInWhole_75 : decode cX1_countInWhole 75 = .ok (.aload_n 0, 1) := by decide +kernel
theorem dX1_countInWhole_76 : decode cX1_countInWhole 76 = .ok (.getfield 9, 3) := by decide +kernel
theorem dX1_countInWhole_79 : decode cX1_countInWhole 79 = .ok (.iload 4, 2) := by decide +kernel
theorem dX1_countInWhole_81 : decode cX1_countInWhole 81 = .ok (.iaload, 1) := by decide +kernel
theorem dX1_countInWhole_82 : decode cX1_countInWhole 82 = .ok (.if_icmp .ge 57, 3) := by decide +kernel
theorem dX1_countInWhole_85 : decode cX1_countInWhole 85 = .ok (.iload 7, 2) := by decide +kernel
theorem dX1_countInWhole_87 : decode cX1_countInWhole 87 = .ok (.iconst 2, 1) := by decide +kernel
theorem dX1_countInWhole_88 : decode cX1_countInWhole 88 = .ok (.if_icmp .ge 51, 3) := by decide +kernel
theorem dX1_countInWhole_91 : decode cX1_countInWhole 91 = .ok (.aload_n 0, 1) := by decide +kernel
theorem dX1_countInWhole_92 : decode cX1_countInWhole 92 = .ok (.aload_n 0, 1) := by decide +kernel
theorem dX1_countInWhole_93 : decode cX1_countInWhole 93 = .ok (.getfield 33, 3) := by decide +kernel
theorem dX1_countInWhole_96 : decode cX1_countInWhole 96 = .ok (.iload_n 1, 1) := by decide +kernel
theorem dX1_countInWhole_97 : decode cX1_countInWhole 97 = .ok (.iload 7, 2) := by decide +kernel
theorem dX1_countInWhole_99 : decode cX1_countInWhole 99 = .ok (.invokevirtual 99, 3) := by decide +kernel
theorem dX1_countInWhole_102 : decode cX1_countInWhole 102 = .ok (.iload_n 2, 1) := by decide +kernel
theorem dX1_countInWhole_103 : decode cX1_countInWhole 103 = .ok (.iload_n 3, 1) := by decide +kernel
theorem dX1_countInWhole_104 : decode cX1_countInWhole 104 = .ok (.iconst 1, 1) := by decide +kernel
theorem dX1_countInWhole_105 : decode cX1_countInWhole 105 = .ok (.iadd, 1) := by decide +kernel
theorem dX1_countInWhole_106 : decode cX1_countInWhole 106 = .ok (.invokevirtual 83, 3) := by decide +kernel
theorem dX1_countInWhole_109 : decode cX1_countInWhole 109 = .ok (.lstore 8, 2) := by decide +kernel
theorem dX1_countInWhole_111 : decode cX1_countInWhole 111 = .ok (.lload 5, 2) := by decide +kernel
theorem dX1_countInWhole_113 : decode cX1_countInWhole 113 = .ok (.aload_n 0, 1) := by decide +kernel
theorem dX1_countInWhole_114 : decode cX1_countInWhole 114 = .ok (.getfield 30, 3) := by decide +kernel
theorem dX1_countInWhole_117 : decode cX1_countInWhole 117 = .ok (.iload 7, 2) := by decide +kernel
theorem dX1_countInWhole_119 : decode cX1_countInWhole 119 = .ok (.aaload, 1) := by decide +kernel
theorem dX1_countInWhole_120 : decode cX1_countInWhole 120 = .ok (.iload 4, 2) := by decide +kernel
theorem dX1_countInWhole_122 : decode cX1_countInWhole 122 = .ok (.laload, 1) := by decide +kernel
theorem dX1_countInWhole_123 : decode cX1_countInWhole 123 = .ok (.lload 8, 2) := by decide +kernel
theorem dX1_countInWhole_125 : decode cX1_countInWhole 125 = .ok (.invokestatic 102, 3) := by decide +kernel
theorem dX1_countInWhole_128 : decode cX1_countInWhole 128 = .ok (.invokestatic 87, 3) := by decide +kernel
theorem dX1_countInWhole_131 : decode cX1_countInWhole 131 = .ok (.lstore 5, 2) := by decide +kernel
theorem dX1_countInWhole_133 : decode cX1_countInWhole 133 = .ok (.iinc 7 1, 3) := by decide +kernel
theorem dX1_countInWhole_136 : decode cX1_countInWhole 136 = .ok (.goto (-63), 3) := by decide +kernel
theorem dX1_countInWhole_139 : decode cX1_countInWhole 139 = .ok (.lload 5, 2) := by decide +kernel
theorem dX1_countInWhole_141 : decode cX1_countInWhole 141 = .ok (.lreturn, 1) := by decide +kernel
theorem dX1_sizeUnfolded_0 : decode cX1_sizeUnfolded 0 = .ok (.aload_n 0, 1) := by decide +kernel
theorem dX1_sizeUnfolded_1 : decode cX1_sizeUnfolded 1 = .ok (.getfield 33, 3) := by decide +kernel
theorem dX1_sizeUnfolded_4 : decode cX1_sizeUnfolded 4 = .ok (.iload_n 1, 1) := by decide +kernel
theorem dX1_sizeUnfolded_5 : decode cX1_sizeUnfolded 5 = .ok (.invokevirtual 96, 3) := by decide +kernel
theorem dX1_sizeUnfolded_8 : decode cX1_sizeUnfolded 8 = .ok (.istore_n 2, 1) := by decide +kernel
theorem dX1_sizeUnfolded_9 : decode cX1_sizeUnfolded 9 = .ok (.aload_n 0, 1) := by decide +kernel
theorem dX1_sizeUnfolded_10 : decode cX1_sizeUnfolded 10 = .ok (.iload_n 2, 1) := by decide +kernel
theorem dX1_sizeUnfolded_11 : decode cX1_sizeUnfolded 11 = .ok (.invokevirtual 41, 3) := by decide +kernel
theorem dX1_sizeUnfolded_14 : decode cX1_sizeUnfolded 14 = .ok (.ifCond .ne 5, 3) := by decide +kernel
theorem dX1_sizeUnfolded_17 : decode cX1_sizeUnfolded 17 = .ok (.lconst 0, 1) := by decide +kernel
theorem dX1_sizeUnfolded_18 : decode cX1_sizeUnfolded 18 = .ok (.lreturn, 1) := by decide +kernel
theorem dX1_sizeUnfolded_19 : decode cX1_sizeUnfolded 19 = .ok (.aload_n 0, 1) := by decide +kernel
theorem dX1_sizeUnfolded_20 : decode cX1_sizeUnfolded 20 = .ok (.iload_n 2, 1) := by decide +kernel
theorem dX1_sizeUnfolded_21 : decode cX1_sizeUnfolded 21 = .ok (.invokevirtual 48, 3) := by decide +kernel
theorem dX1_sizeUnfolded_24 : decode cX1_sizeUnfolded 24 = .ok (.istore_n 3, 1) := by decide +kernel
theorem dX1_sizeUnfolded_25 : decode cX1_sizeUnfolded 25 = .ok (.aload_n 0, 1) := by decide +kernel
theorem dX1_sizeUnfolded_26 : decode cX1_sizeUnfolded 26 = .ok (.getfield 33, 3) := by decide +kernel
theorem dX1_sizeUnfolded_29 : decode cX1_sizeUnfolded 29 = .ok (.iload_n 3, 1) := by decide +kernel
theorem dX1_sizeUnfolded_30 : decode cX1_sizeUnfolded 30 = .ok (.invokevirtual 105, 3) := by decide +kernel
theorem dX1_sizeUnfolded_33 : decode cX1_sizeUnfolded 33 = .ok (.i2l, 1) := by decide +kernel
theorem dX1_sizeUnfolded_34 : decode cX1_sizeUnfolded 34 = .ok (.lstore 4, 2) := by decide +kernel
theorem dX1_sizeUnfolded_36 : decode cX1_sizeUnfolded 36 = .ok (.iconst 0, 1) := by decide +kernel
theorem dX1_sizeUnfolded_37 : decode cX1_sizeUnfolded 37 = .ok (.istore 6, 2) := by decide +kernel
theorem dX1_sizeUnfolded_39 : decode cX1_sizeUnfolded 39 = .ok (.iload 6, 2) := by decide +kernel
theorem dX1_sizeUnfolded_41 : decode cX1_sizeUnfolded 41 = .ok (.iconst 2, 1) := by decide +kernel
theorem dX1_sizeUnfolded_42 : decode cX1_sizeUnfolded 42 = .ok (.if_icmp .ge 45, 3) := by decide +kernel
theorem dX1_sizeUnfolded_45 : decode cX1_sizeUnfolded 45 = .ok (.lload 4, 2) := by decide +kernel
theorem dX1_sizeUnfolded_47 : decode cX1_sizeUnfolded 47 = .ok (.aload_n 0, 1) := by decide +kernel
theorem dX1_sizeUnfolded_48 : decode cX1_sizeUnfolded 48 = .ok (.getfield 33, 3) := by decide +kernel
theorem dX1_sizeUnfolded_51 : decode cX1_sizeUnfolded 51 = .ok (.iload_n 3, 1) := by decide +kernel
theorem dX1_sizeUnfolded_52 : decode cX1_sizeUnfolded 52 = .ok (.iload 6, 2) := by decide +kernel
theorem dX1_sizeUnfolded_54 : decode cX1_sizeUnfolded 54 = .ok (.invokevirtual 67, 3) := by decide +kernel
theorem dX1_sizeUnfolded_57 : decode cX1_sizeUnfolded 57 = .ok (.aload_n 0, 1) := by decide +kernel
theorem dX1_sizeUnfolded_58 : decode cX1_sizeUnfolded 58 = .ok (.getfield 33, 3) := by decide +kernel
theorem dX1_sizeUnfolded_61 : decode cX1_sizeUnfolded 61 = .ok (.aload_n 0, 1) := by decide +kernel
theorem dX1_sizeUnfolded_62 : decode cX1_sizeUnfolded 62 = .ok (.getfield 33, 3) := by decide +kernel
theorem dX1_sizeUnfolded_65 : decode cX1_sizeUnfolded 65 = .ok (.iload_n 1, 1) := by decide +kernel
theorem dX1_sizeUnfolded_66 : decode cX1_sizeUnfolded 66 = .ok (.iload 6, 2) := by decide +kernel
theorem dX1_sizeUnfolded_68 : decode cX1_sizeUnfolded 68 = .ok (.invokevirtual 99, 3) := by decide +kernel
theorem dX1_sizeUnfolded_71 : decode cX1_sizeUnfolded 71 = .ok (.invokevirtual 105, 3) := by decide +kernel
theorem dX1_sizeUnfolded_74 : decode cX1_sizeUnfolded 74 = .ok (.iconst 1, 1) := by decide +kernel
theorem dX1_sizeUnfolded_75 : decode cX1_sizeUnfolded 75 = .ok (.isub, 1) := by decide +kernel
theorem dX1_sizeUnfolded_76 : decode cX1_sizeUnfolded 76 = .ok (.imul, 1) := by decide +kernel
theorem dX1_sizeUnfolded_77 : decode cX1_sizeUnfolded 77 = .ok (.i2l, 1) := by decide +kernel
theorem dX1_sizeUnfolded_78 : decode cX1_sizeUnfolded 78 = .ok (.ladd, 1) := by decide +kernel
theorem dX1_sizeUnfolded_79 : decode cX1_sizeUnfolded 79 = .ok (.lstore 4, 2) := by decide +kernel
theorem dX1_sizeUnfolded_81 : decode cX1_sizeUnfolded 81 = .ok (.iinc 6 1, 3) := by decide +kernel
theorem dX1_sizeUnfolded_84 : decode cX1_sizeUnfolded 84 = .ok (.goto (-45), 3) := by decide +kernel
theorem dX1_sizeUnfolded_87 : decode cX1_sizeUnfolded 87 = .ok (.lload 4, 2) := by decide +kernel
theorem dX1_sizeUnfolded_89 : decode cX1_sizeUnfolded 89 = .ok (.lreturn, 1) := by decide +kernel
theorem dX1_sizeOfWhole_0 : decode cX1_sizeOfWhole 0 = .ok (.aload_n 0, 1) := by decide +kernel
theorem dX1_sizeOfWhole_1 : decode cX1_sizeOfWhole 1 = .ok (.iload_n 1, 1) := by decide +kernel
theorem dX1_sizeOfWhole_2 : decode cX1_sizeOfWhole 2 = .ok (.iconst 0, 1) := by decide +kernel
theorem dX1_sizeOfWhole_3 : decode cX1_sizeOfWhole 3 = .ok (.iconst 1, 1) := by decide +kernel
theorem dX1_sizeOfWhole_4 : decode cX1_sizeOfWhole 4 = .ok (.invokevirtual 83, 3) := by decide +kernel
theorem dX1_sizeOfWhole_7 : decode cX1_sizeOfWhole 7 = .ok (.aload_n 0, 1) := by decide +kernel
theorem dX1_sizeOfWhole_8 : decode cX1_sizeOfWhole 8 = .ok (.iload_n 1, 1) := by decide +kernel
theorem dX1_sizeOfWhole_9 : decode cX1_sizeOfWhole 9 = .ok (.iconst 1, 1) := by decide +kernel
theorem dX1_sizeOfWhole_10 : decode cX1_sizeOfWhole 10 = .ok (.iconst 1, 1) := by decide +kernel
theorem dX1_sizeOfWhole_11 : decode cX1_sizeOfWhole 11 = .ok (.invokevirtual 83, 3) := by decide +kernel
theorem dX1_sizeOfWhole_14 : decode cX1_sizeOfWhole 14 = .ok (.invokestatic 87, 3) := by decide +kernel
theorem dX1_sizeOfWhole_17 : decode cX1_sizeOfWhole 17 = .ok (.lstore_n 2, 1) := by decide +kernel
theorem dX1_sizeOfWhole_18 : decode cX1_sizeOfWhole 18 = .ok (.lload_n 2, 1) := by decide +kernel
theorem dX1_sizeOfWhole_19 : decode cX1_sizeOfWhole 19 = .ok (.aload_n 0, 1) := by decide +kernel
theorem dX1_sizeOfWhole_20 : decode cX1_sizeOfWhole 20 = .ok (.iload_n 1, 1) := by decide +kernel
theorem dX1_sizeOfWhole_21 : decode cX1_sizeOfWhole 21 = .ok (.iconst 2, 1) := by decide +kernel
theorem dX1_sizeOfWhole_22 : decode cX1_sizeOfWhole 22 = .ok (.iconst 1, 1) := by decide +kernel
theorem dX1_sizeOfWhole_23 : decode cX1_sizeOfWhole 23 = .ok (.invokevirtual 83, 3) := by decide +kernel
theorem dX1_sizeOfWhole_26 : decode cX1_sizeOfWhole 26 = .ok (.invokestatic 87, 3) := by decide +kernel
theorem dX1_sizeOfWhole_29 : decode cX1_sizeOfWhole 29 = .ok (.lreturn, 1) := by decide +kernel
theorem dX1_unfoldingsOutermost_0 : decode cX1_unfoldingsOutermost 0 = .ok (.aload_n 0, 1) := by decide +kernel
theorem dX1_unfoldingsOutermost_1 : decode cX1_unfoldingsOutermost 1 = .ok (.iload_n 1, 1) := by decide +kernel
theorem dX1_unfoldingsOutermost_2 : decode cX1_unfoldingsOutermost 2 = .ok (.iconst 3, 1) := by decide +kernel
theorem dX1_unfoldingsOutermost_3 : decode cX1_unfoldingsOutermost 3 = .ok (.iconst 1, 1) := by decide +kernel
theorem dX1_unfoldingsOutermost_4 : decode cX1_unfoldingsOutermost 4 = .ok (.invokevirtual 83, 3) := by decide +kernel
theorem dX1_unfoldingsOutermost_7 : decode cX1_unfoldingsOutermost 7 = .ok (.lreturn, 1) := by decide +kernel
theorem dX1_sum_0 : decode cX1_sum 0 = .ok (.ldc2_w 108, 3) := by decide +kernel
theorem dX1_sum_3 : decode cX1_sum 3 = .ok (.lload_n 0, 1) := by decide +kernel
theorem dX1_sum_4 : decode cX1_sum 4 = .ok (.lload_n 2, 1) := by decide +kernel
theorem dX1_sum_5 : decode cX1_sum 5 = .ok (.ladd, 1) := by decide +kernel
theorem dX1_sum_6 : decode cX1_sum 6 = .ok (.invokestatic 110, 3) := by decide +kernel
theorem dX1_sum_9 : decode cX1_sum 9 = .ok (.lreturn, 1) := by decide +kernel
theorem dX1_product_0 : decode cX1_product 0 = .ok (.lload_n 0, 1) := by decide +kernel
theorem dX1_product_1 : decode cX1_product 1 = .ok (.lconst 0, 1) := by decide +kernel
theorem dX1_product_2 : decode cX1_product 2 = .ok (.lcmp, 1) := by decide +kernel
theorem dX1_product_3 : decode cX1_product 3 = .ok (.ifCond .eq 9, 3) := by decide +kernel
theorem dX1_product_6 : decode cX1_product 6 = .ok (.lload_n 2, 1) := by decide +kernel
theorem dX1_product_7 : decode cX1_product 7 = .ok (.lconst 0, 1) := by decide +kernel
theorem dX1_product_8 : decode cX1_product 8 = .ok (.lcmp, 1) := by decide +kernel
theorem dX1_product_9 : decode cX1_product 9 = .ok (.ifCond .ne 5, 3) := by decide +kernel
theorem dX1_product_12 : decode cX1_product 12 = .ok (.lconst 0, 1) := by decide +kernel
theorem dX1_product_13 : decode cX1_product 13 = .ok (.lreturn, 1) := by decide +kernel
theorem dX1_product_14 : decode cX1_product 14 = .ok (.lload_n 0, 1) := by decide +kernel
theorem dX1_product_15 : decode cX1_product 15 = .ok (.ldc2_w 108, 3) := by decide +kernel
theorem dX1_product_18 : decode cX1_product 18 = .ok (.lload_n 2, 1) := by decide +kernel
theorem dX1_product_19 : decode cX1_product 19 = .ok (.ldiv, 1) := by decide +kernel
theorem dX1_product_20 : decode cX1_product 20 = .ok (.lcmp, 1) := by decide +kernel
theorem dX1_product_21 : decode cX1_product 21 = .ok (.ifCond .le 9, 3) := by decide +kernel
theorem dX1_product_24 : decode cX1_product 24 = .ok (.ldc2_w 108, 3) := by decide +kernel
theorem dX1_product_27 : decode cX1_product 27 = .ok (.goto 6, 3) := by decide +kernel
theorem dX1_product_30 : decode cX1_product 30 = .ok (.lload_n 0, 1) := by decide +kernel
theorem dX1_product_31 : decode cX1_product 31 = .ok (.lload_n 2, 1) := by decide +kernel
theorem dX1_product_32 : decode cX1_product 32 = .ok (.lmul, 1) := by decide +kernel
theorem dX1_product_33 : decode cX1_product 33 = .ok (.lreturn, 1) := by decide +kernel
