theorem dX3_init_0 : decode cX3_init 0 = .ok (.aload_n 0, 1) := by decide +kernel
theorem dX3_init_1 : decode cX3_init 1 = .ok (.invokespecial 5, 3) := by decide +kernel
theorem dX3_init_4 : decode cX3_init 4 = .ok (.aload_n 0, 1) := by decide +kernel
theorem dX3_init_5 : decode cX3_init 5 = .ok (.new 11, 3) := by decide +kernel
theorem dX3_init_8 : decode cX3_init 8 = .ok (.dup, 1) := by decide +kernel
theorem dX3_init_9 : decode cX3_init 9 = .ok (.invokespecial 13, 3) := by decide +kernel
theorem dX3_init_12 : decode cX3_init 12 = .ok (.putfield 14, 3) := by decide +kernel
theorem dX3_init_15 : decode cX3_init 15 = .ok (.aload_n 0, 1) := by decide +kernel
theorem dX3_init_16 : decode cX3_init 16 = .ok (.new 18, 3) := by decide +kernel
theorem dX3_init_19 : decode cX3_init 19 = .ok (.dup, 1) := by decide +kernel
theorem dX3_init_20 : decode cX3_init 20 = .ok (.aload_n 0, 1) := by decide +kernel
theorem dX3_init_21 : decode cX3_init 21 = .ok (.getfield 14, 3) := by decide +kernel
theorem dX3_init_24 : decode cX3_init 24 = .ok (.invokespecial 20, 3) := by decide +kernel
theorem dX3_init_27 : decode cX3_init 27 = .ok (.putfield 23, 3) := by decide +kernel
theorem dX3_init_30 : decode cX3_init 30 = .ok (.aload_n 0, 1) := by decide +kernel
theorem dX3_init_31 : decode cX3_init 31 = .ok (.new 27, 3) := by decide +kernel
theorem dX3_init_34 : decode cX3_init 34 = .ok (.dup, 1) := by decide +kernel
theorem dX3_init_35 : decode cX3_init 35 = .ok (.aload_n 0, 1) := by decide +kernel
theorem dX3_init_36 : decode cX3_init 36 = .ok (.getfield 14, 3) := by decide +kernel
theorem dX3_init_39 : decode cX3_init 39 = .ok (.aload_n 0, 1) := by decide +kernel
theorem dX3_init_40 : decode cX3_init 40 = .ok (.getfield 23, 3) := by decide +kernel
theorem dX3_init_43 : decode cX3_init 43 = .ok (.invokespecial 29, 3) := by decide +kernel
theorem dX3_init_46 : decode cX3_init 46 = .ok (.putfield 32, 3) := by decide +kernel
theorem dX3_init_49 : decode cX3_init 49 = .ok (.return_, 1) := by decide +kernel
theorem dX3_name_0 : decode cX3_name 0 = .ok (.iload_n 1, 1) := by decide +kernel
theorem dX3_name_1 : decode cX3_name 1 = .ok (.ifCond .lt 8, 3) := by decide +kernel
theorem dX3_name_4 : decode cX3_name 4 = .ok (.iload_n 1, 1) := by decide +kernel
theorem dX3_name_5 : decode cX3_name 5 = .ok (.iconst 2, 1) := by decide +kernel
theorem dX3_name_6 : decode cX3_name 6 = .ok (.if_icmp .le 6, 3) := by decide +kernel
theorem dX3_name_9 : decode cX3_name 9 = .ok (.bipush (-2), 2) := by decide +kernel
theorem dX3_name_11 : decode cX3_name 11 = .ok (.ireturn, 1) := by decide +kernel
theorem dX3_name_12 : decode cX3_name 12 = .ok (.aload_n 0, 1) := by decide +kernel
theorem dX3_name_13 : decode cX3_name 13 = .ok (.getfield 23, 3) := by decide +kernel
theorem dX3_name_16 : decode cX3_name 16 = .ok (.iload_n 1, 1) := by decide +kernel
theorem dX3_name_17 : decode cX3_name 17 = .ok (.invokevirtual 36, 3) := by decide +kernel
theorem dX3_name_20 : decode cX3_name 20 = .ok (.ireturn, 1) := by decide +kernel
theorem dX3_parameter_0 : decode cX3_parameter 0 = .ok (.iload_n 1, 1) := by decide +kernel
theorem dX3_parameter_1 : decode cX3_parameter 1 = .ok (.ifCond .lt 8, 3) := by decide +kernel
theorem dX3_parameter_4 : decode cX3_parameter 4 = .ok (.iload_n 1, 1) := by decide +kernel
theorem dX3_parameter_5 : decode cX3_parameter 5 = .ok (.iconst 2, 1) := by decide +kernel
theorem dX3_parameter_6 : decode cX3_parameter 6 = .ok (.if_icmp .lt 6, 3) := by decide +kernel
theorem dX3_parameter_9 : decode cX3_parameter 9 = .ok (.bipush (-2), 2) := by decide +kernel
theorem dX3_parameter_11 : decode cX3_parameter 11 = .ok (.ireturn, 1) := by decide +kernel
theorem dX3_parameter_12 : decode cX3_parameter 12 = .ok (.aload_n 0, 1) := by decide +kernel
theorem dX3_parameter_13 : decode cX3_parameter 13 = .ok (.getfield 14, 3) := by decide +kernel
theorem dX3_parameter_16 : decode cX3_parameter 16 = .ok (.bipush 100, 2) := by decide +kernel
theorem dX3_parameter_18 : decode cX3_parameter 18 = .ok (.iload_n 1, 1) := by decide +kernel
theorem dX3_parameter_19 : decode cX3_parameter 19 = .ok (.iadd, 1) := by decide +kernel
theorem dX3_parameter_20 : decode cX3_parameter 20 = .ok (.bipush (-9), 2) := by decide +kernel
theorem dX3_parameter_22 : decode cX3_parameter 22 = .ok (.bipush (-9), 2) := by decide +kernel
theorem dX3_parameter_24 : decode cX3_parameter 24 = .ok (.invokevirtual 40, 3) := by decide +kernel
theorem dX3_parameter_27 : decode cX3_parameter 27 = .ok (.ireturn, 1) := by decide +kernel
theorem dX3_term_0 : decode cX3_term 0 = .ok (.aload_n 0, 1) := by decide +kernel
theorem dX3_term_1 : decode cX3_term 1 = .ok (.getfield 23, 3) := by decide +kernel
theorem dX3_term_4 : decode cX3_term 4 = .ok (.iload_n 1, 1) := by decide +kernel
theorem dX3_term_5 : decode cX3_term 5 = .ok (.invokevirtual 44, 3) := by decide +kernel
theorem dX3_term_8 : decode cX3_term 8 = .ok (.ifCond .ne 5, 3) := by decide +kernel
theorem dX3_term_11 : decode cX3_term 11 = .ok (.iconst (-1), 1) := by decide +kernel
theorem dX3_term_12 : decode cX3_term 12 = .ok (.ireturn, 1) := by decide +kernel
theorem dX3_term_13 : decode cX3_term 13 = .ok (.aload_n 0, 1) := by decide +kernel
theorem dX3_term_14 : decode cX3_term 14 = .ok (.getfield 23, 3) := by decide +kernel
theorem dX3_term_17 : decode cX3_term 17 = .ok (.iload_n 1, 1) := by decide +kernel
theorem dX3_term_18 : decode cX3_term 18 = .ok (.invokevirtual 48, 3) := by decide +kernel
theorem dX3_term_21 : decode cX3_term 21 = .ok (.istore 4, 2) := by decide +kernel
theorem dX3_term_23 : decode cX3_term 23 = .ok (.iload 4, 2) := by decide +kernel
theorem dX3_term_25 : decode cX3_term 25 = .ok (.ifCond .le 16, 3) := by decide +kernel
theorem dX3_term_28 : decode cX3_term 28 = .ok (.aload_n 0, 1) := by decide +kernel
theorem dX3_term_29 : decode cX3_term 29 = .ok (.getfield 14, 3) := by decide +kernel
theorem dX3_term_32 : decode cX3_term 32 = .ok (.iload_n 2, 1) := by decide +kernel
theorem dX3_term_33 : decode cX3_term 33 = .ok (.invokevirtual 51, 3) := by decide +kernel
theorem dX3_term_36 : decode cX3_term 36 = .ok (.ifCond .ne 5, 3) := by decide +kernel
theorem dX3_term_39 : decode cX3_term 39 = .ok (.iconst (-1), 1) := by decide +kernel
theorem dX3_term_40 : decode cX3_term 40 = .ok (.ireturn, 1) := by decide +kernel
theorem dX3_term_41 : decode cX3_term 41 = .ok (.iload 4, 2) := by decide +kernel
theorem dX3_term_43 : decode cX3_term 43 = .ok (.iconst 1, 1) := by decide +kernel
theorem dX3_term_44 : decode cX3_term 44 = .ok (.if_icmp .le 16, 3) := by decide +kernel
theorem dX3_term_47 : decode cX3_term 47 = .ok (.aload_n 0, 1) := by decide +kernel
theorem dX3_term_48 : decode cX3_term 48 = .ok (.getfield 14, 3) := by decide +kernel
theorem dX3_term_51 : decode cX3_term 51 = .ok (.iload_n 3, 1) := by decide +kernel
theorem dX3_term_52 : decode cX3_term 52 = .ok (.invokevirtual 51, 3) := by decide +kernel
theorem dX3_term_55 : decode cX3_term 55 = .ok (.ifCond .ne 5, 3) := by decide +kernel
theorem dX3_term_58 : decode cX3_term 58 = .ok (.iconst (-1), 1) := by decide +kernel
theorem dX3_term_59 : decode cX3_term 59 = .ok (.ireturn, 1) := by decide +kernel
theorem dX3_term_60 : decode cX3_term 60 = .ok (.iload 4, 2) := by decide +kernel
theorem dX3_term_62 : decode cX3_term 62 = .ok (.iconst 1, 1) := by decide +kernel
theorem dX3_term_63 : decode cX3_term 63 = .ok (.if_icmp .ge 12, 3) := by decide +kernel
theorem dX3_term_66 : decode cX3_term 66 = .ok (.iload_n 2, 1) := by decide +kernel
theorem dX3_term_67 : decode cX3_term 67 = .ok (.bipush (-9), 2) := by decide +kernel
theorem dX3_term_69 : decode cX3_term 69 = .ok (.if_icmp .eq 6, 3) := by decide +kernel
theorem dX3_term_72 : decode cX3_term 72 = .ok (.bipush (-2), 2) := by decide +kernel
theorem dX3_term_74 : decode cX3_term 74 = .ok (.ireturn, 1) := by decide +kernel
theorem dX3_term_75 : decode cX3_term 75 = .ok (.iload 4, 2) := by decide +kernel
theorem dX3_term_77 : decode cX3_term 77 = .ok (.iconst 2, 1) := by decide +kernel
theorem dX3_term_78 : decode cX3_term 78 = .ok (.if_icmp .ge 12, 3) := by decide +kernel
theorem dX3_term_81 : decode cX3_term 81 = .ok (.iload_n 3, 1) := by decide +kernel
theorem dX3_term_82 : decode cX3_term 82 = .ok (.bipush (-9), 2) := by decide +kernel
theorem dX3_term_84 : decode cX3_term 84 = .ok (.if_icmp .eq 6, 3) := by decide +kernel
theorem dX3_term_87 : decode cX3_term 87 = .ok (.bipush (-2), 2) := by decide +kernel
theorem dX3_term_89 : decode cX3_term 89 = .ok (.ireturn, 1) := by decide +kernel
theorem dX3_term_90 : decode cX3_term 90 = .ok (.aload_n 0, 1) := by decide +kernel
theorem dX3_term_91 : decode cX3_term 91 = .ok (.getfield 14, 3) := by decide +kernel
theorem dX3_term_94 : decode cX3_term 94 = .ok (.iload_n 2, 1) := by decide +kernel
theorem dX3_term_95 : decode cX3_term 95 = .ok (.iload_n 3, 1) := by decide +kernel
theorem dX3_term_96 : decode cX3_term 96 = .ok (.invokevirtual 54, 3) := by decide +kernel
theorem dX3_term_99 : decode cX3_term 99 = .ok (.iconst 4, 1) := by decide +kernel
theorem dX3_term_100 : decode cX3_term 100 = .ok (.if_icmp .le 6, 3) := by decide +kernel
theorem dX3_term_103 : decode cX3_term 103 = .ok (.bipush (-3), 2) := by decide +kernel
theorem dX3_term_105 : decode cX3_term 105 = .ok (.ireturn, 1) := by decide +kernel
theorem dX3_term_106 : decode cX3_term 106 = .ok (.aload_n 0, 1) := by decide +kernel
theorem dX3_term_107 : decode cX3_term 107 = .ok (.getfield 14, 3) := by decide +kernel
theorem dX3_term_110 : decode cX3_term 110 = .ok (.iload_n 1, 1) := by decide +kernel
theorem dX3_term_111 : decode cX3_term 111 = .ok (.iload_n 2, 1) := by decide +kernel
theorem dX3_term_112 : decode cX3_term 112 = .ok (.iload_n 3, 1) := by decide +kernel
theorem dX3_term_113 : decode cX3_term 113 = .ok (.invokevirtual 40, 3) := by decide +kernel
theorem dX3_term_116 : decode cX3_term 116 = .ok (.ireturn, 1) := by decide +kernel
theorem dX3_define_0 : decode cX3_define 0 = .ok (.aload_n 0, 1) := by decide +kernel
theorem dX3_define_1 : decode cX3_define 1 = .ok (.getfield 23, 3) := by decide +kernel
theorem dX3_define_4 : decode cX3_define 4 = .ok (.iload_n 1, 1) := by decide +kernel
theorem dX3_define_5 : decode cX3_define 5 = .ok (.invokevirtual 44, 3) := by decide +kernel
theorem dX3_define_8 : decode cX3_define 8 = .ok (.ifCond .ne 5, 3) := by decide +kernel
theorem dX3_define_11 : decode cX3_define 11 = .ok (.iconst (-1), 1) := by decide +kernel
theorem dX3_define_12 : decode cX3_define 12 = .ok (.ireturn, 1) := by decide +kernel
theorem dX3_define_13 : decode cX3_define 13 = .ok (.iload_n 2, 1) := by decide +kernel
theorem dX3_define_14 : decode cX3_define 14 = .ok (.bipush (-9), 2) := by decide +kernel
theorem dX3_define_16 : decode cX3_define 16 = .ok (.if_icmp .ne 14, 3) := by decide +kernel
theorem dX3_define_19 : decode cX3_define 19 = .ok (.aload_n 0, 1) := by decide +kernel
theorem dX3_define_20 : decode cX3_define 20 = .ok (.getfield 23, 3) := by decide +kernel
theorem dX3_define_23 : decode cX3_define 23 = .ok (.iload_n 1, 1) := by decide +kernel
theorem dX3_define_24 : decode cX3_define 24 = .ok (.bipush (-9), 2) := by decide +kernel
theorem dX3_define_26 : decode cX3_define 26 = .ok (.invokevirtual 58, 3) := by decide +kernel
theorem dX3_define_29 : decode cX3_define 29 = .ok (.ireturn, 1) := by decide +kernel
theorem dX3_define_30 : decode cX3_define 30 = .ok (.aload_n 0, 1) := by decide +kernel
theorem dX3_define_31 : decode cX3_define 31 = .ok (.getfield 14, 3) := by decide +kernel
theorem dX3_define_34 : decode cX3_define 34 = .ok (.iload_n 2, 1) := by decide +kernel
theorem dX3_define_35 : decode cX3_define 35 = .ok (.invokevirtual 51, 3) := by decide +kernel
theorem dX3_define_38 : decode cX3_define 38 = .ok (.ifCond .ne 5, 3) := by decide +kernel
theorem dX3_define_41 : decode cX3_define 41 = .ok (.iconst (-1), 1) := by decide +kernel
theorem dX3_define_42 : decode cX3_define 42 = .ok (.ireturn, 1) := by decide +kernel
theorem dX3_define_43 : decode cX3_define 43 = .ok (.aload_n 0, 1) := by decide +kernel
theorem dX3_define_44 : decode cX3_define 44 = .ok (.getfield 23, 3) := by decide +kernel
theorem dX3_define_47 : decode cX3_define 47 = .ok (.iload_n 1, 1) := by decide +kernel
theorem dX3_define_48 : decode cX3_define 48 = .ok (.iload_n 2, 1) := by decide +kernel
theorem dX3_define_49 : decode cX3_define 49 = .ok (.invokevirtual 61, 3) := by decide +kernel
theorem dX3_define_52 : decode cX3_define 52 = .ok (.ifCond .ne 6, 3) := by decide +kernel
theorem dX3_define_55 : decode cX3_define 55 = .ok (.bipush (-3), 2) := by decide +kernel
theorem dX3_define_57 : decode cX3_define 57 = .ok (.ireturn, 1) := by decide +kernel
theorem dX3_define_58 : decode cX3_define 58 = .ok (.aload_n 0, 1) := by decide +kernel
theorem dX3_define_59 : decode cX3_define 59 = .ok (.getfield 23, 3) := by decide +kernel
theorem dX3_define_62 : decode cX3_define 62 = .ok (.iload_n 1, 1) := by decide +kernel
theorem dX3_define_63 : decode cX3_define 63 = .ok (.iload_n 2, 1) := by decide +kernel
theorem dX3_define_64 : decode cX3_define 64 = .ok (.invokevirtual 58, 3) := by decide +kernel
theorem dX3_define_67 : decode cX3_define 67 = .ok (.ireturn, 1) := by decide +kernel
theorem dX3_opaque_0 : decode cX3_opaque 0 = .ok (.aload_n 0, 1) := by decide +kernel
theorem dX3_opaque_1 : decode cX3_opaque 1 = .ok (.getfield 23, 3) := by decide +kernel
theorem dX3_opaque_4 : decode cX3_opaque 4 = .ok (.iload_n 1, 1) := by decide +kernel
theorem dX3_opaque_5 : decode cX3_opaque 5 = .ok (.invokevirtual 44, 3) := by decide +kernel
theorem dX3_opaque_8 : decode cX3_opaque 8 = .ok (.ifCond .ne 5, 3) := by decide +kernel
theorem dX3_opaque_11 : decode cX3_opaque 11 = .ok (.iconst (-1), 1) := by decide +kernel
theorem dX3_opaque_12 : decode cX3_opaque 12 = .ok (.ireturn, 1) := by decide +kernel
theorem dX3_opaque_13 : decode cX3_opaque 13 = .ok (.aload_n 0, 1) := by decide +kernel
theorem dX3_opaque_14 : decode cX3_opaque 14 = .ok (.getfield 23, 3) := by decide +kernel
theorem dX3_opaque_17 : decode cX3_opaque 17 = .ok (.iload_n 1, 1) := by decide +kernel
theorem dX3_opaque_18 : decode cX3_opaque 18 = .ok (.iload_n 2, 1) := by decide +kernel
theorem dX3_opaque_19 : decode cX3_opaque 19 = .ok (.invokevirtual 65, 3) := by decide +kernel
theorem dX3_opaque_22 : decode cX3_opaque 22 = .ok (.ifCond .eq 7, 3) := by decide +kernel
theorem dX3_opaque_25 : decode cX3_opaque 25 = .ok (.iconst 1, 1) := by decide +kernel
theorem dX3_opaque_26 : decode cX3_opaque 26 = .ok (.goto 4, 3) := by decide +kernel
theorem dX3_opaque_29 : decode cX3_opaque 29 = .ok (.iconst 0, 1) := by decide +kernel
theorem dX3_opaque_30 : decode cX3_opaque 30 = .ok (.ireturn, 1) := by decide +kernel
theorem dX3_ofName_0 : decode cX3_ofName 0 = .ok (.aload_n 0, 1) := by decide +kernel
theorem dX3_ofName_1 : decode cX3_ofName 1 = .ok (.getfield 23, 3) := by decide +kernel
theorem dX3_ofName_4 : decode cX3_ofName 4 = .ok (.iload_n 1, 1) := by decide +kernel
theorem dX3_ofName_5 : decode cX3_ofName 5 = .ok (.invokevirtual 44, 3) := by decide +kernel
theorem dX3_ofName_8 : decode cX3_ofName 8 = .ok (.ifCond .ne 5, 3) := by decide +kernel
theorem dX3_ofName_11 : decode cX3_ofName 11 = .ok (.iconst (-1), 1) := by decide +kernel
theorem dX3_ofName_12 : decode cX3_ofName 12 = .ok (.ireturn, 1) := by decide +kernel
theorem dX3_ofName_13 : decode cX3_ofName 13 = .ok (.iload_n 2, 1) := by decide +kernel
theorem dX3_ofName_14 : decode cX3_ofName 14 = .ok (.tableswitch 74 0 3 #[30, 39, 48, 65], 30) := by decide +kernel
theorem dX3_ofName_44 : decode cX3_ofName 44 = .ok (.aload_n 0, 1) := by decide +kernel
theorem dX3_ofName_45 : decode cX3_ofName 45 = .ok (.getfield 23, 3) := by decide +kernel
theorem dX3_ofName_48 : decode cX3_ofName 48 = .ok (.iload_n 1, 1) := by decide +kernel
theorem dX3_ofName_49 : decode cX3_ofName 49 = .ok (.invokevirtual 48, 3) := by decide +kernel
theorem dX3_ofName_52 : decode cX3_ofName 52 = .ok (.ireturn, 1) := by decide +kernel
theorem dX3_ofName_53 : decode cX3_ofName 53 = .ok (.aload_n 0, 1) := by decide +kernel
theorem dX3_ofName_54 : decode cX3_ofName 54 = .ok (.getfield 23, 3) := by decide +kernel
theorem dX3_ofName_57 : decode cX3_ofName 57 = .ok (.iload_n 1, 1) := by decide +kernel
theorem dX3_ofName_58 : decode cX3_ofName 58 = .ok (.invokevirtual 69, 3) := by decide +kernel
theorem dX3_ofName_61 : decode cX3_ofName 61 = .ok (.ireturn, 1) := by decide +kernel
theorem dX3_ofName_62 : decode cX3_ofName 62 = .ok (.aload_n 0, 1) := by decide +kernel
theorem dX3_ofName_63 : decode cX3_ofName 63 = .ok (.getfield 23, 3) := by decide +kernel
theorem dX3_ofName_66 : decode cX3_ofName 66 = .ok (.iload_n 1, 1) := by decide +kernel
theorem dX3_ofName_67 : decode cX3_ofName 67 = .ok (.invokevirtual 72, 3) := by decide +kernel
theorem dX3_ofName_70 : decode cX3_ofName 70 = .ok (.ifCond .eq 7, 3) := by decide +kernel
theorem dX3_ofName_73 : decode cX3_ofName 73 = .ok (.iconst 1, 1) := by decide +kernel
theorem dX3_ofName_74 : decode cX3_ofName 74 = .ok (.goto 4, 3) := by decide +kernel
theorem dX3_ofName_77 : decode cX3_ofName 77 = .ok (.iconst 0, 1) := by decide +kernel
theorem dX3_ofName_78 : decode cX3_ofName 78 = .ok (.ireturn, 1) := by decide +kernel
theorem dX3_ofName_79 : decode cX3_ofName 79 = .ok (.aload_n 0, 1) := by decide +kernel
theorem dX3_ofName_80 : decode cX3_ofName 80 = .ok (.getfield 23, 3) := by decide +kernel
theorem dX3_ofName_83 : decode cX3_ofName 83 = .ok (.iload_n 1, 1) := by decide +kernel
theorem dX3_ofName_84 : decode cX3_ofName 84 = .ok (.invokevirtual 75, 3) := by decide +kernel
theorem dX3_ofName_87 : decode cX3_ofName 87 = .ok (.ireturn, 1) := by decide +kernel
theorem dX3_ofName_88 : decode cX3_ofName 88 = .ok (.bipush (-2), 2) := by decide +kernel
theorem dX3_ofName_90 : decode cX3_ofName 90 = .ok (.ireturn, 1) := by decide +kernel
theorem dX3_ofTerm_0 : decode cX3_ofTerm 0 = .ok (.aload_n 0, 1) := by decide +kernel
theorem dX3_ofTerm_1 : decode cX3_ofTerm 1 = .ok (.getfield 14, 3) := by decide +kernel
theorem dX3_ofTerm_4 : decode cX3_ofTerm 4 = .ok (.iload_n 1, 1) := by decide +kernel
theorem dX3_ofTerm_5 : decode cX3_ofTerm 5 = .ok (.invokevirtual 51, 3) := by decide +kernel
theorem dX3_ofTerm_8 : decode cX3_ofTerm 8 = .ok (.ifCond .ne 5, 3) := by decide +kernel
theorem dX3_ofTerm_11 : decode cX3_ofTerm 11 = .ok (.iconst (-1), 1) := by decide +kernel
theorem dX3_ofTerm_12 : decode cX3_ofTerm 12 = .ok (.ireturn, 1) := by decide +kernel
theorem dX3_ofTerm_13 : decode cX3_ofTerm 13 = .ok (.aload_n 0, 1) := by decide +kernel
theorem dX3_ofTerm_14 : decode cX3_ofTerm 14 = .ok (.getfield 14, 3) := by decide +kernel
theorem dX3_ofTerm_17 : decode cX3_ofTerm 17 = .ok (.iload_n 1, 1) := by decide +kernel
theorem dX3_ofTerm_18 : decode cX3_ofTerm 18 = .ok (.invokevirtual 78, 3) := by decide +kernel
theorem dX3_ofTerm_21 : decode cX3_ofTerm 21 = .ok (.istore_n 3, 1) := by decide +kernel
theorem dX3_ofTerm_22 : decode cX3_ofTerm 22 = .ok (.iload_n 2, 1) := by decide +kernel
theorem dX3_ofTerm_23 : decode cX3_ofTerm 23 = .ok (.tableswitch 112 0 5 #[37, 50, 60, 70, 86, 103], 37) := by decide +kernel
theorem dX3_ofTerm_60 : decode cX3_ofTerm 60 = .ok (.iload_n 3, 1) := by decide +kernel
theorem dX3_ofTerm_61 : decode cX3_ofTerm 61 = .ok (.bipush 100, 2) := by decide +kernel
theorem dX3_ofTerm_63 : decode cX3_ofTerm 63 = .ok (.if_icmp .ge 7, 3) := by decide +kernel
theorem dX3_ofTerm_66 : decode cX3_ofTerm 66 = .ok (.iload_n 3, 1) := by decide +kernel
theorem dX3_ofTerm_67 : decode cX3_ofTerm 67 = .ok (.goto 5, 3) := by decide +kernel
theorem dX3_ofTerm_70 : decode cX3_ofTerm 70 = .ok (.bipush (-9), 2) := by decide +kernel
theorem dX3_ofTerm_72 : decode cX3_ofTerm 72 = .ok (.ireturn, 1) := by decide +kernel
theorem dX3_ofTerm_73 : decode cX3_ofTerm 73 = .ok (.aload_n 0, 1) := by decide +kernel
theorem dX3_ofTerm_74 : decode cX3_ofTerm 74 = .ok (.getfield 14, 3) := by decide +kernel
theorem dX3_ofTerm_77 : decode cX3_ofTerm 77 = .ok (.iload_n 1, 1) := by decide +kernel
theorem dX3_ofTerm_78 : decode cX3_ofTerm 78 = .ok (.iconst 0, 1) := by decide +kernel
theorem dX3_ofTerm_79 : decode cX3_ofTerm 79 = .ok (.invokevirtual 81, 3) := by decide +kernel
theorem dX3_ofTerm_82 : decode cX3_ofTerm 82 = .ok (.ireturn, 1) := by decide +kernel
theorem dX3_ofTerm_83 : decode cX3_ofTerm 83 = .ok (.aload_n 0, 1) := by decide +kernel
theorem dX3_ofTerm_84 : decode cX3_ofTerm 84 = .ok (.getfield 14, 3) := by decide +kernel
theorem dX3_ofTerm_87 : decode cX3_ofTerm 87 = .ok (.iload_n 1, 1) := by decide +kernel
theorem dX3_ofTerm_88 : decode cX3_ofTerm 88 = .ok (.iconst 1, 1) := by decide +kernel
theorem dX3_ofTerm_89 : decode cX3_ofTerm 89 = .ok (.invokevirtual 81, 3) := by decide +kernel
theorem dX3_ofTerm_92 : decode cX3_ofTerm 92 = .ok (.ireturn, 1) := by decide +kernel
theorem dX3_ofTerm_93 : decode cX3_ofTerm 93 = .ok (.iload_n 3, 1) := by decide +kernel
theorem dX3_ofTerm_94 : decode cX3_ofTerm 94 = .ok (.bipush 100, 2) := by decide +kernel
theorem dX3_ofTerm_96 : decode cX3_ofTerm 96 = .ok (.if_icmp .ge 8, 3) := by decide +kernel
theorem dX3_ofTerm_99 : decode cX3_ofTerm 99 = .ok (.bipush (-9), 2) := by decide +kernel
theorem dX3_ofTerm_101 : decode cX3_ofTerm 101 = .ok (.goto 7, 3) := by decide +kernel
theorem dX3_ofTerm_104 : decode cX3_ofTerm 104 = .ok (.iload_n 3, 1) := by decide +kernel
theorem dX3_ofTerm_105 : decode cX3_ofTerm 105 = .ok (.bipush 100, 2) := by decide +kernel
theorem dX3_ofTerm_107 : decode cX3_ofTerm 107 = .ok (.isub, 1) := by decide +kernel
theorem dX3_ofTerm_108 : decode cX3_ofTerm 108 = .ok (.ireturn, 1) := by decide +kernel
theorem dX3_ofTerm_109 : decode cX3_ofTerm 109 = .ok (.aload_n 0, 1) := by decide +kernel
theorem dX3_ofTerm_110 : decode cX3_ofTerm 110 = .ok (.getfield 14, 3) := by decide +kernel
theorem dX3_ofTerm_113 : decode cX3_ofTerm 113 = .ok (.iload_n 1, 1) := by decide +kernel
theorem dX3_ofTerm_114 : decode cX3_ofTerm 114 = .ok (.invokevirtual 84, 3) := by decide +kernel
theorem dX3_ofTerm_117 : decode cX3_ofTerm 117 = .ok (.ifCond .eq 7, 3) := by decide +kernel
theorem dX3_ofTerm_120 : decode cX3_ofTerm 120 = .ok (.iconst 1, 1) := by decide +kernel
theorem dX3_ofTerm_121 : decode cX3_ofTerm 121 = .ok (.goto 4, 3) := by decide +kernel
theorem dX3_ofTerm_124 : decode cX3_ofTerm 124 = .ok (.iconst 0, 1) := by decide +kernel
theorem dX3_ofTerm_125 : decode cX3_ofTerm 125 = .ok (.ireturn, 1) := by decide +kernel
theorem dX3_ofTerm_126 : decode cX3_ofTerm 126 = .ok (.aload_n 0, 1) := by decide +kernel
theorem dX3_ofTerm_127 : decode cX3_ofTerm 127 = .ok (.getfield 14, 3) := by decide +kernel
theorem dX3_ofTerm_130 : decode cX3_ofTerm 130 = .ok (.iload_n 1, 1) := by decide +kernel
theorem dX3_ofTerm_131 : decode cX3_ofTerm 131 = .ok (.invokevirtual 87, 3) := by decide +kernel
theorem dX3_ofTerm_134 : decode cX3_ofTerm 134 = .ok (.ireturn, 1) := by decide +kernel
theorem dX3_ofTerm_135 : decode cX3_ofTerm 135 = .ok (.bipush (-2), 2) := by decide +kernel
theorem dX3_ofTerm_137 : decode cX3_ofTerm 137 = .ok (.ireturn, 1) := by decide +kernel
theorem dX3_size_0 : decode cX3_size 0 = .ok (.aload_n 0, 1) := by decide +kernel
theorem dX3_size_1 : decode cX3_size 1 = .ok (.getfield 14, 3) := by decide +kernel
theorem dX3_size_4 : decode cX3_size 4 = .ok (.iload_n 1, 1) := by decide +kernel
theorem dX3_size_5 : decode cX3_size 5 = .ok (.invokevirtual 51, 3) := by decide +kernel
theorem dX3_size_8 : decode cX3_size 8 = .ok (.ifCond .ne 7, 3) := by decide +kernel
theorem dX3_size_11 : decode cX3_size 11 = .ok (.ldc2_w 90, 3) := by decide +kernel
theorem dX3_size_14 : decode cX3_size 14 = .ok (.lreturn, 1) := by decide +kernel
theorem dX3_size_15 : decode cX3_size 15 = .ok (.iload_n 2, 1) := by decide +kernel
theorem dX3_size_16 : decode cX3_size 16 = .ok (.tableswitch 69 0 3 #[32, 42, 51, 60], 32) := by decide +kernel
theorem dX3_size_48 : decode cX3_size 48 = .ok (.aload_n 0, 1) := by decide +kernel
theorem dX3_size_49 : decode cX3_size 49 = .ok (.getfield 14, 3) := by decide +kernel
theorem dX3_size_52 : decode cX3_size 52 = .ok (.iload_n 1, 1) := by decide +kernel
theorem dX3_size_53 : decode cX3_size 53 = .ok (.invokevirtual 92, 3) := by decide +kernel
theorem dX3_size_56 : decode cX3_size 56 = .ok (.i2l, 1) := by decide +kernel
theorem dX3_size_57 : decode cX3_size 57 = .ok (.lreturn, 1) := by decide +kernel
theorem dX3_size_58 : decode cX3_size 58 = .ok (.aload_n 0, 1) := by decide +kernel
theorem dX3_size_59 : decode cX3_size 59 = .ok (.getfield 23, 3) := by decide +kernel
theorem dX3_size_62 : decode cX3_size 62 = .ok (.iload_n 1, 1) := by decide +kernel
theorem dX3_size_63 : decode cX3_size 63 = .ok (.invokevirtual 95, 3) := by decide +kernel
theorem dX3_size_66 : decode cX3_size 66 = .ok (.lreturn, 1) := by decide +kernel
theorem dX3_size_67 : decode cX3_size 67 = .ok (.aload_n 0, 1) := by decide +kernel
theorem dX3_size_68 : decode cX3_size 68 = .ok (.getfield 23, 3) := by decide +kernel
theorem dX3_size_71 : decode cX3_size 71 = .ok (.iload_n 1, 1) := by decide +kernel
theorem dX3_size_72 : decode cX3_size 72 = .ok (.invokevirtual 99, 3) := by decide +kernel
theorem dX3_size_75 : decode cX3_size 75 = .ok (.lreturn, 1) := by decide +kernel
theorem dX3_size_76 : decode cX3_size 76 = .ok (.aload_n 0, 1) := by decide +kernel
theorem dX3_size_77 : decode cX3_size 77 = .ok (.getfield 23, 3) := by decide +kernel
theorem dX3_size_80 : decode cX3_size 80 = .ok (.iload_n 1, 1) := by decide +kernel
theorem dX3_size_81 : decode cX3_size 81 = .ok (.invokevirtual 102, 3) := by decide +kernel
theorem dX3_size_84 : decode cX3_size 84 = .ok (.lreturn, 1) := by decide +kernel
theorem dX3_size_85 : decode cX3_size 85 = .ok (.ldc2_w 90, 3) := by decide +kernel
theorem dX3_size_88 : decode cX3_size 88 = .ok (.lreturn, 1) := by decide +kernel
theorem dX3_front_0 : decode cX3_front 0 = .ok (.aload_n 0, 1) := by decide +kernel
theorem dX3_front_1 : decode cX3_front 1 = .ok (.getfield 14, 3) := by decide +kernel
theorem dX3_front_4 : decode cX3_front 4 = .ok (.iload_n 1, 1) := by decide +kernel
theorem dX3_front_5 : decode cX3_front 5 = .ok (.invokevirtual 51, 3) := by decide +kernel
theorem dX3_front_8 : decode cX3_front 8 = .ok (.ifCond .ne 5, 3) := by decide +kernel
theorem dX3_front_11 : decode cX3_front 11 = .ok (.iconst (-1), 1) := by decide +kernel
theorem dX3_front_12 : decode cX3_front 12 = .ok (.ireturn, 1) := by decide +kernel
theorem dX3_front_13 : decode cX3_front 13 = .ok (.aload_n 0, 1) := by decide +kernel
theorem dX3_front_14 : decode cX3_front 14 = .ok (.getfield 23, 3) := by decide +kernel
theorem dX3_front_17 : decode cX3_front 17 = .ok (.iload_n 1, 1) := by decide +kernel
theorem dX3_front_18 : decode cX3_front 18 = .ok (.invokevirtual 105, 3) := by decide +kernel
theorem dX3_front_21 : decode cX3_front 21 = .ok (.ireturn, 1) := by decide +kernel
theorem dX3_check_0 : decode cX3_check 0 = .ok (.aload_n 0, 1) := by decide +kernel
theorem dX3_check_1 : decode cX3_check 1 = .ok (.getfield 14, 3) := by decide +kernel
theorem dX3_check_4 : decode cX3_check 4 = .ok (.iload_n 1, 1) := by decide +kernel
theorem dX3_check_5 : decode cX3_check 5 = .ok (.invokevirtual 51, 3) := by decide +kernel
theorem dX3_check_8 : decode cX3_check 8 = .ok (.ifCond .eq 14, 3) := by decide +kernel
theorem dX3_check_11 : decode cX3_check 11 = .ok (.aload_n 0, 1) := by decide +kernel
theorem dX3_check_12 : decode cX3_check 12 = .ok (.getfield 14, 3) := by decide +kernel
theorem dX3_check_15 : decode cX3_check 15 = .ok (.iload_n 2, 1) := by decide +kernel
theorem dX3_check_16 : decode cX3_check 16 = .ok (.invokevirtual 51, 3) := by decide +kernel
theorem dX3_check_19 : decode cX3_check 19 = .ok (.ifCond .ne 5, 3) := by decide +kernel
theorem dX3_check_22 : decode cX3_check 22 = .ok (.iconst (-1), 1) := by decide +kernel
theorem dX3_check_23 : decode cX3_check 23 = .ok (.ireturn, 1) := by decide +kernel
theorem dX3_check_24 : decode cX3_check 24 = .ok (.aload_n 0, 1) := by decide +kernel
theorem dX3_check_25 : decode cX3_check 25 = .ok (.getfield 14, 3) := by decide +kernel
theorem dX3_check_28 : decode cX3_check 28 = .ok (.iload_n 1, 1) := by decide +kernel
theorem dX3_check_29 : decode cX3_check 29 = .ok (.invokevirtual 84, 3) := by decide +kernel
theorem dX3_check_32 : decode cX3_check 32 = .ok (.ifCond .eq 14, 3) := by decide +kernel
theorem dX3_check_35 : decode cX3_check 35 = .ok (.aload_n 0, 1) := by decide +kernel
theorem dX3_check_36 : decode cX3_check 36 = .ok (.getfield 14, 3) := by decide +kernel
theorem dX3_check_39 : decode cX3_check 39 = .ok (.iload_n 2, 1) := by decide +kernel
theorem dX3_check_40 : decode cX3_check 40 = .ok (.invokevirtual 84, 3) := by decide +kernel
theorem dX3_check_43 : decode cX3_check 43 = .ok (.ifCond .ne 6, 3) := by decide +kernel
theorem dX3_check_46 : decode cX3_check 46 = .ok (.bipush (-3), 2) := by decide +kernel
theorem dX3_check_48 : decode cX3_check 48 = .ok (.ireturn, 1) := by decide +kernel
theorem dX3_check_49 : decode cX3_check 49 = .ok (.aload_n 0, 1) := by decide +kernel
theorem dX3_check_50 : decode cX3_check 50 = .ok (.getfield 32, 3) := by decide +kernel
theorem dX3_check_53 : decode cX3_check 53 = .ok (.iload_n 1, 1) := by decide +kernel
theorem dX3_check_54 : decode cX3_check 54 = .ok (.iload_n 2, 1) := by decide +kernel
theorem dX3_check_55 : decode cX3_check 55 = .ok (.invokevirtual 108, 3) := by decide +kernel
theorem dX3_check_58 : decode cX3_check 58 = .ok (.ireturn, 1) := by decide +kernel
theorem dX3_checked_0 : decode cX3_checked 0 = .ok (.aload_n 0, 1) := by decide +kernel
theorem dX3_checked_1 : decode cX3_checked 1 = .ok (.getfield 32, 3) := by decide +kernel
theorem dX3_checked_4 : decode cX3_checked 4 = .ok (.iload_n 1, 1) := by decide +kernel
theorem dX3_checked_5 : decode cX3_checked 5 = .ok (.invokevirtual 111, 3) := by decide +kernel
theorem dX3_checked_8 : decode cX3_checked 8 = .ok (.ireturn, 1) := by decide +kernel
theorem dX3_many_0 : decode cX3_many 0 = .ok (.iload_n 1, 1) := by decide +kernel
theorem dX3_many_1 : decode cX3_many 1 = .ok (.tableswitch 75 0 4 #[35, 43, 51, 59, 67], 35) := by decide +kernel
theorem dX3_many_36 : decode cX3_many 36 = .ok (.aload_n 0, 1) := by decide +kernel
theorem dX3_many_37 : decode cX3_many 37 = .ok (.getfield 23, 3) := by decide +kernel
theorem dX3_many_40 : decode cX3_many 40 = .ok (.invokevirtual 114, 3) := by decide +kernel
theorem dX3_many_43 : decode cX3_many 43 = .ok (.ireturn, 1) := by decide +kernel
theorem dX3_many_44 : decode cX3_many 44 = .ok (.aload_n 0, 1) := by decide +kernel
theorem dX3_many_45 : decode cX3_many 45 = .ok (.getfield 14, 3) := by decide +kernel
theorem dX3_many_48 : decode cX3_many 48 = .ok (.invokevirtual 118, 3) := by decide +kernel
theorem dX3_many_51 : decode cX3_many 51 = .ok (.ireturn, 1) := by decide +kernel
theorem dX3_many_52 : decode cX3_many 52 = .ok (.aload_n 0, 1) := by decide +kernel
theorem dX3_many_53 : decode cX3_many 53 = .ok (.getfield 23, 3) := by decide +kernel
theorem dX3_many_56 : decode cX3_many 56 = .ok (.invokevirtual 119, 3) := by decide +kernel
theorem dX3_many_59 : decode cX3_many 59 = .ok (.ireturn, 1) := by decide +kernel
theorem dX3_many_60 : decode cX3_many 60 = .ok (.aload_n 0, 1) := by decide +kernel
theorem dX3_many_61 : decode cX3_many 61 = .ok (.getfield 23, 3) := by decide +kernel
theorem dX3_many_64 : decode cX3_many 64 = .ok (.invokevirtual 122, 3) := by decide +kernel
theorem dX3_many_67 : decode cX3_many 67 = .ok (.ireturn, 1) := by decide +kernel
theorem dX3_many_68 : decode cX3_many 68 = .ok (.aload_n 0, 1) := by decide +kernel
theorem dX3_many_69 : decode cX3_many 69 = .ok (.getfield 14, 3) := by decide +kernel
theorem dX3_many_72 : decode cX3_many 72 = .ok (.invokevirtual 125, 3) := by decide +kernel
theorem dX3_many_75 : decode cX3_many 75 = .ok (.ireturn, 1) := by decide +kernel
theorem dX3_many_76 : decode cX3_many 76 = .ok (.bipush (-2), 2) := by decide +kernel
theorem dX3_many_78 : decode cX3_many 78 = .ok (.ireturn, 1) := by decide +kernel
