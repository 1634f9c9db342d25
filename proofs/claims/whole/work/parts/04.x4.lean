theorem dX10_readParcel_89 : decode cX10_readParcel 89 = .ok (.iload_n 3, 1) := by decide +kernel
theorem dX10_readParcel_90 : decode cX10_readParcel 90 = .ok (.invokestatic 226, 3) := by decide +kernel
theorem dX10_readParcel_93 : decode cX10_readParcel 93 = .ok (.ifCond .ge 8, 3) := by decide +kernel
theorem dX10_readParcel_96 : decode cX10_readParcel 96 = .ok (.aload_n 0, 1) := by decide +kernel
theorem dX10_readParcel_97 : decode cX10_readParcel 97 = .ok (.iconst 1, 1) := by decide +kernel
theorem dX10_readParcel_98 : decode cX10_readParcel 98 = .ok (.putfield 176, 3) := by decide +kernel
theorem dX10_readParcel_101 : decode cX10_readParcel 101 = .ok (.return_, 1) := by decide +kernel
theorem dX10_readInspect_0 : decode cX10_readInspect 0 = .ok (.aload_n 0, 1) := by decide +kernel
theorem dX10_readInspect_1 : decode cX10_readInspect 1 = .ok (.invokevirtual 204, 3) := by decide +kernel
theorem dX10_readInspect_4 : decode cX10_readInspect 4 = .ok (.aload_n 0, 1) := by decide +kernel
theorem dX10_readInspect_5 : decode cX10_readInspect 5 = .ok (.invokevirtual 219, 3) := by decide +kernel
theorem dX10_readInspect_8 : decode cX10_readInspect 8 = .ok (.istore_n 1, 1) := by decide +kernel
theorem dX10_readInspect_9 : decode cX10_readInspect 9 = .ok (.aload_n 0, 1) := by decide +kernel
theorem dX10_readInspect_10 : decode cX10_readInspect 10 = .ok (.iconst 0, 1) := by decide +kernel
theorem dX10_readInspect_11 : decode cX10_readInspect 11 = .ok (.bipush 9, 2) := by decide +kernel
theorem dX10_readInspect_13 : decode cX10_readInspect 13 = .ok (.invokevirtual 222, 3) := by decide +kernel
theorem dX10_readInspect_16 : decode cX10_readInspect 16 = .ok (.istore_n 2, 1) := by decide +kernel
theorem dX10_readInspect_17 : decode cX10_readInspect 17 = .ok (.aload_n 0, 1) := by decide +kernel
theorem dX10_readInspect_18 : decode cX10_readInspect 18 = .ok (.invokevirtual 216, 3) := by decide +kernel
theorem dX10_readInspect_21 : decode cX10_readInspect 21 = .ok (.aload_n 0, 1) := by decide +kernel
theorem dX10_readInspect_22 : decode cX10_readInspect 22 = .ok (.getfield 176, 3) := by decide +kernel
theorem dX10_readInspect_25 : decode cX10_readInspect 25 = .ok (.ifCond .ne 15, 3) := by decide +kernel
theorem dX10_readInspect_28 : decode cX10_readInspect 28 = .ok (.aload_n 0, 1) := by decide +kernel
theorem dX10_readInspect_29 : decode cX10_readInspect 29 = .ok (.getfield 13, 3) := by decide +kernel
theorem dX10_readInspect_32 : decode cX10_readInspect 32 = .ok (.iload_n 1, 1) := by decide +kernel
theorem dX10_readInspect_33 : decode cX10_readInspect 33 = .ok (.invokestatic 134, 3) := by decide +kernel
theorem dX10_readInspect_36 : decode cX10_readInspect 36 = .ok (.iconst 2, 1) := by decide +kernel
theorem dX10_readInspect_37 : decode cX10_readInspect 37 = .ok (.iadd, 1) := by decide +kernel
theorem dX10_readInspect_38 : decode cX10_readInspect 38 = .ok (.iload_n 2, 1) := by decide +kernel
theorem dX10_readInspect_39 : decode cX10_readInspect 39 = .ok (.iastore, 1) := by decide +kernel
theorem dX10_readInspect_40 : decode cX10_readInspect 40 = .ok (.return_, 1) := by decide +kernel
theorem dX10_readClose_0 : decode cX10_readClose 0 = .ok (.aload_n 0, 1) := by decide +kernel
theorem dX10_readClose_1 : decode cX10_readClose 1 = .ok (.invokevirtual 204, 3) := by decide +kernel
theorem dX10_readClose_4 : decode cX10_readClose 4 = .ok (.aload_n 0, 1) := by decide +kernel
theorem dX10_readClose_5 : decode cX10_readClose 5 = .ok (.invokevirtual 219, 3) := by decide +kernel
theorem dX10_readClose_8 : decode cX10_readClose 8 = .ok (.istore_n 1, 1) := by decide +kernel
theorem dX10_readClose_9 : decode cX10_readClose 9 = .ok (.aload_n 0, 1) := by decide +kernel
theorem dX10_readClose_10 : decode cX10_readClose 10 = .ok (.invokevirtual 213, 3) := by decide +kernel
theorem dX10_readClose_13 : decode cX10_readClose 13 = .ok (.istore_n 2, 1) := by decide +kernel
theorem dX10_readClose_14 : decode cX10_readClose 14 = .ok (.aload_n 0, 1) := by decide +kernel
theorem dX10_readClose_15 : decode cX10_readClose 15 = .ok (.getfield 176, 3) := by decide +kernel
theorem dX10_readClose_18 : decode cX10_readClose 18 = .ok (.ifCond .ne 15, 3) := by decide +kernel
theorem dX10_readClose_21 : decode cX10_readClose 21 = .ok (.aload_n 0, 1) := by decide +kernel
theorem dX10_readClose_22 : decode cX10_readClose 22 = .ok (.getfield 13, 3) := by decide +kernel
theorem dX10_readClose_25 : decode cX10_readClose 25 = .ok (.iload_n 1, 1) := by decide +kernel
theorem dX10_readClose_26 : decode cX10_readClose 26 = .ok (.iload_n 2, 1) := by decide +kernel
theorem dX10_readClose_27 : decode cX10_readClose 27 = .ok (.invokestatic 128, 3) := by decide +kernel
theorem dX10_readClose_30 : decode cX10_readClose 30 = .ok (.goto 4, 3) := by decide +kernel
theorem dX10_readClose_33 : decode cX10_readClose 33 = .ok (.iconst 0, 1) := by decide +kernel
theorem dX10_readClose_34 : decode cX10_readClose 34 = .ok (.istore_n 3, 1) := by decide +kernel
theorem dX10_readClose_35 : decode cX10_readClose 35 = .ok (.aload_n 0, 1) := by decide +kernel
theorem dX10_readClose_36 : decode cX10_readClose 36 = .ok (.aload_n 0, 1) := by decide +kernel
theorem dX10_readClose_37 : decode cX10_readClose 37 = .ok (.getfield 176, 3) := by decide +kernel
theorem dX10_readClose_40 : decode cX10_readClose 40 = .ok (.ifCond .ne 8, 3) := by decide +kernel
theorem dX10_readClose_43 : decode cX10_readClose 43 = .ok (.iload_n 3, 1) := by decide +kernel
theorem dX10_readClose_44 : decode cX10_readClose 44 = .ok (.iconst (-1), 1) := by decide +kernel
theorem dX10_readClose_45 : decode cX10_readClose 45 = .ok (.if_icmp .eq 7, 3) := by decide +kernel
theorem dX10_readClose_48 : decode cX10_readClose 48 = .ok (.iconst 1, 1) := by decide +kernel
theorem dX10_readClose_49 : decode cX10_readClose 49 = .ok (.goto 4, 3) := by decide +kernel
theorem dX10_readClose_52 : decode cX10_readClose 52 = .ok (.iconst 0, 1) := by decide +kernel
theorem dX10_readClose_53 : decode cX10_readClose 53 = .ok (.iconst 5, 1) := by decide +kernel
theorem dX10_readClose_54 : decode cX10_readClose 54 = .ok (.invokevirtual 201, 3) := by decide +kernel
theorem dX10_readClose_57 : decode cX10_readClose 57 = .ok (.pop, 1) := by decide +kernel
theorem dX10_readClose_58 : decode cX10_readClose 58 = .ok (.aload_n 0, 1) := by decide +kernel
theorem dX10_readClose_59 : decode cX10_readClose 59 = .ok (.invokevirtual 204, 3) := by decide +kernel
theorem dX10_readClose_62 : decode cX10_readClose 62 = .ok (.aload_n 0, 1) := by decide +kernel
theorem dX10_readClose_63 : decode cX10_readClose 63 = .ok (.invokevirtual 216, 3) := by decide +kernel
theorem dX10_readClose_66 : decode cX10_readClose 66 = .ok (.aload_n 0, 1) := by decide +kernel
theorem dX10_readClose_67 : decode cX10_readClose 67 = .ok (.getfield 176, 3) := by decide +kernel
theorem dX10_readClose_70 : decode cX10_readClose 70 = .ok (.ifCond .ne 15, 3) := by decide +kernel
theorem dX10_readClose_73 : decode cX10_readClose 73 = .ok (.aload_n 0, 1) := by decide +kernel
theorem dX10_readClose_74 : decode cX10_readClose 74 = .ok (.getfield 13, 3) := by decide +kernel
theorem dX10_readClose_77 : decode cX10_readClose 77 = .ok (.iload_n 3, 1) := by decide +kernel
theorem dX10_readClose_78 : decode cX10_readClose 78 = .ok (.invokestatic 72, 3) := by decide +kernel
theorem dX10_readClose_81 : decode cX10_readClose 81 = .ok (.iconst 3, 1) := by decide +kernel
theorem dX10_readClose_82 : decode cX10_readClose 82 = .ok (.iadd, 1) := by decide +kernel
theorem dX10_readClose_83 : decode cX10_readClose 83 = .ok (.iconst 0, 1) := by decide +kernel
theorem dX10_readClose_84 : decode cX10_readClose 84 = .ok (.iastore, 1) := by decide +kernel
theorem dX10_readClose_85 : decode cX10_readClose 85 = .ok (.return_, 1) := by decide +kernel
theorem dX10_readRun_0 : decode cX10_readRun 0 = .ok (.aload_n 0, 1) := by decide +kernel
theorem dX10_readRun_1 : decode cX10_readRun 1 = .ok (.invokevirtual 204, 3) := by decide +kernel
theorem dX10_readRun_4 : decode cX10_readRun 4 = .ok (.aload_n 0, 1) := by decide +kernel
theorem dX10_readRun_5 : decode cX10_readRun 5 = .ok (.iconst 0, 1) := by decide +kernel
theorem dX10_readRun_6 : decode cX10_readRun 6 = .ok (.bipush 60, 2) := by decide +kernel
theorem dX10_readRun_8 : decode cX10_readRun 8 = .ok (.invokevirtual 222, 3) := by decide +kernel
theorem dX10_readRun_11 : decode cX10_readRun 11 = .ok (.istore_n 1, 1) := by decide +kernel
theorem dX10_readRun_12 : decode cX10_readRun 12 = .ok (.aload_n 0, 1) := by decide +kernel
theorem dX10_readRun_13 : decode cX10_readRun 13 = .ok (.invokevirtual 216, 3) := by decide +kernel
theorem dX10_readRun_16 : decode cX10_readRun 16 = .ok (.aload_n 0, 1) := by decide +kernel
theorem dX10_readRun_17 : decode cX10_readRun 17 = .ok (.aload_n 0, 1) := by decide +kernel
theorem dX10_readRun_18 : decode cX10_readRun 18 = .ok (.getfield 13, 3) := by decide +kernel
theorem dX10_readRun_21 : decode cX10_readRun 21 = .ok (.aload_n 0, 1) := by decide +kernel
theorem dX10_readRun_22 : decode cX10_readRun 22 = .ok (.getfield 176, 3) := by decide +kernel
theorem dX10_readRun_25 : decode cX10_readRun 25 = .ok (.ifCond .ne 7, 3) := by decide +kernel
theorem dX10_readRun_28 : decode cX10_readRun 28 = .ok (.iload_n 1, 1) := by decide +kernel
theorem dX10_readRun_29 : decode cX10_readRun 29 = .ok (.goto 4, 3) := by decide +kernel
theorem dX10_readRun_32 : decode cX10_readRun 32 = .ok (.iconst 0, 1) := by decide +kernel
theorem dX10_readRun_33 : decode cX10_readRun 33 = .ok (.invokevirtual 230, 3) := by decide +kernel
theorem dX10_readRun_36 : decode cX10_readRun 36 = .ok (.return_, 1) := by decide +kernel
theorem dX10_readStatement_0 : decode cX10_readStatement 0 = .ok (.aload_n 0, 1) := by decide +kernel
theorem dX10_readStatement_1 : decode cX10_readStatement 1 = .ok (.ldc 233, 2) := by decide +kernel
theorem dX10_readStatement_3 : decode cX10_readStatement 3 = .ok (.invokevirtual 235, 3) := by decide +kernel
theorem dX10_readStatement_6 : decode cX10_readStatement 6 = .ok (.ifCond .ne 12, 3) := by decide +kernel
theorem dX10_readStatement_9 : decode cX10_readStatement 9 = .ok (.aload_n 0, 1) := by decide +kernel
theorem dX10_readStatement_10 : decode cX10_readStatement 10 = .ok (.ldc 239, 2) := by decide +kernel
theorem dX10_readStatement_12 : decode cX10_readStatement 12 = .ok (.invokevirtual 235, 3) := by decide +kernel
theorem dX10_readStatement_15 : decode cX10_readStatement 15 = .ok (.ifCond .eq 24, 3) := by decide +kernel
theorem dX10_readStatement_18 : decode cX10_readStatement 18 = .ok (.aload_n 0, 1) := by decide +kernel
theorem dX10_readStatement_19 : decode cX10_readStatement 19 = .ok (.aload_n 0, 1) := by decide +kernel
theorem dX10_readStatement_20 : decode cX10_readStatement 20 = .ok (.ldc 239, 2) := by decide +kernel
theorem dX10_readStatement_22 : decode cX10_readStatement 22 = .ok (.invokevirtual 235, 3) := by decide +kernel
theorem dX10_readStatement_25 : decode cX10_readStatement 25 = .ok (.ifCond .eq 7, 3) := by decide +kernel
theorem dX10_readStatement_28 : decode cX10_readStatement 28 = .ok (.iconst 1, 1) := by decide +kernel
theorem dX10_readStatement_29 : decode cX10_readStatement 29 = .ok (.goto 4, 3) := by decide +kernel
theorem dX10_readStatement_32 : decode cX10_readStatement 32 = .ok (.iconst 0, 1) := by decide +kernel
theorem dX10_readStatement_33 : decode cX10_readStatement 33 = .ok (.invokevirtual 241, 3) := by decide +kernel
theorem dX10_readStatement_36 : decode cX10_readStatement 36 = .ok (.goto 109, 3) := by decide +kernel
theorem dX10_readStatement_39 : decode cX10_readStatement 39 = .ok (.aload_n 0, 1) := by decide +kernel
theorem dX10_readStatement_40 : decode cX10_readStatement 40 = .ok (.ldc 244, 2) := by decide +kernel
theorem dX10_readStatement_42 : decode cX10_readStatement 42 = .ok (.invokevirtual 235, 3) := by decide +kernel
theorem dX10_readStatement_45 : decode cX10_readStatement 45 = .ok (.ifCond .eq 10, 3) := by decide +kernel
theorem dX10_readStatement_48 : decode cX10_readStatement 48 = .ok (.aload_n 0, 1) := by decide +kernel
theorem dX10_readStatement_49 : decode cX10_readStatement 49 = .ok (.invokevirtual 246, 3) := by decide +kernel
theorem dX10_readStatement_52 : decode cX10_readStatement 52 = .ok (.goto 93, 3) := by decide +kernel
theorem dX10_readStatement_55 : decode cX10_readStatement 55 = .ok (.aload_n 0, 1) := by decide +kernel
theorem dX10_readStatement_56 : decode cX10_readStatement 56 = .ok (.ldc 249, 2) := by decide +kernel
theorem dX10_readStatement_58 : decode cX10_readStatement 58 = .ok (.invokevirtual 235, 3) := by decide +kernel
theorem dX10_readStatement_61 : decode cX10_readStatement 61 = .ok (.ifCond .eq 10, 3) := by decide +kernel
theorem dX10_readStatement_64 : decode cX10_readStatement 64 = .ok (.aload_n 0, 1) := by decide +kernel
theorem dX10_readStatement_65 : decode cX10_readStatement 65 = .ok (.invokevirtual 251, 3) := by decide +kernel
theorem dX10_readStatement_68 : decode cX10_readStatement 68 = .ok (.goto 77, 3) := by decide +kernel
theorem dX10_readStatement_71 : decode cX10_readStatement 71 = .ok (.aload_n 0, 1) := by decide +kernel
theorem dX10_readStatement_72 : decode cX10_readStatement 72 = .ok (.ldc 254, 2) := by decide +kernel
theorem dX10_readStatement_74 : decode cX10_readStatement 74 = .ok (.invokevirtual 235, 3) := by decide +kernel
theorem dX10_readStatement_77 : decode cX10_readStatement 77 = .ok (.ifCond .eq 10, 3) := by decide +kernel
theorem dX10_readStatement_80 : decode cX10_readStatement 80 = .ok (.aload_n 0, 1) := by decide +kernel
theorem dX10_readStatement_81 : decode cX10_readStatement 81 = .ok (.invokevirtual 256, 3) := by decide +kernel
theorem dX10_readStatement_84 : decode cX10_readStatement 84 = .ok (.goto 61, 3) := by decide +kernel
theorem dX10_readStatement_87 : decode cX10_readStatement 87 = .ok (.aload_n 0, 1) := by decide +kernel
theorem dX10_readStatement_88 : decode cX10_readStatement 88 = .ok (.ldc_w 259, 3) := by decide +kernel
theorem dX10_readStatement_91 : decode cX10_readStatement 91 = .ok (.invokevirtual 235, 3) := by decide +kernel
theorem dX10_readStatement_94 : decode cX10_readStatement 94 = .ok (.ifCond .eq 10, 3) := by decide +kernel
theorem dX10_readStatement_97 : decode cX10_readStatement 97 = .ok (.aload_n 0, 1) := by decide +kernel
theorem dX10_readStatement_98 : decode cX10_readStatement 98 = .ok (.invokevirtual 261, 3) := by decide +kernel
theorem dX10_readStatement_101 : decode cX10_readStatement 101 = .ok (.goto 44, 3) := by decide +kernel
theorem dX10_readStatement_104 : decode cX10_readStatement 104 = .ok (.aload_n 0, 1) := by decide +kernel
theorem dX10_readStatement_105 : decode cX10_readStatement 105 = .ok (.ldc_w 264, 3) := by decide +kernel
theorem dX10_readStatement_108 : decode cX10_readStatement 108 = .ok (.invokevirtual 235, 3) := by decide +kernel
theorem dX10_readStatement_111 : decode cX10_readStatement 111 = .ok (.ifCond .eq 10, 3) := by decide +kernel
theorem dX10_readStatement_114 : decode cX10_readStatement 114 = .ok (.aload_n 0, 1) := by decide +kernel
theorem dX10_readStatement_115 : decode cX10_readStatement 115 = .ok (.invokevirtual 266, 3) := by decide +kernel
theorem dX10_readStatement_118 : decode cX10_readStatement 118 = .ok (.goto 27, 3) := by decide +kernel
theorem dX10_readStatement_121 : decode cX10_readStatement 121 = .ok (.aload_n 0, 1) := by decide +kernel
theorem dX10_readStatement_122 : decode cX10_readStatement 122 = .ok (.ldc_w 269, 3) := by decide +kernel
theorem dX10_readStatement_125 : decode cX10_readStatement 125 = .ok (.invokevirtual 235, 3) := by decide +kernel
theorem dX10_readStatement_128 : decode cX10_readStatement 128 = .ok (.ifCond .eq 10, 3) := by decide +kernel
theorem dX10_readStatement_131 : decode cX10_readStatement 131 = .ok (.aload_n 0, 1) := by decide +kernel
theorem dX10_readStatement_132 : decode cX10_readStatement 132 = .ok (.invokevirtual 271, 3) := by decide +kernel
theorem dX10_readStatement_135 : decode cX10_readStatement 135 = .ok (.goto 10, 3) := by decide +kernel
theorem dX10_readStatement_138 : decode cX10_readStatement 138 = .ok (.aload_n 0, 1) := by decide +kernel
theorem dX10_readStatement_139 : decode cX10_readStatement 139 = .ok (.iconst 0, 1) := by decide +kernel
theorem dX10_readStatement_140 : decode cX10_readStatement 140 = .ok (.iconst 1, 1) := by decide +kernel
theorem dX10_readStatement_141 : decode cX10_readStatement 141 = .ok (.invokevirtual 201, 3) := by decide +kernel
theorem dX10_readStatement_144 : decode cX10_readStatement 144 = .ok (.pop, 1) := by decide +kernel
theorem dX10_readStatement_145 : decode cX10_readStatement 145 = .ok (.return_, 1) := by decide +kernel
theorem dX10_read_0 : decode cX10_read 0 = .ok (.aload_n 0, 1) := by decide +kernel
theorem dX10_read_1 : decode cX10_read 1 = .ok (.iconst 0, 1) := by decide +kernel
theorem dX10_read_2 : decode cX10_read 2 = .ok (.putfield 176, 3) := by decide +kernel
theorem dX10_read_5 : decode cX10_read 5 = .ok (.aload_n 0, 1) := by decide +kernel
theorem dX10_read_6 : decode cX10_read 6 = .ok (.iconst (-1), 1) := by decide +kernel
theorem dX10_read_7 : decode cX10_read 7 = .ok (.putfield 35, 3) := by decide +kernel
theorem dX10_read_10 : decode cX10_read 10 = .ok (.aload_n 0, 1) := by decide +kernel
theorem dX10_read_11 : decode cX10_read 11 = .ok (.iconst 0, 1) := by decide +kernel
theorem dX10_read_12 : decode cX10_read 12 = .ok (.putfield 179, 3) := by decide +kernel
theorem dX10_read_15 : decode cX10_read 15 = .ok (.iconst 0, 1) := by decide +kernel
theorem dX10_read_16 : decode cX10_read 16 = .ok (.istore_n 1, 1) := by decide +kernel
theorem dX10_read_17 : decode cX10_read 17 = .ok (.iload_n 1, 1) := by decide +kernel
theorem dX10_read_18 : decode cX10_read 18 = .ok (.sipush 251, 3) := by decide +kernel
theorem dX10_read_21 : decode cX10_read 21 = .ok (.if_icmp .ge 16, 3) := by decide +kernel
theorem dX10_read_24 : decode cX10_read 24 = .ok (.aload_n 0, 1) := by decide +kernel
theorem dX10_read_25 : decode cX10_read 25 = .ok (.getfield 13, 3) := by decide +kernel
theorem dX10_read_28 : decode cX10_read 28 = .ok (.iload_n 1, 1) := by decide +kernel
theorem dX10_read_29 : decode cX10_read 29 = .ok (.iconst 0, 1) := by decide +kernel
theorem dX10_read_30 : decode cX10_read 30 = .ok (.iastore, 1) := by decide +kernel
theorem dX10_read_31 : decode cX10_read 31 = .ok (.iinc 1 1, 3) := by decide +kernel
theorem dX10_read_34 : decode cX10_read 34 = .ok (.goto (-17), 3) := by decide +kernel
theorem dX10_read_37 : decode cX10_read 37 = .ok (.aload_n 0, 1) := by decide +kernel
theorem dX10_read_38 : decode cX10_read 38 = .ok (.invokevirtual 198, 3) := by decide +kernel
theorem dX10_read_41 : decode cX10_read 41 = .ok (.aload_n 0, 1) := by decide +kernel
theorem dX10_read_42 : decode cX10_read 42 = .ok (.getfield 176, 3) := by decide +kernel
theorem dX10_read_45 : decode cX10_read 45 = .ok (.ifCond .ne 17, 3) := by decide +kernel
theorem dX10_read_48 : decode cX10_read 48 = .ok (.aload_n 0, 1) := by decide +kernel
theorem dX10_read_49 : decode cX10_read 49 = .ok (.getfield 194, 3) := by decide +kernel
theorem dX10_read_52 : decode cX10_read 52 = .ok (.ifCond .eq 10, 3) := by decide +kernel
theorem dX10_read_55 : decode cX10_read 55 = .ok (.aload_n 0, 1) := by decide +kernel
theorem dX10_read_56 : decode cX10_read 56 = .ok (.invokevirtual 274, 3) := by decide +kernel
theorem dX10_read_59 : decode cX10_read 59 = .ok (.goto (-18), 3) := by decide +kernel
theorem dX10_read_62 : decode cX10_read 62 = .ok (.return_, 1) := by decide +kernel
theorem dX10_load_0 : decode cX10_load 0 = .ok (.aload_n 0, 1) := by decide +kernel
theorem dX10_load_1 : decode cX10_load 1 = .ok (.iconst 0, 1) := by decide +kernel
theorem dX10_load_2 : decode cX10_load 2 = .ok (.putfield 69, 3) := by decide +kernel
theorem dX10_load_5 : decode cX10_load 5 = .ok (.aload_n 0, 1) := by decide +kernel
theorem dX10_load_6 : decode cX10_load 6 = .ok (.invokevirtual 49, 3) := by decide +kernel
theorem dX10_load_9 : decode cX10_load 9 = .ok (.aload_n 0, 1) := by decide +kernel
theorem dX10_load_10 : decode cX10_load 10 = .ok (.iconst 0, 1) := by decide +kernel
theorem dX10_load_11 : decode cX10_load 11 = .ok (.putfield 52, 3) := by decide +kernel
theorem dX10_load_14 : decode cX10_load 14 = .ok (.aload_n 0, 1) := by decide +kernel
theorem dX10_load_15 : decode cX10_load 15 = .ok (.aload_n 0, 1) := by decide +kernel
theorem dX10_load_16 : decode cX10_load 16 = .ok (.getfield 176, 3) := by decide +kernel
theorem dX10_load_19 : decode cX10_load 19 = .ok (.ifCond .eq 7, 3) := by decide +kernel
theorem dX10_load_22 : decode cX10_load 22 = .ok (.iconst 1, 1) := by decide +kernel
theorem dX10_load_23 : decode cX10_load 23 = .ok (.goto 4, 3) := by decide +kernel
theorem dX10_load_26 : decode cX10_load 26 = .ok (.iconst 0, 1) := by decide +kernel
theorem dX10_load_27 : decode cX10_load 27 = .ok (.iconst 1, 1) := by decide +kernel
theorem dX10_load_28 : decode cX10_load 28 = .ok (.invokevirtual 165, 3) := by decide +kernel
theorem dX10_load_31 : decode cX10_load 31 = .ok (.ifCond .eq 5, 3) := by decide +kernel
theorem dX10_load_34 : decode cX10_load 34 = .ok (.iconst 0, 1) := by decide +kernel
theorem dX10_load_35 : decode cX10_load 35 = .ok (.ireturn, 1) := by decide +kernel
theorem dX10_load_36 : decode cX10_load 36 = .ok (.aload_n 0, 1) := by decide +kernel
theorem dX10_load_37 : decode cX10_load 37 = .ok (.invokevirtual 277, 3) := by decide +kernel
theorem dX10_load_40 : decode cX10_load 40 = .ok (.aload_n 0, 1) := by decide +kernel
theorem dX10_load_41 : decode cX10_load 41 = .ok (.getfield 13, 3) := by decide +kernel
theorem dX10_load_44 : decode cX10_load 44 = .ok (.iconst 0, 1) := by decide +kernel
theorem dX10_load_45 : decode cX10_load 45 = .ok (.aload_n 0, 1) := by decide +kernel
theorem dX10_load_46 : decode cX10_load 46 = .ok (.getfield 7, 3) := by decide +kernel
theorem dX10_load_49 : decode cX10_load 49 = .ok (.iconst 0, 1) := by decide +kernel
theorem dX10_load_50 : decode cX10_load 50 = .ok (.invokestatic 55, 3) := by decide +kernel
theorem dX10_load_53 : decode cX10_load 53 = .ok (.aload_n 0, 1) := by decide +kernel
theorem dX10_load_54 : decode cX10_load 54 = .ok (.getfield 7, 3) := by decide +kernel
theorem dX10_load_57 : decode cX10_load 57 = .ok (.iconst 1, 1) := by decide +kernel
theorem dX10_load_58 : decode cX10_load 58 = .ok (.iaload, 1) := by decide +kernel
theorem dX10_load_59 : decode cX10_load 59 = .ok (.ireturn, 1) := by decide +kernel
theorem dX10_remember_0 : decode cX10_remember 0 = .ok (.aload_n 0, 1) := by decide +kernel
theorem dX10_remember_1 : decode cX10_remember 1 = .ok (.getfield 280, 3) := by decide +kernel
theorem dX10_remember_4 : decode cX10_remember 4 = .ok (.bipush 8, 2) := by decide +kernel
theorem dX10_remember_6 : decode cX10_remember 6 = .ok (.if_icmp .ne 26, 3) := by decide +kernel
theorem dX10_remember_9 : decode cX10_remember 9 = .ok (.aload_n 0, 1) := by decide +kernel
theorem dX10_remember_10 : decode cX10_remember 10 = .ok (.aload_n 0, 1) := by decide +kernel
theorem dX10_remember_11 : decode cX10_remember 11 = .ok (.getfield 283, 3) := by decide +kernel
theorem dX10_remember_14 : decode cX10_remember 14 = .ok (.iconst 1, 1) := by decide +kernel
theorem dX10_remember_15 : decode cX10_remember 15 = .ok (.iadd, 1) := by decide +kernel
theorem dX10_remember_16 : decode cX10_remember 16 = .ok (.bipush 8, 2) := by decide +kernel
theorem dX10_remember_18 : decode cX10_remember 18 = .ok (.irem, 1) := by decide +kernel
theorem dX10_remember_19 : decode cX10_remember 19 = .ok (.putfield 283, 3) := by decide +kernel
theorem dX10_remember_22 : decode cX10_remember 22 = .ok (.aload_n 0, 1) := by decide +kernel
theorem dX10_remember_23 : decode cX10_remember 23 = .ok (.dup, 1) := by decide +kernel
theorem dX10_remember_24 : decode cX10_remember 24 = .ok (.getfield 280, 3) := by decide +kernel
theorem dX10_remember_27 : decode cX10_remember 27 = .ok (.iconst 1, 1) := by decide +kernel
theorem dX10_remember_28 : decode cX10_remember 28 = .ok (.isub, 1) := by decide +kernel
theorem dX10_remember_29 : decode cX10_remember 29 = .ok (.putfield 280, 3) := by decide +kernel
theorem dX10_remember_32 : decode cX10_remember 32 = .ok (.aload_n 0, 1) := by decide +kernel
theorem dX10_remember_33 : decode cX10_remember 33 = .ok (.getfield 7, 3) := by decide +kernel
theorem dX10_remember_36 : decode cX10_remember 36 = .ok (.iconst 0, 1) := by decide +kernel
theorem dX10_remember_37 : decode cX10_remember 37 = .ok (.aload_n 0, 1) := by decide +kernel
theorem dX10_remember_38 : decode cX10_remember 38 = .ok (.getfield 19, 3) := by decide +kernel
theorem dX10_remember_41 : decode cX10_remember 41 = .ok (.sipush 251, 3) := by decide +kernel
theorem dX10_remember_44 : decode cX10_remember 44 = .ok (.aload_n 0, 1) := by decide +kernel
theorem dX10_remember_45 : decode cX10_remember 45 = .ok (.getfield 283, 3) := by decide +kernel
theorem dX10_remember_48 : decode cX10_remember 48 = .ok (.aload_n 0, 1) := by decide +kernel
theorem dX10_remember_49 : decode cX10_remember 49 = .ok (.getfield 280, 3) := by decide +kernel
theorem dX10_remember_52 : decode cX10_remember 52 = .ok (.iadd, 1) := by decide +kernel
theorem dX10_remember_53 : decode cX10_remember 53 = .ok (.bipush 8, 2) := by decide +kernel
theorem dX10_remember_55 : decode cX10_remember 55 = .ok (.irem, 1) := by decide +kernel
theorem dX10_remember_56 : decode cX10_remember 56 = .ok (.imul, 1) := by decide +kernel
theorem dX10_remember_57 : decode cX10_remember 57 = .ok (.invokestatic 55, 3) := by decide +kernel
theorem dX10_remember_60 : decode cX10_remember 60 = .ok (.aload_n 0, 1) := by decide +kernel
theorem dX10_remember_61 : decode cX10_remember 61 = .ok (.dup, 1) := by decide +kernel
theorem dX10_remember_62 : decode cX10_remember 62 = .ok (.getfield 280, 3) := by decide +kernel
theorem dX10_remember_65 : decode cX10_remember 65 = .ok (.iconst 1, 1) := by decide +kernel
theorem dX10_remember_66 : decode cX10_remember 66 = .ok (.iadd, 1) := by decide +kernel
theorem dX10_remember_67 : decode cX10_remember 67 = .ok (.putfield 280, 3) := by decide +kernel
theorem dX10_remember_70 : decode cX10_remember 70 = .ok (.return_, 1) := by decide +kernel
theorem dX10_undo_0 : decode cX10_undo 0 = .ok (.aload_n 0, 1) := by decide +kernel
theorem dX10_undo_1 : decode cX10_undo 1 = .ok (.iconst 0, 1) := by decide +kernel
theorem dX10_undo_2 : decode cX10_undo 2 = .ok (.putfield 69, 3) := by decide +kernel
theorem dX10_undo_5 : decode cX10_undo 5 = .ok (.aload_n 0, 1) := by decide +kernel
theorem dX10_undo_6 : decode cX10_undo 6 = .ok (.aload_n 0, 1) := by decide +kernel
theorem dX10_undo_7 : decode cX10_undo 7 = .ok (.getfield 280, 3) := by decide +kernel
theorem dX10_undo_10 : decode cX10_undo 10 = .ok (.ifCond .ne 7, 3) := by decide +kernel
theorem dX10_undo_13 : decode cX10_undo 13 = .ok (.iconst 1, 1) := by decide +kernel
theorem dX10_undo_14 : decode cX10_undo 14 = .ok (.goto 4, 3) := by decide +kernel
theorem dX10_undo_17 : decode cX10_undo 17 = .ok (.iconst 0, 1) := by decide +kernel
theorem dX10_undo_18 : decode cX10_undo 18 = .ok (.iconst 1, 1) := by decide +kernel
theorem dX10_undo_19 : decode cX10_undo 19 = .ok (.invokevirtual 165, 3) := by decide +kernel
theorem dX10_undo_22 : decode cX10_undo 22 = .ok (.ifCond .eq 5, 3) := by decide +kernel
theorem dX10_undo_25 : decode cX10_undo 25 = .ok (.iconst 0, 1) := by decide +kernel
theorem dX10_undo_26 : decode cX10_undo 26 = .ok (.ireturn, 1) := by decide +kernel
theorem dX10_undo_27 : decode cX10_undo 27 = .ok (.aload_n 0, 1) := by decide +kernel
theorem dX10_undo_28 : decode cX10_undo 28 = .ok (.dup, 1) := by decide +kernel
theorem dX10_undo_29 : decode cX10_undo 29 = .ok (.getfield 280, 3) := by decide +kernel
theorem dX10_undo_32 : decode cX10_undo 32 = .ok (.iconst 1, 1) := by decide +kernel
theorem dX10_undo_33 : decode cX10_undo 33 = .ok (.isub, 1) := by decide +kernel
theorem dX10_undo_34 : decode cX10_undo 34 = .ok (.putfield 280, 3) := by decide +kernel
theorem dX10_undo_37 : decode cX10_undo 37 = .ok (.aload_n 0, 1) := by decide +kernel
theorem dX10_undo_38 : decode cX10_undo 38 = .ok (.getfield 19, 3) := by decide +kernel
theorem dX10_undo_41 : decode cX10_undo 41 = .ok (.sipush 251, 3) := by decide +kernel
theorem dX10_undo_44 : decode cX10_undo 44 = .ok (.aload_n 0, 1) := by decide +kernel
theorem dX10_undo_45 : decode cX10_undo 45 = .ok (.getfield 283, 3) := by decide +kernel
theorem dX10_undo_48 : decode cX10_undo 48 = .ok (.aload_n 0, 1) := by decide +kernel
theorem dX10_undo_49 : decode cX10_undo 49 = .ok (.getfield 280, 3) := by decide +kernel
theorem dX10_undo_52 : decode cX10_undo 52 = .ok (.iadd, 1) := by decide +kernel
theorem dX10_undo_53 : decode cX10_undo 53 = .ok (.bipush 8, 2) := by decide +kernel
theorem dX10_undo_55 : decode cX10_undo 55 = .ok (.irem, 1) := by decide +kernel
theorem dX10_undo_56 : decode cX10_undo 56 = .ok (.imul, 1) := by decide +kernel
theorem dX10_undo_57 : decode cX10_undo 57 = .ok (.aload_n 0, 1) := by decide +kernel
theorem dX10_undo_58 : decode cX10_undo 58 = .ok (.getfield 7, 3) := by decide +kernel
theorem dX10_undo_61 : decode cX10_undo 61 = .ok (.iconst 0, 1) := by decide +kernel
theorem dX10_undo_62 : decode cX10_undo 62 = .ok (.invokestatic 55, 3) := by decide +kernel
theorem dX10_undo_65 : decode cX10_undo 65 = .ok (.aload_n 0, 1) := by decide +kernel
theorem dX10_undo_66 : decode cX10_undo 66 = .ok (.getfield 280, 3) := by decide +kernel
theorem dX10_undo_69 : decode cX10_undo 69 = .ok (.ireturn, 1) := by decide +kernel
theorem dX10_undoDepth_0 : decode cX10_undoDepth 0 = .ok (.aload_n 0, 1) := by decide +kernel
theorem dX10_undoDepth_1 : decode cX10_undoDepth 1 = .ok (.iconst 0, 1) := by decide +kernel
theorem dX10_undoDepth_2 : decode cX10_undoDepth 2 = .ok (.putfield 69, 3) := by decide +kernel
theorem dX10_undoDepth_5 : decode cX10_undoDepth 5 = .ok (.aload_n 0, 1) := by decide +kernel
theorem dX10_undoDepth_6 : decode cX10_undoDepth 6 = .ok (.getfield 280, 3) := by decide +kernel
theorem dX10_undoDepth_9 : decode cX10_undoDepth 9 = .ok (.ireturn, 1) := by decide +kernel
theorem dX10_noNumber_0 : decode cX10_noNumber 0 = .ok (.aload_n 0, 1) := by decide +kernel
theorem dX10_noNumber_1 : decode cX10_noNumber 1 = .ok (.iconst 0, 1) := by decide +kernel
theorem dX10_noNumber_2 : decode cX10_noNumber 2 = .ok (.putfield 69, 3) := by decide +kernel
theorem dX10_noNumber_5 : decode cX10_noNumber 5 = .ok (.aload_n 0, 1) := by decide +kernel
theorem dX10_noNumber_6 : decode cX10_noNumber 6 = .ok (.iload_n 1, 1) := by decide +kernel
theorem dX10_noNumber_7 : decode cX10_noNumber 7 = .ok (.iload_n 2, 1) := by decide +kernel
theorem dX10_noNumber_8 : decode cX10_noNumber 8 = .ok (.iload_n 3, 1) := by decide +kernel
theorem dX10_noNumber_9 : decode cX10_noNumber 9 = .ok (.invokestatic 99, 3) := by decide +kernel
theorem dX10_noNumber_12 : decode cX10_noNumber 12 = .ok (.ifCond .ne 7, 3) := by decide +kernel
theorem dX10_noNumber_15 : decode cX10_noNumber 15 = .ok (.iconst 1, 1) := by decide +kernel
theorem dX10_noNumber_16 : decode cX10_noNumber 16 = .ok (.goto 4, 3) := by decide +kernel
theorem dX10_noNumber_19 : decode cX10_noNumber 19 = .ok (.iconst 0, 1) := by decide +kernel
theorem dX10_noNumber_20 : decode cX10_noNumber 20 = .ok (.iconst 1, 1) := by decide +kernel
theorem dX10_noNumber_21 : decode cX10_noNumber 21 = .ok (.invokevirtual 165, 3) := by decide +kernel
theorem dX10_noNumber_24 : decode cX10_noNumber 24 = .ok (.ireturn, 1) := by decide +kernel
theorem dX10_noStation_0 : decode cX10_noStation 0 = .ok (.aload_n 0, 1) := by decide +kernel
theorem dX10_noStation_1 : decode cX10_noStation 1 = .ok (.iload_n 1, 1) := by decide +kernel
theorem dX10_noStation_2 : decode cX10_noStation 2 = .ok (.iconst 0, 1) := by decide +kernel
theorem dX10_noStation_3 : decode cX10_noStation 3 = .ok (.aload_n 0, 1) := by decide +kernel
theorem dX10_noStation_4 : decode cX10_noStation 4 = .ok (.getfield 7, 3) := by decide +kernel
theorem dX10_noStation_7 : decode cX10_noStation 7 = .ok (.iconst 1, 1) := by decide +kernel
theorem dX10_noStation_8 : decode cX10_noStation 8 = .ok (.iaload, 1) := by decide +kernel
theorem dX10_noStation_9 : decode cX10_noStation 9 = .ok (.iconst 1, 1) := by decide +kernel
theorem dX10_noStation_10 : decode cX10_noStation 10 = .ok (.isub, 1) := by decide +kernel
theorem dX10_noStation_11 : decode cX10_noStation 11 = .ok (.invokevirtual 173, 3) := by decide +kernel
theorem dX10_noStation_14 : decode cX10_noStation 14 = .ok (.ireturn, 1) := by decide +kernel
theorem dX10_noStations_0 : decode cX10_noStations 0 = .ok (.aload_n 0, 1) := by decide +kernel
theorem dX10_noStations_1 : decode cX10_noStations 1 = .ok (.iload_n 1, 1) := by decide +kernel
theorem dX10_noStations_2 : decode cX10_noStations 2 = .ok (.invokevirtual 286, 3) := by decide +kernel
theorem dX10_noStations_5 : decode cX10_noStations 5 = .ok (.ifCond .ne 11, 3) := by decide +kernel
theorem dX10_noStations_8 : decode cX10_noStations 8 = .ok (.aload_n 0, 1) := by decide +kernel
theorem dX10_noStations_9 : decode cX10_noStations 9 = .ok (.iload_n 2, 1) := by decide +kernel
theorem dX10_noStations_10 : decode cX10_noStations 10 = .ok (.invokevirtual 286, 3) := by decide +kernel
theorem dX10_noStations_13 : decode cX10_noStations 13 = .ok (.ifCond .eq 7, 3) := by decide +kernel
theorem dX10_noStations_16 : decode cX10_noStations 16 = .ok (.iconst 1, 1) := by decide +kernel
theorem dX10_noStations_17 : decode cX10_noStations 17 = .ok (.goto 4, 3) := by decide +kernel
theorem dX10_noStations_20 : decode cX10_noStations 20 = .ok (.iconst 0, 1) := by decide +kernel
theorem dX10_noStations_21 : decode cX10_noStations 21 = .ok (.ireturn, 1) := by decide +kernel
theorem dX10_noTrain_0 : decode cX10_noTrain 0 = .ok (.aload_n 0, 1) := by decide +kernel
theorem dX10_noTrain_1 : decode cX10_noTrain 1 = .ok (.iload_n 1, 1) := by decide +kernel
theorem dX10_noTrain_2 : decode cX10_noTrain 2 = .ok (.iconst 0, 1) := by decide +kernel
theorem dX10_noTrain_3 : decode cX10_noTrain 3 = .ok (.aload_n 0, 1) := by decide +kernel
theorem dX10_noTrain_4 : decode cX10_noTrain 4 = .ok (.getfield 7, 3) := by decide +kernel
theorem dX10_noTrain_7 : decode cX10_noTrain 7 = .ok (.iconst 3, 1) := by decide +kernel
theorem dX10_noTrain_8 : decode cX10_noTrain 8 = .ok (.iaload, 1) := by decide +kernel
theorem dX10_noTrain_9 : decode cX10_noTrain 9 = .ok (.iconst 1, 1) := by decide +kernel
theorem dX10_noTrain_10 : decode cX10_noTrain 10 = .ok (.isub, 1) := by decide +kernel
theorem dX10_noTrain_11 : decode cX10_noTrain 11 = .ok (.invokevirtual 173, 3) := by decide +kernel
theorem dX10_noTrain_14 : decode cX10_noTrain 14 = .ok (.ireturn, 1) := by decide +kernel
theorem dX10_noParcel_0 : decode cX10_noParcel 0 = .ok (.aload_n 0, 1) := by decide +kernel
theorem dX10_noParcel_1 : decode cX10_noParcel 1 = .ok (.iload_n 1, 1) := by decide +kernel
theorem dX10_noParcel_2 : decode cX10_noParcel 2 = .ok (.iconst 0, 1) := by decide +kernel
theorem dX10_noParcel_3 : decode cX10_noParcel 3 = .ok (.aload_n 0, 1) := by decide +kernel
theorem dX10_noParcel_4 : decode cX10_noParcel 4 = .ok (.getfield 7, 3) := by decide +kernel
theorem dX10_noParcel_7 : decode cX10_noParcel 7 = .ok (.iconst 4, 1) := by decide +kernel
theorem dX10_noParcel_8 : decode cX10_noParcel 8 = .ok (.iaload, 1) := by decide +kernel
theorem dX10_noParcel_9 : decode cX10_noParcel 9 = .ok (.iconst 1, 1) := by decide +kernel
theorem dX10_noParcel_10 : decode cX10_noParcel 10 = .ok (.isub, 1) := by decide +kernel
theorem dX10_noParcel_11 : decode cX10_noParcel 11 = .ok (.invokevirtual 173, 3) := by decide +kernel
theorem dX10_noParcel_14 : decode cX10_noParcel 14 = .ok (.ireturn, 1) := by decide +kernel
theorem dX10_out_0 : decode cX10_out 0 = .ok (.aload_n 0, 1) := by decide +kernel
theorem dX10_out_1 : decode cX10_out 1 = .ok (.iload_n 1, 1) := by decide +kernel
theorem dX10_out_2 : decode cX10_out 2 = .ok (.iload_n 2, 1) := by decide +kernel
theorem dX10_out_3 : decode cX10_out 3 = .ok (.iload_n 3, 1) := by decide +kernel
theorem dX10_out_4 : decode cX10_out 4 = .ok (.invokestatic 99, 3) := by decide +kernel
theorem dX10_out_7 : decode cX10_out 7 = .ok (.ifCond .ne 7, 3) := by decide +kernel
theorem dX10_out_10 : decode cX10_out 10 = .ok (.iconst 1, 1) := by decide +kernel
theorem dX10_out_11 : decode cX10_out 11 = .ok (.goto 4, 3) := by decide +kernel
theorem dX10_out_14 : decode cX10_out 14 = .ok (.iconst 0, 1) := by decide +kernel
theorem dX10_out_15 : decode cX10_out 15 = .ok (.iconst 2, 1) := by decide +kernel
theorem dX10_out_16 : decode cX10_out 16 = .ok (.invokevirtual 165, 3) := by decide +kernel
theorem dX10_out_19 : decode cX10_out 19 = .ok (.ireturn, 1) := by decide +kernel
theorem dX10_clock_0 : decode cX10_clock 0 = .ok (.aload_n 0, 1) := by decide +kernel
theorem dX10_clock_1 : decode cX10_clock 1 = .ok (.iconst 0, 1) := by decide +kernel
theorem dX10_clock_2 : decode cX10_clock 2 = .ok (.putfield 69, 3) := by decide +kernel
theorem dX10_clock_5 : decode cX10_clock 5 = .ok (.aload_n 0, 1) := by decide +kernel
theorem dX10_clock_6 : decode cX10_clock 6 = .ok (.getfield 7, 3) := by decide +kernel
theorem dX10_clock_9 : decode cX10_clock 9 = .ok (.iconst 0, 1) := by decide +kernel
theorem dX10_clock_10 : decode cX10_clock 10 = .ok (.iaload, 1) := by decide +kernel
theorem dX10_clock_11 : decode cX10_clock 11 = .ok (.ireturn, 1) := by decide +kernel
theorem dX10_stationCount_0 : decode cX10_stationCount 0 = .ok (.aload_n 0, 1) := by decide +kernel
theorem dX10_stationCount_1 : decode cX10_stationCount 1 = .ok (.iconst 0, 1) := by decide +kernel
theorem dX10_stationCount_2 : decode cX10_stationCount 2 = .ok (.putfield 69, 3) := by decide +kernel
theorem dX10_stationCount_5 : decode cX10_stationCount 5 = .ok (.aload_n 0, 1) := by decide +kernel
theorem dX10_stationCount_6 : decode cX10_stationCount 6 = .ok (.getfield 7, 3) := by decide +kernel
theorem dX10_stationCount_9 : decode cX10_stationCount 9 = .ok (.iconst 1, 1) := by decide +kernel
theorem dX10_stationCount_10 : decode cX10_stationCount 10 = .ok (.iaload, 1) := by decide +kernel
theorem dX10_stationCount_11 : decode cX10_stationCount 11 = .ok (.ireturn, 1) := by decide +kernel
theorem dX10_trackCount_0 : decode cX10_trackCount 0 = .ok (.aload_n 0, 1) := by decide +kernel
theorem dX10_trackCount_1 : decode cX10_trackCount 1 = .ok (.iconst 0, 1) := by decide +kernel
theorem dX10_trackCount_2 : decode cX10_trackCount 2 = .ok (.putfield 69, 3) := by decide +kernel
theorem dX10_trackCount_5 : decode cX10_trackCount 5 = .ok (.aload_n 0, 1) := by decide +kernel
theorem dX10_trackCount_6 : decode cX10_trackCount 6 = .ok (.getfield 7, 3) := by decide +kernel
theorem dX10_trackCount_9 : decode cX10_trackCount 9 = .ok (.iconst 2, 1) := by decide +kernel
theorem dX10_trackCount_10 : decode cX10_trackCount 10 = .ok (.iaload, 1) := by decide +kernel
theorem dX10_trackCount_11 : decode cX10_trackCount 11 = .ok (.ireturn, 1) := by decide +kernel
theorem dX10_trainCount_0 : decode cX10_trainCount 0 = .ok (.aload_n 0, 1) := by decide +kernel
theorem dX10_trainCount_1 : decode cX10_trainCount 1 = .ok (.iconst 0, 1) := by decide +kernel
theorem dX10_trainCount_2 : decode cX10_trainCount 2 = .ok (.putfield 69, 3) := by decide +kernel
theorem dX10_trainCount_5 : decode cX10_trainCount 5 = .ok (.aload_n 0, 1) := by decide +kernel
theorem dX10_trainCount_6 : decode cX10_trainCount 6 = .ok (.getfield 7, 3) := by decide +kernel
theorem dX10_trainCount_9 : decode cX10_trainCount 9 = .ok (.iconst 3, 1) := by decide +kernel
theorem dX10_trainCount_10 : decode cX10_trainCount 10 = .ok (.iaload, 1) := by decide +kernel
theorem dX10_trainCount_11 : decode cX10_trainCount 11 = .ok (.ireturn, 1) := by decide +kernel
theorem dX10_parcelCount_0 : decode cX10_parcelCount 0 = .ok (.aload_n 0, 1) := by decide +kernel
theorem dX10_parcelCount_1 : decode cX10_parcelCount 1 = .ok (.iconst 0, 1) := by decide +kernel
theorem dX10_parcelCount_2 : decode cX10_parcelCount 2 = .ok (.putfield 69, 3) := by decide +kernel
theorem dX10_parcelCount_5 : decode cX10_parcelCount 5 = .ok (.aload_n 0, 1) := by decide +kernel
theorem dX10_parcelCount_6 : decode cX10_parcelCount 6 = .ok (.getfield 7, 3) := by decide +kernel
theorem dX10_parcelCount_9 : decode cX10_parcelCount 9 = .ok (.iconst 4, 1) := by decide +kernel
theorem dX10_parcelCount_10 : decode cX10_parcelCount 10 = .ok (.iaload, 1) := by decide +kernel
theorem dX10_parcelCount_11 : decode cX10_parcelCount 11 = .ok (.ireturn, 1) := by decide +kernel
theorem dX10_isRequestStop_0 : decode cX10_isRequestStop 0 = .ok (.aload_n 0, 1) := by decide +kernel
theorem dX10_isRequestStop_1 : decode cX10_isRequestStop 1 = .ok (.iload_n 1, 1) := by decide +kernel
theorem dX10_isRequestStop_2 : decode cX10_isRequestStop 2 = .ok (.invokevirtual 286, 3) := by decide +kernel
theorem dX10_isRequestStop_5 : decode cX10_isRequestStop 5 = .ok (.ifCond .ne 22, 3) := by decide +kernel
theorem dX10_isRequestStop_8 : decode cX10_isRequestStop 8 = .ok (.aload_n 0, 1) := by decide +kernel
theorem dX10_isRequestStop_9 : decode cX10_isRequestStop 9 = .ok (.getfield 7, 3) := by decide +kernel
theorem dX10_isRequestStop_12 : decode cX10_isRequestStop 12 = .ok (.iload_n 1, 1) := by decide +kernel
theorem dX10_isRequestStop_13 : decode cX10_isRequestStop 13 = .ok (.invokestatic 134, 3) := by decide +kernel
theorem dX10_isRequestStop_16 : decode cX10_isRequestStop 16 = .ok (.iconst 1, 1) := by decide +kernel
theorem dX10_isRequestStop_17 : decode cX10_isRequestStop 17 = .ok (.iadd, 1) := by decide +kernel
theorem dX10_isRequestStop_18 : decode cX10_isRequestStop 18 = .ok (.iaload, 1) := by decide +kernel
theorem dX10_isRequestStop_19 : decode cX10_isRequestStop 19 = .ok (.iconst 1, 1) := by decide +kernel
theorem dX10_isRequestStop_20 : decode cX10_isRequestStop 20 = .ok (.if_icmp .ne 7, 3) := by decide +kernel
theorem dX10_isRequestStop_23 : decode cX10_isRequestStop 23 = .ok (.iconst 1, 1) := by decide +kernel
theorem dX10_isRequestStop_24 : decode cX10_isRequestStop 24 = .ok (.goto 4, 3) := by decide +kernel
theorem dX10_isRequestStop_27 : decode cX10_isRequestStop 27 = .ok (.iconst 0, 1) := by decide +kernel
theorem dX10_isRequestStop_28 : decode cX10_isRequestStop 28 = .ok (.ireturn, 1) := by decide +kernel
theorem dX10_inspectionTime_0 : decode cX10_inspectionTime 0 = .ok (.aload_n 0, 1) := by decide +kernel
theorem dX10_inspectionTime_1 : decode cX10_inspectionTime 1 = .ok (.iload_n 1, 1) := by decide +kernel
theorem dX10_inspectionTime_2 : decode cX10_inspectionTime 2 = .ok (.invokevirtual 286, 3) := by decide +kernel
theorem dX10_inspectionTime_5 : decode cX10_inspectionTime 5 = .ok (.ifCond .eq 7, 3) := by decide +kernel
theorem dX10_inspectionTime_8 : decode cX10_inspectionTime 8 = .ok (.iconst 0, 1) := by decide +kernel
theorem dX10_inspectionTime_9 : decode cX10_inspectionTime 9 = .ok (.goto 14, 3) := by decide +kernel
theorem dX10_inspectionTime_12 : decode cX10_inspectionTime 12 = .ok (.aload_n 0, 1) := by decide +kernel
theorem dX10_inspectionTime_13 : decode cX10_inspectionTime 13 = .ok (.getfield 7, 3) := by decide +kernel
theorem dX10_inspectionTime_16 : decode cX10_inspectionTime 16 = .ok (.iload_n 1, 1) := by decide +kernel
theorem dX10_inspectionTime_17 : decode cX10_inspectionTime 17 = .ok (.invokestatic 134, 3) := by decide +kernel
theorem dX10_inspectionTime_20 : decode cX10_inspectionTime 20 = .ok (.iconst 2, 1) := by decide +kernel
theorem dX10_inspectionTime_21 : decode cX10_inspectionTime 21 = .ok (.iadd, 1) := by decide +kernel
theorem dX10_inspectionTime_22 : decode cX10_inspectionTime 22 = .ok (.iaload, 1) := by decide +kernel
theorem dX10_inspectionTime_23 : decode cX10_inspectionTime 23 = .ok (.ireturn, 1) := by decide +kernel
theorem dX10_waitingCount_0 : decode cX10_waitingCount 0 = .ok (.aload_n 0, 1) := by decide +kernel
theorem dX10_waitingCount_1 : decode cX10_waitingCount 1 = .ok (.iload_n 1, 1) := by decide +kernel
theorem dX10_waitingCount_2 : decode cX10_waitingCount 2 = .ok (.invokevirtual 286, 3) := by decide +kernel
theorem dX10_waitingCount_5 : decode cX10_waitingCount 5 = .ok (.ifCond .eq 7, 3) := by decide +kernel
theorem dX10_waitingCount_8 : decode cX10_waitingCount 8 = .ok (.iconst 0, 1) := by decide +kernel
theorem dX10_waitingCount_9 : decode cX10_waitingCount 9 = .ok (.goto 11, 3) := by decide +kernel
theorem dX10_waitingCount_12 : decode cX10_waitingCount 12 = .ok (.aload_n 0, 1) := by decide +kernel
theorem dX10_waitingCount_13 : decode cX10_waitingCount 13 = .ok (.getfield 7, 3) := by decide +kernel
theorem dX10_waitingCount_16 : decode cX10_waitingCount 16 = .ok (.iload_n 1, 1) := by decide +kernel
theorem dX10_waitingCount_17 : decode cX10_waitingCount 17 = .ok (.invokestatic 290, 3) := by decide +kernel
theorem dX10_waitingCount_20 : decode cX10_waitingCount 20 = .ok (.ireturn, 1) := by decide +kernel
theorem dX10_waitingParcel_0 : decode cX10_waitingParcel 0 = .ok (.aload_n 0, 1) := by decide +kernel
theorem dX10_waitingParcel_1 : decode cX10_waitingParcel 1 = .ok (.iload_n 1, 1) := by decide +kernel
theorem dX10_waitingParcel_2 : decode cX10_waitingParcel 2 = .ok (.invokevirtual 286, 3) := by decide +kernel
theorem dX10_waitingParcel_5 : decode cX10_waitingParcel 5 = .ok (.ifCond .ne 22, 3) := by decide +kernel
theorem dX10_waitingParcel_8 : decode cX10_waitingParcel 8 = .ok (.aload_n 0, 1) := by decide +kernel
theorem dX10_waitingParcel_9 : decode cX10_waitingParcel 9 = .ok (.iload_n 2, 1) := by decide +kernel
theorem dX10_waitingParcel_10 : decode cX10_waitingParcel 10 = .ok (.iconst 0, 1) := by decide +kernel
theorem dX10_waitingParcel_11 : decode cX10_waitingParcel 11 = .ok (.aload_n 0, 1) := by decide +kernel
theorem dX10_waitingParcel_12 : decode cX10_waitingParcel 12 = .ok (.getfield 7, 3) := by decide +kernel
theorem dX10_waitingParcel_15 : decode cX10_waitingParcel 15 = .ok (.iload_n 1, 1) := by decide +kernel
theorem dX10_waitingParcel_16 : decode cX10_waitingParcel 16 = .ok (.invokestatic 290, 3) := by decide +kernel
theorem dX10_waitingParcel_19 : decode cX10_waitingParcel 19 = .ok (.iconst 1, 1) := by decide +kernel
theorem dX10_waitingParcel_20 : decode cX10_waitingParcel 20 = .ok (.isub, 1) := by decide +kernel
theorem dX10_waitingParcel_21 : decode cX10_waitingParcel 21 = .ok (.invokevirtual 293, 3) := by decide +kernel
theorem dX10_waitingParcel_24 : decode cX10_waitingParcel 24 = .ok (.ifCond .eq 7, 3) := by decide +kernel
theorem dX10_waitingParcel_27 : decode cX10_waitingParcel 27 = .ok (.iconst 0, 1) := by decide +kernel
theorem dX10_waitingParcel_28 : decode cX10_waitingParcel 28 = .ok (.goto 12, 3) := by decide +kernel
theorem dX10_waitingParcel_31 : decode cX10_waitingParcel 31 = .ok (.aload_n 0, 1) := by decide +kernel
theorem dX10_waitingParcel_32 : decode cX10_waitingParcel 32 = .ok (.getfield 7, 3) := by decide +kernel
theorem dX10_waitingParcel_35 : decode cX10_waitingParcel 35 = .ok (.iload_n 1, 1) := by decide +kernel
theorem dX10_waitingParcel_36 : decode cX10_waitingParcel 36 = .ok (.iload_n 2, 1) := by decide +kernel
theorem dX10_waitingParcel_37 : decode cX10_waitingParcel 37 = .ok (.invokestatic 122, 3) := by decide +kernel
theorem dX10_waitingParcel_40 : decode cX10_waitingParcel 40 = .ok (.ireturn, 1) := by decide +kernel
theorem dX10_travelTime_0 : decode cX10_travelTime 0 = .ok (.aload_n 0, 1) := by decide +kernel
theorem dX10_travelTime_1 : decode cX10_travelTime 1 = .ok (.iload_n 1, 1) := by decide +kernel
theorem dX10_travelTime_2 : decode cX10_travelTime 2 = .ok (.iload_n 2, 1) := by decide +kernel
theorem dX10_travelTime_3 : decode cX10_travelTime 3 = .ok (.invokevirtual 296, 3) := by decide +kernel
theorem dX10_travelTime_6 : decode cX10_travelTime 6 = .ok (.ifCond .eq 5, 3) := by decide +kernel
theorem dX10_travelTime_9 : decode cX10_travelTime 9 = .ok (.iconst 0, 1) := by decide +kernel
theorem dX10_travelTime_10 : decode cX10_travelTime 10 = .ok (.ireturn, 1) := by decide +kernel
theorem dX10_travelTime_11 : decode cX10_travelTime 11 = .ok (.aload_n 0, 1) := by decide +kernel
theorem dX10_travelTime_12 : decode cX10_travelTime 12 = .ok (.getfield 7, 3) := by decide +kernel
theorem dX10_travelTime_15 : decode cX10_travelTime 15 = .ok (.iload_n 1, 1) := by decide +kernel
theorem dX10_travelTime_16 : decode cX10_travelTime 16 = .ok (.iload_n 2, 1) := by decide +kernel
theorem dX10_travelTime_17 : decode cX10_travelTime 17 = .ok (.invokestatic 128, 3) := by decide +kernel
theorem dX10_travelTime_20 : decode cX10_travelTime 20 = .ok (.istore_n 3, 1) := by decide +kernel
theorem dX10_travelTime_21 : decode cX10_travelTime 21 = .ok (.iload_n 3, 1) := by decide +kernel
theorem dX10_travelTime_22 : decode cX10_travelTime 22 = .ok (.iconst (-1), 1) := by decide +kernel
theorem dX10_travelTime_23 : decode cX10_travelTime 23 = .ok (.if_icmp .ne 7, 3) := by decide +kernel
theorem dX10_travelTime_26 : decode cX10_travelTime 26 = .ok (.iconst (-1), 1) := by decide +kernel
theorem dX10_travelTime_27 : decode cX10_travelTime 27 = .ok (.goto 14, 3) := by decide +kernel
theorem dX10_travelTime_30 : decode cX10_travelTime 30 = .ok (.aload_n 0, 1) := by decide +kernel
theorem dX10_travelTime_31 : decode cX10_travelTime 31 = .ok (.getfield 7, 3) := by decide +kernel
theorem dX10_travelTime_34 : decode cX10_travelTime 34 = .ok (.iload_n 3, 1) := by decide +kernel
theorem dX10_travelTime_35 : decode cX10_travelTime 35 = .ok (.invokestatic 72, 3) := by decide +kernel
theorem dX10_travelTime_38 : decode cX10_travelTime 38 = .ok (.iconst 2, 1) := by decide +kernel
theorem dX10_travelTime_39 : decode cX10_travelTime 39 = .ok (.iadd, 1) := by decide +kernel
theorem dX10_travelTime_40 : decode cX10_travelTime 40 = .ok (.iaload, 1) := by decide +kernel
theorem dX10_travelTime_41 : decode cX10_travelTime 41 = .ok (.ireturn, 1) := by decide +kernel
theorem dX10_isTrackOpen_0 : decode cX10_isTrackOpen 0 = .ok (.aload_n 0, 1) := by decide +kernel
theorem dX10_isTrackOpen_1 : decode cX10_isTrackOpen 1 = .ok (.iload_n 1, 1) := by decide +kernel
theorem dX10_isTrackOpen_2 : decode cX10_isTrackOpen 2 = .ok (.iload_n 2, 1) := by decide +kernel
theorem dX10_isTrackOpen_3 : decode cX10_isTrackOpen 3 = .ok (.invokevirtual 296, 3) := by decide +kernel
theorem dX10_isTrackOpen_6 : decode cX10_isTrackOpen 6 = .ok (.ifCond .ne 26, 3) := by decide +kernel
theorem dX10_isTrackOpen_9 : decode cX10_isTrackOpen 9 = .ok (.aload_n 0, 1) := by decide +kernel
theorem dX10_isTrackOpen_10 : decode cX10_isTrackOpen 10 = .ok (.getfield 7, 3) := by decide +kernel
theorem dX10_isTrackOpen_13 : decode cX10_isTrackOpen 13 = .ok (.aload_n 0, 1) := by decide +kernel
theorem dX10_isTrackOpen_14 : decode cX10_isTrackOpen 14 = .ok (.getfield 7, 3) := by decide +kernel
theorem dX10_isTrackOpen_17 : decode cX10_isTrackOpen 17 = .ok (.iload_n 1, 1) := by decide +kernel
theorem dX10_isTrackOpen_18 : decode cX10_isTrackOpen 18 = .ok (.iload_n 2, 1) := by decide +kernel
theorem dX10_isTrackOpen_19 : decode cX10_isTrackOpen 19 = .ok (.invokestatic 128, 3) := by decide +kernel
theorem dX10_isTrackOpen_22 : decode cX10_isTrackOpen 22 = .ok (.invokestatic 131, 3) := by decide +kernel
theorem dX10_isTrackOpen_25 : decode cX10_isTrackOpen 25 = .ok (.ifCond .eq 7, 3) := by decide +kernel
theorem dX10_isTrackOpen_28 : decode cX10_isTrackOpen 28 = .ok (.iconst 1, 1) := by decide +kernel
theorem dX10_isTrackOpen_29 : decode cX10_isTrackOpen 29 = .ok (.goto 4, 3) := by decide +kernel
theorem dX10_isTrackOpen_32 : decode cX10_isTrackOpen 32 = .ok (.iconst 0, 1) := by decide +kernel
theorem dX10_isTrackOpen_33 : decode cX10_isTrackOpen 33 = .ok (.ireturn, 1) := by decide +kernel
theorem dX10_distance_0 : decode cX10_distance 0 = .ok (.aload_n 0, 1) := by decide +kernel
theorem dX10_distance_1 : decode cX10_distance 1 = .ok (.iload_n 1, 1) := by decide +kernel
theorem dX10_distance_2 : decode cX10_distance 2 = .ok (.iload_n 2, 1) := by decide +kernel
theorem dX10_distance_3 : decode cX10_distance 3 = .ok (.invokevirtual 296, 3) := by decide +kernel
theorem dX10_distance_6 : decode cX10_distance 6 = .ok (.ifCond .eq 5, 3) := by decide +kernel
theorem dX10_distance_9 : decode cX10_distance 9 = .ok (.iconst 0, 1) := by decide +kernel
theorem dX10_distance_10 : decode cX10_distance 10 = .ok (.ireturn, 1) := by decide +kernel
theorem dX10_distance_11 : decode cX10_distance 11 = .ok (.aload_n 0, 1) := by decide +kernel
theorem dX10_distance_12 : decode cX10_distance 12 = .ok (.aload_n 0, 1) := by decide +kernel
theorem dX10_distance_13 : decode cX10_distance 13 = .ok (.getfield 7, 3) := by decide +kernel
theorem dX10_distance_16 : decode cX10_distance 16 = .ok (.iload_n 1, 1) := by decide +kernel
theorem dX10_distance_17 : decode cX10_distance 17 = .ok (.invokevirtual 91, 3) := by decide +kernel
theorem dX10_distance_20 : decode cX10_distance 20 = .ok (.aload_n 0, 1) := by decide +kernel
theorem dX10_distance_21 : decode cX10_distance 21 = .ok (.getfield 29, 3) := by decide +kernel
theorem dX10_distance_24 : decode cX10_distance 24 = .ok (.iload_n 2, 1) := by decide +kernel
theorem dX10_distance_25 : decode cX10_distance 25 = .ok (.iaload, 1) := by decide +kernel
theorem dX10_distance_26 : decode cX10_distance 26 = .ok (.ldc 76, 2) := by decide +kernel
theorem dX10_distance_28 : decode cX10_distance 28 = .ok (.if_icmp .ne 7, 3) := by decide +kernel
theorem dX10_distance_31 : decode cX10_distance 31 = .ok (.iconst (-1), 1) := by decide +kernel
theorem dX10_distance_32 : decode cX10_distance 32 = .ok (.goto 9, 3) := by decide +kernel
theorem dX10_distance_35 : decode cX10_distance 35 = .ok (.aload_n 0, 1) := by decide +kernel
theorem dX10_distance_36 : decode cX10_distance 36 = .ok (.getfield 29, 3) := by decide +kernel
theorem dX10_distance_39 : decode cX10_distance 39 = .ok (.iload_n 2, 1) := by decide +kernel
theorem dX10_distance_40 : decode cX10_distance 40 = .ok (.iaload, 1) := by decide +kernel
theorem dX10_distance_41 : decode cX10_distance 41 = .ok (.ireturn, 1) := by decide +kernel
theorem dX10_capacity_0 : decode cX10_capacity 0 = .ok (.aload_n 0, 1) := by decide +kernel
theorem dX10_capacity_1 : decode cX10_capacity 1 = .ok (.iload_n 1, 1) := by decide +kernel
theorem dX10_capacity_2 : decode cX10_capacity 2 = .ok (.invokevirtual 300, 3) := by decide +kernel
theorem dX10_capacity_5 : decode cX10_capacity 5 = .ok (.ifCond .eq 7, 3) := by decide +kernel
theorem dX10_capacity_8 : decode cX10_capacity 8 = .ok (.iconst 0, 1) := by decide +kernel
theorem dX10_capacity_9 : decode cX10_capacity 9 = .ok (.goto 14, 3) := by decide +kernel
theorem dX10_capacity_12 : decode cX10_capacity 12 = .ok (.aload_n 0, 1) := by decide +kernel
theorem dX10_capacity_13 : decode cX10_capacity 13 = .ok (.getfield 7, 3) := by decide +kernel
theorem dX10_capacity_16 : decode cX10_capacity 16 = .ok (.iload_n 1, 1) := by decide +kernel
theorem dX10_capacity_17 : decode cX10_capacity 17 = .ok (.invokestatic 81, 3) := by decide +kernel
theorem dX10_capacity_20 : decode cX10_capacity 20 = .ok (.iconst 0, 1) := by decide +kernel
theorem dX10_capacity_21 : decode cX10_capacity 21 = .ok (.iadd, 1) := by decide +kernel
theorem dX10_capacity_22 : decode cX10_capacity 22 = .ok (.iaload, 1) := by decide +kernel
theorem dX10_capacity_23 : decode cX10_capacity 23 = .ok (.ireturn, 1) := by decide +kernel
theorem dX10_routeLength_0 : decode cX10_routeLength 0 = .ok (.aload_n 0, 1) := by decide +kernel
theorem dX10_routeLength_1 : decode cX10_routeLength 1 = .ok (.iload_n 1, 1) := by decide +kernel
theorem dX10_routeLength_2 : decode cX10_routeLength 2 = .ok (.invokevirtual 300, 3) := by decide +kernel
theorem dX10_routeLength_5 : decode cX10_routeLength 5 = .ok (.ifCond .eq 7, 3) := by decide +kernel
theorem dX10_routeLength_8 : decode cX10_routeLength 8 = .ok (.iconst 0, 1) := by decide +kernel
theorem dX10_routeLength_9 : decode cX10_routeLength 9 = .ok (.goto 14, 3) := by decide +kernel
theorem dX10_routeLength_12 : decode cX10_routeLength 12 = .ok (.aload_n 0, 1) := by decide +kernel
theorem dX10_routeLength_13 : decode cX10_routeLength 13 = .ok (.getfield 7, 3) := by decide +kernel
theorem dX10_routeLength_16 : decode cX10_routeLength 16 = .ok (.iload_n 1, 1) := by decide +kernel
theorem dX10_routeLength_17 : decode cX10_routeLength 17 = .ok (.invokestatic 81, 3) := by decide +kernel
theorem dX10_routeLength_20 : decode cX10_routeLength 20 = .ok (.iconst 1, 1) := by decide +kernel
theorem dX10_routeLength_21 : decode cX10_routeLength 21 = .ok (.iadd, 1) := by decide +kernel
theorem dX10_routeLength_22 : decode cX10_routeLength 22 = .ok (.iaload, 1) := by decide +kernel
theorem dX10_routeLength_23 : decode cX10_routeLength 23 = .ok (.ireturn, 1) := by decide +kernel
theorem dX10_routeStation_0 : decode cX10_routeStation 0 = .ok (.aload_n 0, 1) := by decide +kernel
theorem dX10_routeStation_1 : decode cX10_routeStation 1 = .ok (.iload_n 1, 1) := by decide +kernel
theorem dX10_routeStation_2 : decode cX10_routeStation 2 = .ok (.invokevirtual 300, 3) := by decide +kernel
theorem dX10_routeStation_5 : decode cX10_routeStation 5 = .ok (.ifCond .ne 25, 3) := by decide +kernel
theorem dX10_routeStation_8 : decode cX10_routeStation 8 = .ok (.aload_n 0, 1) := by decide +kernel
theorem dX10_routeStation_9 : decode cX10_routeStation 9 = .ok (.iload_n 2, 1) := by decide +kernel
theorem dX10_routeStation_10 : decode cX10_routeStation 10 = .ok (.iconst 0, 1) := by decide +kernel
theorem dX10_routeStation_11 : decode cX10_routeStation 11 = .ok (.aload_n 0, 1) := by decide +kernel
theorem dX10_routeStation_12 : decode cX10_routeStation 12 = .ok (.getfield 7, 3) := by decide +kernel
theorem dX10_routeStation_15 : decode cX10_routeStation 15 = .ok (.iload_n 1, 1) := by decide +kernel
theorem dX10_routeStation_16 : decode cX10_routeStation 16 = .ok (.invokestatic 81, 3) := by decide +kernel
theorem dX10_routeStation_19 : decode cX10_routeStation 19 = .ok (.iconst 1, 1) := by decide +kernel
theorem dX10_routeStation_20 : decode cX10_routeStation 20 = .ok (.iadd, 1) := by decide +kernel
theorem dX10_routeStation_21 : decode cX10_routeStation 21 = .ok (.iaload, 1) := by decide +kernel
theorem dX10_routeStation_22 : decode cX10_routeStation 22 = .ok (.iconst 1, 1) := by decide +kernel
theorem dX10_routeStation_23 : decode cX10_routeStation 23 = .ok (.isub, 1) := by decide +kernel
theorem dX10_routeStation_24 : decode cX10_routeStation 24 = .ok (.invokevirtual 293, 3) := by decide +kernel
theorem dX10_routeStation_27 : decode cX10_routeStation 27 = .ok (.ifCond .eq 7, 3) := by decide +kernel
theorem dX10_routeStation_30 : decode cX10_routeStation 30 = .ok (.iconst 0, 1) := by decide +kernel
theorem dX10_routeStation_31 : decode cX10_routeStation 31 = .ok (.goto 12, 3) := by decide +kernel
theorem dX10_routeStation_34 : decode cX10_routeStation 34 = .ok (.aload_n 0, 1) := by decide +kernel
theorem dX10_routeStation_35 : decode cX10_routeStation 35 = .ok (.getfield 7, 3) := by decide +kernel
theorem dX10_routeStation_38 : decode cX10_routeStation 38 = .ok (.iload_n 1, 1) := by decide +kernel
theorem dX10_routeStation_39 : decode cX10_routeStation 39 = .ok (.iload_n 2, 1) := by decide +kernel
theorem dX10_routeStation_40 : decode cX10_routeStation 40 = .ok (.invokestatic 84, 3) := by decide +kernel
theorem dX10_routeStation_43 : decode cX10_routeStation 43 = .ok (.ireturn, 1) := by decide +kernel
theorem dX10_carriedCount_0 : decode cX10_carriedCount 0 = .ok (.aload_n 0, 1) := by decide +kernel
theorem dX10_carriedCount_1 : decode cX10_carriedCount 1 = .ok (.iload_n 1, 1) := by decide +kernel
theorem dX10_carriedCount_2 : decode cX10_carriedCount 2 = .ok (.invokevirtual 300, 3) := by decide +kernel
theorem dX10_carriedCount_5 : decode cX10_carriedCount 5 = .ok (.ifCond .eq 7, 3) := by decide +kernel
theorem dX10_carriedCount_8 : decode cX10_carriedCount 8 = .ok (.iconst 0, 1) := by decide +kernel
theorem dX10_carriedCount_9 : decode cX10_carriedCount 9 = .ok (.goto 11, 3) := by decide +kernel
theorem dX10_carriedCount_12 : decode cX10_carriedCount 12 = .ok (.aload_n 0, 1) := by decide +kernel
theorem dX10_carriedCount_13 : decode cX10_carriedCount 13 = .ok (.getfield 7, 3) := by decide +kernel
theorem dX10_carriedCount_16 : decode cX10_carriedCount 16 = .ok (.iload_n 1, 1) := by decide +kernel
theorem dX10_carriedCount_17 : decode cX10_carriedCount 17 = .ok (.invokestatic 116, 3) := by decide +kernel
theorem dX10_carriedCount_20 : decode cX10_carriedCount 20 = .ok (.ireturn, 1) := by decide +kernel
theorem dX10_carriedParcel_0 : decode cX10_carriedParcel 0 = .ok (.aload_n 0, 1) := by decide +kernel
theorem dX10_carriedParcel_1 : decode cX10_carriedParcel 1 = .ok (.iload_n 1, 1) := by decide +kernel
theorem dX10_carriedParcel_2 : decode cX10_carriedParcel 2 = .ok (.invokevirtual 300, 3) := by decide +kernel
theorem dX10_carriedParcel_5 : decode cX10_carriedParcel 5 = .ok (.ifCond .ne 22, 3) := by decide +kernel
theorem dX10_carriedParcel_8 : decode cX10_carriedParcel 8 = .ok (.aload_n 0, 1) := by decide +kernel
theorem dX10_carriedParcel_9 : decode cX10_carriedParcel 9 = .ok (.iload_n 2, 1) := by decide +kernel
theorem dX10_carriedParcel_10 : decode cX10_carriedParcel 10 = .ok (.iconst 0, 1) := by decide +kernel
theorem dX10_carriedParcel_11 : decode cX10_carriedParcel 11 = .ok (.aload_n 0, 1) := by decide +kernel
theorem dX10_carriedParcel_12 : decode cX10_carriedParcel 12 = .ok (.getfield 7, 3) := by decide +kernel
theorem dX10_carriedParcel_15 : decode cX10_carriedParcel 15 = .ok (.iload_n 1, 1) := by decide +kernel
theorem dX10_carriedParcel_16 : decode cX10_carriedParcel 16 = .ok (.invokestatic 116, 3) := by decide +kernel
theorem dX10_carriedParcel_19 : decode cX10_carriedParcel 19 = .ok (.iconst 1, 1) := by decide +kernel
theorem dX10_carriedParcel_20 : decode cX10_carriedParcel 20 = .ok (.isub, 1) := by decide +kernel
theorem dX10_carriedParcel_21 : decode cX10_carriedParcel 21 = .ok (.invokevirtual 293, 3) := by decide +kernel
theorem dX10_carriedParcel_24 : decode cX10_carriedParcel 24 = .ok (.ifCond .eq 5, 3) := by decide +kernel
theorem dX10_carriedParcel_27 : decode cX10_carriedParcel 27 = .ok (.iconst 0, 1) := by decide +kernel
theorem dX10_carriedParcel_28 : decode cX10_carriedParcel 28 = .ok (.ireturn, 1) := by decide +kernel
theorem dX10_carriedParcel_29 : decode cX10_carriedParcel 29 = .ok (.iload_n 2, 1) := by decide +kernel
theorem dX10_carriedParcel_30 : decode cX10_carriedParcel 30 = .ok (.istore_n 3, 1) := by decide +kernel
theorem dX10_carriedParcel_31 : decode cX10_carriedParcel 31 = .ok (.iconst 0, 1) := by decide +kernel
theorem dX10_carriedParcel_32 : decode cX10_carriedParcel 32 = .ok (.istore 4, 2) := by decide +kernel
theorem dX10_carriedParcel_34 : decode cX10_carriedParcel 34 = .ok (.aload_n 0, 1) := by decide +kernel
theorem dX10_carriedParcel_35 : decode cX10_carriedParcel 35 = .ok (.getfield 7, 3) := by decide +kernel
theorem dX10_carriedParcel_38 : decode cX10_carriedParcel 38 = .ok (.iload 4, 2) := by decide +kernel
theorem dX10_carriedParcel_40 : decode cX10_carriedParcel 40 = .ok (.invokestatic 88, 3) := by decide +kernel
theorem dX10_carriedParcel_43 : decode cX10_carriedParcel 43 = .ok (.iconst 4, 1) := by decide +kernel
theorem dX10_carriedParcel_44 : decode cX10_carriedParcel 44 = .ok (.iadd, 1) := by decide +kernel
theorem dX10_carriedParcel_45 : decode cX10_carriedParcel 45 = .ok (.iaload, 1) := by decide +kernel
theorem dX10_carriedParcel_46 : decode cX10_carriedParcel 46 = .ok (.iload_n 1, 1) := by decide +kernel
theorem dX10_carriedParcel_47 : decode cX10_carriedParcel 47 = .ok (.if_icmp .ne 7, 3) := by decide +kernel
theorem dX10_carriedParcel_50 : decode cX10_carriedParcel 50 = .ok (.iload_n 3, 1) := by decide +kernel
theorem dX10_carriedParcel_51 : decode cX10_carriedParcel 51 = .ok (.ifCond .le 33, 3) := by decide +kernel
theorem dX10_carriedParcel_54 : decode cX10_carriedParcel 54 = .ok (.iload_n 3, 1) := by decide +kernel
theorem dX10_carriedParcel_55 : decode cX10_carriedParcel 55 = .ok (.aload_n 0, 1) := by decide +kernel
theorem dX10_carriedParcel_56 : decode cX10_carriedParcel 56 = .ok (.getfield 7, 3) := by decide +kernel
theorem dX10_carriedParcel_59 : decode cX10_carriedParcel 59 = .ok (.iload 4, 2) := by decide +kernel
theorem dX10_carriedParcel_61 : decode cX10_carriedParcel 61 = .ok (.invokestatic 88, 3) := by decide +kernel
theorem dX10_carriedParcel_64 : decode cX10_carriedParcel 64 = .ok (.iconst 4, 1) := by decide +kernel
theorem dX10_carriedParcel_65 : decode cX10_carriedParcel 65 = .ok (.iadd, 1) := by decide +kernel
theorem dX10_carriedParcel_66 : decode cX10_carriedParcel 66 = .ok (.iaload, 1) := by decide +kernel
theorem dX10_carriedParcel_67 : decode cX10_carriedParcel 67 = .ok (.iload_n 1, 1) := by decide +kernel
theorem dX10_carriedParcel_68 : decode cX10_carriedParcel 68 = .ok (.if_icmp .ne 7, 3) := by decide +kernel
theorem dX10_carriedParcel_71 : decode cX10_carriedParcel 71 = .ok (.iconst 1, 1) := by decide +kernel
theorem dX10_carriedParcel_72 : decode cX10_carriedParcel 72 = .ok (.goto 4, 3) := by decide +kernel
theorem dX10_carriedParcel_75 : decode cX10_carriedParcel 75 = .ok (.iconst 0, 1) := by decide +kernel
theorem dX10_carriedParcel_76 : decode cX10_carriedParcel 76 = .ok (.isub, 1) := by decide +kernel
theorem dX10_carriedParcel_77 : decode cX10_carriedParcel 77 = .ok (.istore_n 3, 1) := by decide +kernel
theorem dX10_carriedParcel_78 : decode cX10_carriedParcel 78 = .ok (.iinc 4 1, 3) := by decide +kernel
theorem dX10_carriedParcel_81 : decode cX10_carriedParcel 81 = .ok (.goto (-47), 3) := by decide +kernel
theorem dX10_carriedParcel_84 : decode cX10_carriedParcel 84 = .ok (.iload 4, 2) := by decide +kernel
theorem dX10_carriedParcel_86 : decode cX10_carriedParcel 86 = .ok (.ireturn, 1) := by decide +kernel
theorem dX10_trainStation_0 : decode cX10_trainStation 0 = .ok (.aload_n 0, 1) := by decide +kernel
theorem dX10_trainStation_1 : decode cX10_trainStation 1 = .ok (.iload_n 1, 1) := by decide +kernel
theorem dX10_trainStation_2 : decode cX10_trainStation 2 = .ok (.invokevirtual 300, 3) := by decide +kernel
theorem dX10_trainStation_5 : decode cX10_trainStation 5 = .ok (.ifCond .eq 7, 3) := by decide +kernel
theorem dX10_trainStation_8 : decode cX10_trainStation 8 = .ok (.iconst 0, 1) := by decide +kernel
theorem dX10_trainStation_9 : decode cX10_trainStation 9 = .ok (.goto 26, 3) := by decide +kernel
theorem dX10_trainStation_12 : decode cX10_trainStation 12 = .ok (.aload_n 0, 1) := by decide +kernel
theorem dX10_trainStation_13 : decode cX10_trainStation 13 = .ok (.getfield 7, 3) := by decide +kernel
theorem dX10_trainStation_16 : decode cX10_trainStation 16 = .ok (.iload_n 1, 1) := by decide +kernel
theorem dX10_trainStation_17 : decode cX10_trainStation 17 = .ok (.invokestatic 149, 3) := by decide +kernel
theorem dX10_trainStation_20 : decode cX10_trainStation 20 = .ok (.ifCond .eq 14, 3) := by decide +kernel
theorem dX10_trainStation_23 : decode cX10_trainStation 23 = .ok (.aload_n 0, 1) := by decide +kernel
theorem dX10_trainStation_24 : decode cX10_trainStation 24 = .ok (.getfield 7, 3) := by decide +kernel
theorem dX10_trainStation_27 : decode cX10_trainStation 27 = .ok (.iload_n 1, 1) := by decide +kernel
theorem dX10_trainStation_28 : decode cX10_trainStation 28 = .ok (.invokestatic 95, 3) := by decide +kernel
theorem dX10_trainStation_31 : decode cX10_trainStation 31 = .ok (.goto 4, 3) := by decide +kernel
theorem dX10_trainStation_34 : decode cX10_trainStation 34 = .ok (.iconst (-1), 1) := by decide +kernel
theorem dX10_trainStation_35 : decode cX10_trainStation 35 = .ok (.ireturn, 1) := by decide +kernel
theorem dX10_nextStation_0 : decode cX10_nextStation 0 = .ok (.aload_n 0, 1) := by decide +kernel
theorem dX10_nextStation_1 : decode cX10_nextStation 1 = .ok (.iload_n 1, 1) := by decide +kernel
theorem dX10_nextStation_2 : decode cX10_nextStation 2 = .ok (.invokevirtual 300, 3) := by decide +kernel
theorem dX10_nextStation_5 : decode cX10_nextStation 5 = .ok (.ifCond .eq 7, 3) := by decide +kernel
theorem dX10_nextStation_8 : decode cX10_nextStation 8 = .ok (.iconst 0, 1) := by decide +kernel
theorem dX10_nextStation_9 : decode cX10_nextStation 9 = .ok (.goto 11, 3) := by decide +kernel
theorem dX10_nextStation_12 : decode cX10_nextStation 12 = .ok (.aload_n 0, 1) := by decide +kernel
theorem dX10_nextStation_13 : decode cX10_nextStation 13 = .ok (.getfield 7, 3) := by decide +kernel
theorem dX10_nextStation_16 : decode cX10_nextStation 16 = .ok (.iload_n 1, 1) := by decide +kernel
theorem dX10_nextStation_17 : decode cX10_nextStation 17 = .ok (.invokestatic 125, 3) := by decide +kernel
theorem dX10_nextStation_20 : decode cX10_nextStation 20 = .ok (.ireturn, 1) := by decide +kernel
theorem dX10_isForward_0 : decode cX10_isForward 0 = .ok (.aload_n 0, 1) := by decide +kernel
theorem dX10_isForward_1 : decode cX10_isForward 1 = .ok (.iload_n 1, 1) := by decide +kernel
theorem dX10_isForward_2 : decode cX10_isForward 2 = .ok (.invokevirtual 300, 3) := by decide +kernel
theorem dX10_isForward_5 : decode cX10_isForward 5 = .ok (.ifCond .ne 23, 3) := by decide +kernel
theorem dX10_isForward_8 : decode cX10_isForward 8 = .ok (.aload_n 0, 1) := by decide +kernel
theorem dX10_isForward_9 : decode cX10_isForward 9 = .ok (.getfield 7, 3) := by decide +kernel
theorem dX10_isForward_12 : decode cX10_isForward 12 = .ok (.iload_n 1, 1) := by decide +kernel
theorem dX10_isForward_13 : decode cX10_isForward 13 = .ok (.invokestatic 81, 3) := by decide +kernel
theorem dX10_isForward_16 : decode cX10_isForward 16 = .ok (.bipush 9, 2) := by decide +kernel
theorem dX10_isForward_18 : decode cX10_isForward 18 = .ok (.iadd, 1) := by decide +kernel
theorem dX10_isForward_19 : decode cX10_isForward 19 = .ok (.iaload, 1) := by decide +kernel
theorem dX10_isForward_20 : decode cX10_isForward 20 = .ok (.iconst 1, 1) := by decide +kernel
theorem dX10_isForward_21 : decode cX10_isForward 21 = .ok (.if_icmp .ne 7, 3) := by decide +kernel
theorem dX10_isForward_24 : decode cX10_isForward 24 = .ok (.iconst 1, 1) := by decide +kernel
theorem dX10_isForward_25 : decode cX10_isForward 25 = .ok (.goto 4, 3) := by decide +kernel
theorem dX10_isForward_28 : decode cX10_isForward 28 = .ok (.iconst 0, 1) := by decide +kernel
theorem dX10_isForward_29 : decode cX10_isForward 29 = .ok (.ireturn, 1) := by decide +kernel
theorem dX10_minutesToNext_0 : decode cX10_minutesToNext 0 = .ok (.aload_n 0, 1) := by decide +kernel
theorem dX10_minutesToNext_1 : decode cX10_minutesToNext 1 = .ok (.iload_n 1, 1) := by decide +kernel
theorem dX10_minutesToNext_2 : decode cX10_minutesToNext 2 = .ok (.invokevirtual 300, 3) := by decide +kernel
theorem dX10_minutesToNext_5 : decode cX10_minutesToNext 5 = .ok (.ifCond .eq 5, 3) := by decide +kernel
theorem dX10_minutesToNext_8 : decode cX10_minutesToNext 8 = .ok (.iconst 0, 1) := by decide +kernel
theorem dX10_minutesToNext_9 : decode cX10_minutesToNext 9 = .ok (.ireturn, 1) := by decide +kernel
theorem dX10_minutesToNext_10 : decode cX10_minutesToNext 10 = .ok (.aload_n 0, 1) := by decide +kernel
theorem dX10_minutesToNext_11 : decode cX10_minutesToNext 11 = .ok (.getfield 7, 3) := by decide +kernel
theorem dX10_minutesToNext_14 : decode cX10_minutesToNext 14 = .ok (.iload_n 1, 1) := by decide +kernel
theorem dX10_minutesToNext_15 : decode cX10_minutesToNext 15 = .ok (.invokestatic 149, 3) := by decide +kernel
theorem dX10_minutesToNext_18 : decode cX10_minutesToNext 18 = .ok (.ifCond .eq 5, 3) := by decide +kernel
theorem dX10_minutesToNext_21 : decode cX10_minutesToNext 21 = .ok (.iconst (-1), 1) := by decide +kernel
theorem dX10_minutesToNext_22 : decode cX10_minutesToNext 22 = .ok (.ireturn, 1) := by decide +kernel
theorem dX10_minutesToNext_23 : decode cX10_minutesToNext 23 = .ok (.aload_n 0, 1) := by decide +kernel
theorem dX10_minutesToNext_24 : decode cX10_minutesToNext 24 = .ok (.getfield 7, 3) := by decide +kernel
theorem dX10_minutesToNext_27 : decode cX10_minutesToNext 27 = .ok (.aload_n 0, 1) := by decide +kernel
theorem dX10_minutesToNext_28 : decode cX10_minutesToNext 28 = .ok (.getfield 7, 3) := by decide +kernel
theorem dX10_minutesToNext_31 : decode cX10_minutesToNext 31 = .ok (.iload_n 1, 1) := by decide +kernel
theorem dX10_minutesToNext_32 : decode cX10_minutesToNext 32 = .ok (.invokestatic 95, 3) := by decide +kernel
theorem dX10_minutesToNext_35 : decode cX10_minutesToNext 35 = .ok (.aload_n 0, 1) := by decide +kernel
theorem dX10_minutesToNext_36 : decode cX10_minutesToNext 36 = .ok (.getfield 7, 3) := by decide +kernel
theorem dX10_minutesToNext_39 : decode cX10_minutesToNext 39 = .ok (.iload_n 1, 1) := by decide +kernel
theorem dX10_minutesToNext_40 : decode cX10_minutesToNext 40 = .ok (.invokestatic 125, 3) := by decide +kernel
theorem dX10_minutesToNext_43 : decode cX10_minutesToNext 43 = .ok (.invokestatic 128, 3) := by decide +kernel
theorem dX10_minutesToNext_46 : decode cX10_minutesToNext 46 = .ok (.istore_n 2, 1) := by decide +kernel
theorem dX10_minutesToNext_47 : decode cX10_minutesToNext 47 = .ok (.aload_n 0, 1) := by decide +kernel
theorem dX10_minutesToNext_48 : decode cX10_minutesToNext 48 = .ok (.getfield 7, 3) := by decide +kernel
theorem dX10_minutesToNext_51 : decode cX10_minutesToNext 51 = .ok (.iload_n 2, 1) := by decide +kernel
theorem dX10_minutesToNext_52 : decode cX10_minutesToNext 52 = .ok (.invokestatic 72, 3) := by decide +kernel
theorem dX10_minutesToNext_55 : decode cX10_minutesToNext 55 = .ok (.iconst 2, 1) := by decide +kernel
theorem dX10_minutesToNext_56 : decode cX10_minutesToNext 56 = .ok (.iadd, 1) := by decide +kernel
theorem dX10_minutesToNext_57 : decode cX10_minutesToNext 57 = .ok (.iaload, 1) := by decide +kernel
theorem dX10_minutesToNext_58 : decode cX10_minutesToNext 58 = .ok (.aload_n 0, 1) := by decide +kernel
theorem dX10_minutesToNext_59 : decode cX10_minutesToNext 59 = .ok (.getfield 7, 3) := by decide +kernel
theorem dX10_minutesToNext_62 : decode cX10_minutesToNext 62 = .ok (.iload_n 1, 1) := by decide +kernel
theorem dX10_minutesToNext_63 : decode cX10_minutesToNext 63 = .ok (.invokestatic 81, 3) := by decide +kernel
theorem dX10_minutesToNext_66 : decode cX10_minutesToNext 66 = .ok (.bipush 10, 2) := by decide +kernel
theorem dX10_minutesToNext_68 : decode cX10_minutesToNext 68 = .ok (.iadd, 1) := by decide +kernel
theorem dX10_minutesToNext_69 : decode cX10_minutesToNext 69 = .ok (.iaload, 1) := by decide +kernel
theorem dX10_minutesToNext_70 : decode cX10_minutesToNext 70 = .ok (.isub, 1) := by decide +kernel
theorem dX10_minutesToNext_71 : decode cX10_minutesToNext 71 = .ok (.ireturn, 1) := by decide +kernel
theorem dX10_delay_0 : decode cX10_delay 0 = .ok (.aload_n 0, 1) := by decide +kernel
theorem dX10_delay_1 : decode cX10_delay 1 = .ok (.iload_n 1, 1) := by decide +kernel
theorem dX10_delay_2 : decode cX10_delay 2 = .ok (.invokevirtual 300, 3) := by decide +kernel
theorem dX10_delay_5 : decode cX10_delay 5 = .ok (.ifCond .eq 7, 3) := by decide +kernel
theorem dX10_delay_8 : decode cX10_delay 8 = .ok (.iconst 0, 1) := by decide +kernel
theorem dX10_delay_9 : decode cX10_delay 9 = .ok (.goto 15, 3) := by decide +kernel
theorem dX10_delay_12 : decode cX10_delay 12 = .ok (.aload_n 0, 1) := by decide +kernel
theorem dX10_delay_13 : decode cX10_delay 13 = .ok (.getfield 7, 3) := by decide +kernel
theorem dX10_delay_16 : decode cX10_delay 16 = .ok (.iload_n 1, 1) := by decide +kernel
theorem dX10_delay_17 : decode cX10_delay 17 = .ok (.invokestatic 81, 3) := by decide +kernel
theorem dX10_delay_20 : decode cX10_delay 20 = .ok (.bipush 11, 2) := by decide +kernel
theorem dX10_delay_22 : decode cX10_delay 22 = .ok (.iadd, 1) := by decide +kernel
theorem dX10_delay_23 : decode cX10_delay 23 = .ok (.iaload, 1) := by decide +kernel
theorem dX10_delay_24 : decode cX10_delay 24 = .ok (.ireturn, 1) := by decide +kernel
theorem dX10_stopsMade_0 : decode cX10_stopsMade 0 = .ok (.aload_n 0, 1) := by decide +kernel
theorem dX10_stopsMade_1 : decode cX10_stopsMade 1 = .ok (.iload_n 1, 1) := by decide +kernel
theorem dX10_stopsMade_2 : decode cX10_stopsMade 2 = .ok (.invokevirtual 300, 3) := by decide +kernel
theorem dX10_stopsMade_5 : decode cX10_stopsMade 5 = .ok (.ifCond .eq 7, 3) := by decide +kernel
theorem dX10_stopsMade_8 : decode cX10_stopsMade 8 = .ok (.iconst 0, 1) := by decide +kernel
theorem dX10_stopsMade_9 : decode cX10_stopsMade 9 = .ok (.goto 15, 3) := by decide +kernel
theorem dX10_stopsMade_12 : decode cX10_stopsMade 12 = .ok (.aload_n 0, 1) := by decide +kernel
theorem dX10_stopsMade_13 : decode cX10_stopsMade 13 = .ok (.getfield 7, 3) := by decide +kernel
theorem dX10_stopsMade_16 : decode cX10_stopsMade 16 = .ok (.iload_n 1, 1) := by decide +kernel
theorem dX10_stopsMade_17 : decode cX10_stopsMade 17 = .ok (.invokestatic 81, 3) := by decide +kernel
theorem dX10_stopsMade_20 : decode cX10_stopsMade 20 = .ok (.bipush 12, 2) := by decide +kernel
theorem dX10_stopsMade_22 : decode cX10_stopsMade 22 = .ok (.iadd, 1) := by decide +kernel
theorem dX10_stopsMade_23 : decode cX10_stopsMade 23 = .ok (.iaload, 1) := by decide +kernel
theorem dX10_stopsMade_24 : decode cX10_stopsMade 24 = .ok (.ireturn, 1) := by decide +kernel
theorem dX10_stopsPassed_0 : decode cX10_stopsPassed 0 = .ok (.aload_n 0, 1) := by decide +kernel
theorem dX10_stopsPassed_1 : decode cX10_stopsPassed 1 = .ok (.iload_n 1, 1) := by decide +kernel
theorem dX10_stopsPassed_2 : decode cX10_stopsPassed 2 = .ok (.invokevirtual 300, 3) := by decide +kernel
theorem dX10_stopsPassed_5 : decode cX10_stopsPassed 5 = .ok (.ifCond .eq 7, 3) := by decide +kernel
theorem dX10_stopsPassed_8 : decode cX10_stopsPassed 8 = .ok (.iconst 0, 1) := by decide +kernel
theorem dX10_stopsPassed_9 : decode cX10_stopsPassed 9 = .ok (.goto 15, 3) := by decide +kernel
theorem dX10_stopsPassed_12 : decode cX10_stopsPassed 12 = .ok (.aload_n 0, 1) := by decide +kernel
theorem dX10_stopsPassed_13 : decode cX10_stopsPassed 13 = .ok (.getfield 7, 3) := by decide +kernel
theorem dX10_stopsPassed_16 : decode cX10_stopsPassed 16 = .ok (.iload_n 1, 1) := by decide +kernel
theorem dX10_stopsPassed_17 : decode cX10_stopsPassed 17 = .ok (.invokestatic 81, 3) := by decide +kernel
theorem dX10_stopsPassed_20 : decode cX10_stopsPassed 20 = .ok (.bipush 13, 2) := by decide +kernel
theorem dX10_stopsPassed_22 : decode cX10_stopsPassed 22 = .ok (.iadd, 1) := by decide +kernel
theorem dX10_stopsPassed_23 : decode cX10_stopsPassed 23 = .ok (.iaload, 1) := by decide +kernel
theorem dX10_stopsPassed_24 : decode cX10_stopsPassed 24 = .ok (.ireturn, 1) := by decide +kernel
theorem dX10_ofIt_0 : decode cX10_ofIt 0 = .ok (.aload_n 0, 1) := by decide +kernel
theorem dX10_ofIt_1 : decode cX10_ofIt 1 = .ok (.iload_n 1, 1) := by decide +kernel
theorem dX10_ofIt_2 : decode cX10_ofIt 2 = .ok (.invokevirtual 303, 3) := by decide +kernel
theorem dX10_ofIt_5 : decode cX10_ofIt 5 = .ok (.ifCond .eq 7, 3) := by decide +kernel
theorem dX10_ofIt_8 : decode cX10_ofIt 8 = .ok (.iconst 0, 1) := by decide +kernel
theorem dX10_ofIt_9 : decode cX10_ofIt 9 = .ok (.goto 14, 3) := by decide +kernel
theorem dX10_ofIt_12 : decode cX10_ofIt 12 = .ok (.aload_n 0, 1) := by decide +kernel
theorem dX10_ofIt_13 : decode cX10_ofIt 13 = .ok (.getfield 7, 3) := by decide +kernel
theorem dX10_ofIt_16 : decode cX10_ofIt 16 = .ok (.iload_n 1, 1) := by decide +kernel
theorem dX10_ofIt_17 : decode cX10_ofIt 17 = .ok (.invokestatic 88, 3) := by decide +kernel
theorem dX10_ofIt_20 : decode cX10_ofIt 20 = .ok (.iload_n 2, 1) := by decide +kernel
theorem dX10_ofIt_21 : decode cX10_ofIt 21 = .ok (.iadd, 1) := by decide +kernel
theorem dX10_ofIt_22 : decode cX10_ofIt 22 = .ok (.iaload, 1) := by decide +kernel
theorem dX10_ofIt_23 : decode cX10_ofIt 23 = .ok (.ireturn, 1) := by decide +kernel
theorem dX10_origin_0 : decode cX10_origin 0 = .ok (.aload_n 0, 1) := by decide +kernel
theorem dX10_origin_1 : decode cX10_origin 1 = .ok (.iload_n 1, 1) := by decide +kernel
theorem dX10_origin_2 : decode cX10_origin 2 = .ok (.iconst 0, 1) := by decide +kernel
theorem dX10_origin_3 : decode cX10_origin 3 = .ok (.invokevirtual 306, 3) := by decide +kernel
theorem dX10_origin_6 : decode cX10_origin 6 = .ok (.ireturn, 1) := by decide +kernel
theorem dX10_destination_0 : decode cX10_destination 0 = .ok (.aload_n 0, 1) := by decide +kernel
theorem dX10_destination_1 : decode cX10_destination 1 = .ok (.iload_n 1, 1) := by decide +kernel
theorem dX10_destination_2 : decode cX10_destination 2 = .ok (.iconst 1, 1) := by decide +kernel
theorem dX10_destination_3 : decode cX10_destination 3 = .ok (.invokevirtual 306, 3) := by decide +kernel
theorem dX10_destination_6 : decode cX10_destination 6 = .ok (.ireturn, 1) := by decide +kernel
theorem dX10_priority_0 : decode cX10_priority 0 = .ok (.aload_n 0, 1) := by decide +kernel
theorem dX10_priority_1 : decode cX10_priority 1 = .ok (.iload_n 1, 1) := by decide +kernel
theorem dX10_priority_2 : decode cX10_priority 2 = .ok (.iconst 2, 1) := by decide +kernel
theorem dX10_priority_3 : decode cX10_priority 3 = .ok (.invokevirtual 306, 3) := by decide +kernel
theorem dX10_priority_6 : decode cX10_priority 6 = .ok (.ireturn, 1) := by decide +kernel
theorem dX10_parcelStation_0 : decode cX10_parcelStation 0 = .ok (.aload_n 0, 1) := by decide +kernel
theorem dX10_parcelStation_1 : decode cX10_parcelStation 1 = .ok (.iload_n 1, 1) := by decide +kernel
theorem dX10_parcelStation_2 : decode cX10_parcelStation 2 = .ok (.iconst 3, 1) := by decide +kernel
theorem dX10_parcelStation_3 : decode cX10_parcelStation 3 = .ok (.invokevirtual 306, 3) := by decide +kernel
theorem dX10_parcelStation_6 : decode cX10_parcelStation 6 = .ok (.ireturn, 1) := by decide +kernel
theorem dX10_parcelTrain_0 : decode cX10_parcelTrain 0 = .ok (.aload_n 0, 1) := by decide +kernel
theorem dX10_parcelTrain_1 : decode cX10_parcelTrain 1 = .ok (.iload_n 1, 1) := by decide +kernel
theorem dX10_parcelTrain_2 : decode cX10_parcelTrain 2 = .ok (.iconst 4, 1) := by decide +kernel
theorem dX10_parcelTrain_3 : decode cX10_parcelTrain 3 = .ok (.invokevirtual 306, 3) := by decide +kernel
theorem dX10_parcelTrain_6 : decode cX10_parcelTrain 6 = .ok (.ireturn, 1) := by decide +kernel
theorem dX10_dropStation_0 : decode cX10_dropStation 0 = .ok (.aload_n 0, 1) := by decide +kernel
theorem dX10_dropStation_1 : decode cX10_dropStation 1 = .ok (.iload_n 1, 1) := by decide +kernel
theorem dX10_dropStation_2 : decode cX10_dropStation 2 = .ok (.iconst 5, 1) := by decide +kernel
theorem dX10_dropStation_3 : decode cX10_dropStation 3 = .ok (.invokevirtual 306, 3) := by decide +kernel
theorem dX10_dropStation_6 : decode cX10_dropStation 6 = .ok (.ireturn, 1) := by decide +kernel
theorem dX10_transfers_0 : decode cX10_transfers 0 = .ok (.aload_n 0, 1) := by decide +kernel
theorem dX10_transfers_1 : decode cX10_transfers 1 = .ok (.iload_n 1, 1) := by decide +kernel
theorem dX10_transfers_2 : decode cX10_transfers 2 = .ok (.bipush 6, 2) := by decide +kernel
theorem dX10_transfers_4 : decode cX10_transfers 4 = .ok (.invokevirtual 306, 3) := by decide +kernel
theorem dX10_transfers_7 : decode cX10_transfers 7 = .ok (.ireturn, 1) := by decide +kernel
theorem dX10_isHeld_0 : decode cX10_isHeld 0 = .ok (.aload_n 0, 1) := by decide +kernel
theorem dX10_isHeld_1 : decode cX10_isHeld 1 = .ok (.iload_n 1, 1) := by decide +kernel
theorem dX10_isHeld_2 : decode cX10_isHeld 2 = .ok (.invokevirtual 303, 3) := by decide +kernel
theorem dX10_isHeld_5 : decode cX10_isHeld 5 = .ok (.ifCond .ne 33, 3) := by decide +kernel
theorem dX10_isHeld_8 : decode cX10_isHeld 8 = .ok (.aload_n 0, 1) := by decide +kernel
theorem dX10_isHeld_9 : decode cX10_isHeld 9 = .ok (.getfield 7, 3) := by decide +kernel
theorem dX10_isHeld_12 : decode cX10_isHeld 12 = .ok (.iload_n 1, 1) := by decide +kernel
theorem dX10_isHeld_13 : decode cX10_isHeld 13 = .ok (.invokestatic 88, 3) := by decide +kernel
theorem dX10_isHeld_16 : decode cX10_isHeld 16 = .ok (.iconst 3, 1) := by decide +kernel
theorem dX10_isHeld_17 : decode cX10_isHeld 17 = .ok (.iadd, 1) := by decide +kernel
theorem dX10_isHeld_18 : decode cX10_isHeld 18 = .ok (.iaload, 1) := by decide +kernel
theorem dX10_isHeld_19 : decode cX10_isHeld 19 = .ok (.iconst (-1), 1) := by decide +kernel
theorem dX10_isHeld_20 : decode cX10_isHeld 20 = .ok (.if_icmp .eq 18, 3) := by decide +kernel
theorem dX10_isHeld_23 : decode cX10_isHeld 23 = .ok (.aload_n 0, 1) := by decide +kernel
theorem dX10_isHeld_24 : decode cX10_isHeld 24 = .ok (.getfield 7, 3) := by decide +kernel
theorem dX10_isHeld_27 : decode cX10_isHeld 27 = .ok (.iload_n 1, 1) := by decide +kernel
theorem dX10_isHeld_28 : decode cX10_isHeld 28 = .ok (.invokestatic 109, 3) := by decide +kernel
theorem dX10_isHeld_31 : decode cX10_isHeld 31 = .ok (.ifCond .eq 7, 3) := by decide +kernel
theorem dX10_isHeld_34 : decode cX10_isHeld 34 = .ok (.iconst 1, 1) := by decide +kernel
theorem dX10_isHeld_35 : decode cX10_isHeld 35 = .ok (.goto 4, 3) := by decide +kernel
theorem dX10_isHeld_38 : decode cX10_isHeld 38 = .ok (.iconst 0, 1) := by decide +kernel
theorem dX10_isHeld_39 : decode cX10_isHeld 39 = .ok (.ireturn, 1) := by decide +kernel
theorem dX10_deliveryClock_0 : decode cX10_deliveryClock 0 = .ok (.aload_n 0, 1) := by decide +kernel
theorem dX10_deliveryClock_1 : decode cX10_deliveryClock 1 = .ok (.iload_n 1, 1) := by decide +kernel
theorem dX10_deliveryClock_2 : decode cX10_deliveryClock 2 = .ok (.bipush 8, 2) := by decide +kernel
theorem dX10_deliveryClock_4 : decode cX10_deliveryClock 4 = .ok (.invokevirtual 306, 3) := by decide +kernel
theorem dX10_deliveryClock_7 : decode cX10_deliveryClock 7 = .ok (.ireturn, 1) := by decide +kernel
theorem dX10_loadingObstacle_0 : decode cX10_loadingObstacle 0 = .ok (.aload_n 0, 1) := by decide +kernel
theorem dX10_loadingObstacle_1 : decode cX10_loadingObstacle 1 = .ok (.iload_n 1, 1) := by decide +kernel
theorem dX10_loadingObstacle_2 : decode cX10_loadingObstacle 2 = .ok (.invokevirtual 300, 3) := by decide +kernel
theorem dX10_loadingObstacle_5 : decode cX10_loadingObstacle 5 = .ok (.ifCond .ne 11, 3) := by decide +kernel
theorem dX10_loadingObstacle_8 : decode cX10_loadingObstacle 8 = .ok (.aload_n 0, 1) := by decide +kernel
theorem dX10_loadingObstacle_9 : decode cX10_loadingObstacle 9 = .ok (.iload_n 2, 1) := by decide +kernel
theorem dX10_loadingObstacle_10 : decode cX10_loadingObstacle 10 = .ok (.invokevirtual 303, 3) := by decide +kernel
theorem dX10_loadingObstacle_13 : decode cX10_loadingObstacle 13 = .ok (.ifCond .eq 5, 3) := by decide +kernel
theorem dX10_loadingObstacle_16 : decode cX10_loadingObstacle 16 = .ok (.iconst 0, 1) := by decide +kernel
theorem dX10_loadingObstacle_17 : decode cX10_loadingObstacle 17 = .ok (.ireturn, 1) := by decide +kernel
theorem dX10_loadingObstacle_18 : decode cX10_loadingObstacle 18 = .ok (.aload_n 0, 1) := by decide +kernel
theorem dX10_loadingObstacle_19 : decode cX10_loadingObstacle 19 = .ok (.getfield 7, 3) := by decide +kernel
theorem dX10_loadingObstacle_22 : decode cX10_loadingObstacle 22 = .ok (.iload_n 1, 1) := by decide +kernel
theorem dX10_loadingObstacle_23 : decode cX10_loadingObstacle 23 = .ok (.invokestatic 95, 3) := by decide +kernel
theorem dX10_loadingObstacle_26 : decode cX10_loadingObstacle 26 = .ok (.istore_n 3, 1) := by decide +kernel
theorem dX10_loadingObstacle_27 : decode cX10_loadingObstacle 27 = .ok (.aload_n 0, 1) := by decide +kernel
theorem dX10_loadingObstacle_28 : decode cX10_loadingObstacle 28 = .ok (.getfield 7, 3) := by decide +kernel
theorem dX10_loadingObstacle_31 : decode cX10_loadingObstacle 31 = .ok (.iload_n 1, 1) := by decide +kernel
theorem dX10_loadingObstacle_32 : decode cX10_loadingObstacle 32 = .ok (.invokestatic 149, 3) := by decide +kernel
theorem dX10_loadingObstacle_35 : decode cX10_loadingObstacle 35 = .ok (.ifCond .eq 15, 3) := by decide +kernel
theorem dX10_loadingObstacle_38 : decode cX10_loadingObstacle 38 = .ok (.aload_n 0, 1) := by decide +kernel
theorem dX10_loadingObstacle_39 : decode cX10_loadingObstacle 39 = .ok (.getfield 7, 3) := by decide +kernel
theorem dX10_loadingObstacle_42 : decode cX10_loadingObstacle 42 = .ok (.iload_n 2, 1) := by decide +kernel
theorem dX10_loadingObstacle_43 : decode cX10_loadingObstacle 43 = .ok (.iload_n 3, 1) := by decide +kernel
theorem dX10_loadingObstacle_44 : decode cX10_loadingObstacle 44 = .ok (.invokestatic 102, 3) := by decide +kernel
theorem dX10_loadingObstacle_47 : decode cX10_loadingObstacle 47 = .ok (.ifCond .ne 5, 3) := by decide +kernel
theorem dX10_loadingObstacle_50 : decode cX10_loadingObstacle 50 = .ok (.iconst 1, 1) := by decide +kernel
theorem dX10_loadingObstacle_51 : decode cX10_loadingObstacle 51 = .ok (.ireturn, 1) := by decide +kernel
theorem dX10_loadingObstacle_52 : decode cX10_loadingObstacle 52 = .ok (.aload_n 0, 1) := by decide +kernel
theorem dX10_loadingObstacle_53 : decode cX10_loadingObstacle 53 = .ok (.getfield 7, 3) := by decide +kernel
theorem dX10_loadingObstacle_56 : decode cX10_loadingObstacle 56 = .ok (.iload_n 2, 1) := by decide +kernel
theorem dX10_loadingObstacle_57 : decode cX10_loadingObstacle 57 = .ok (.invokestatic 109, 3) := by decide +kernel
theorem dX10_loadingObstacle_60 : decode cX10_loadingObstacle 60 = .ok (.ifCond .eq 5, 3) := by decide +kernel
theorem dX10_loadingObstacle_63 : decode cX10_loadingObstacle 63 = .ok (.iconst 2, 1) := by decide +kernel
theorem dX10_loadingObstacle_64 : decode cX10_loadingObstacle 64 = .ok (.ireturn, 1) := by decide +kernel
theorem dX10_loadingObstacle_65 : decode cX10_loadingObstacle 65 = .ok (.aload_n 0, 1) := by decide +kernel
theorem dX10_loadingObstacle_66 : decode cX10_loadingObstacle 66 = .ok (.aload_n 0, 1) := by decide +kernel
theorem dX10_loadingObstacle_67 : decode cX10_loadingObstacle 67 = .ok (.getfield 7, 3) := by decide +kernel
theorem dX10_loadingObstacle_70 : decode cX10_loadingObstacle 70 = .ok (.iload_n 1, 1) := by decide +kernel
theorem dX10_loadingObstacle_71 : decode cX10_loadingObstacle 71 = .ok (.iload_n 2, 1) := by decide +kernel
theorem dX10_loadingObstacle_72 : decode cX10_loadingObstacle 72 = .ok (.invokevirtual 113, 3) := by decide +kernel
theorem dX10_loadingObstacle_75 : decode cX10_loadingObstacle 75 = .ok (.iconst (-1), 1) := by decide +kernel
theorem dX10_loadingObstacle_76 : decode cX10_loadingObstacle 76 = .ok (.if_icmp .ne 5, 3) := by decide +kernel
theorem dX10_loadingObstacle_79 : decode cX10_loadingObstacle 79 = .ok (.iconst 3, 1) := by decide +kernel
theorem dX10_loadingObstacle_80 : decode cX10_loadingObstacle 80 = .ok (.ireturn, 1) := by decide +kernel
theorem dX10_loadingObstacle_81 : decode cX10_loadingObstacle 81 = .ok (.aload_n 0, 1) := by decide +kernel
theorem dX10_loadingObstacle_82 : decode cX10_loadingObstacle 82 = .ok (.getfield 7, 3) := by decide +kernel
theorem dX10_loadingObstacle_85 : decode cX10_loadingObstacle 85 = .ok (.iload_n 1, 1) := by decide +kernel
theorem dX10_loadingObstacle_86 : decode cX10_loadingObstacle 86 = .ok (.invokestatic 116, 3) := by decide +kernel
theorem dX10_loadingObstacle_89 : decode cX10_loadingObstacle 89 = .ok (.istore 4, 2) := by decide +kernel
theorem dX10_loadingObstacle_91 : decode cX10_loadingObstacle 91 = .ok (.iconst 0, 1) := by decide +kernel
theorem dX10_loadingObstacle_92 : decode cX10_loadingObstacle 92 = .ok (.istore 5, 2) := by decide +kernel
theorem dX10_loadingObstacle_94 : decode cX10_loadingObstacle 94 = .ok (.iload 5, 2) := by decide +kernel
theorem dX10_loadingObstacle_96 : decode cX10_loadingObstacle 96 = .ok (.aload_n 0, 1) := by decide +kernel
theorem dX10_loadingObstacle_97 : decode cX10_loadingObstacle 97 = .ok (.getfield 7, 3) := by decide +kernel
theorem dX10_loadingObstacle_100 : decode cX10_loadingObstacle 100 = .ok (.iconst 4, 1) := by decide +kernel
theorem dX10_loadingObstacle_101 : decode cX10_loadingObstacle 101 = .ok (.iaload, 1) := by decide +kernel
theorem dX10_loadingObstacle_102 : decode cX10_loadingObstacle 102 = .ok (.if_icmp .ge 59, 3) := by decide +kernel
theorem dX10_loadingObstacle_105 : decode cX10_loadingObstacle 105 = .ok (.iload 4, 2) := by decide +kernel
theorem dX10_loadingObstacle_107 : decode cX10_loadingObstacle 107 = .ok (.aload_n 0, 1) := by decide +kernel
theorem dX10_loadingObstacle_108 : decode cX10_loadingObstacle 108 = .ok (.getfield 7, 3) := by decide +kernel
theorem dX10_loadingObstacle_111 : decode cX10_loadingObstacle 111 = .ok (.iload 5, 2) := by decide +kernel
theorem dX10_loadingObstacle_113 : decode cX10_loadingObstacle 113 = .ok (.iload_n 3, 1) := by decide +kernel
theorem dX10_loadingObstacle_114 : decode cX10_loadingObstacle 114 = .ok (.invokestatic 102, 3) := by decide +kernel
theorem dX10_loadingObstacle_117 : decode cX10_loadingObstacle 117 = .ok (.ifCond .eq 34, 3) := by decide +kernel
theorem dX10_loadingObstacle_120 : decode cX10_loadingObstacle 120 = .ok (.aload_n 0, 1) := by decide +kernel
theorem dX10_loadingObstacle_121 : decode cX10_loadingObstacle 121 = .ok (.getfield 7, 3) := by decide +kernel
theorem dX10_loadingObstacle_124 : decode cX10_loadingObstacle 124 = .ok (.iload 5, 2) := by decide +kernel
theorem dX10_loadingObstacle_126 : decode cX10_loadingObstacle 126 = .ok (.iload_n 2, 1) := by decide +kernel
theorem dX10_loadingObstacle_127 : decode cX10_loadingObstacle 127 = .ok (.invokestatic 106, 3) := by decide +kernel
theorem dX10_loadingObstacle_130 : decode cX10_loadingObstacle 130 = .ok (.ifCond .eq 21, 3) := by decide +kernel
theorem dX10_loadingObstacle_133 : decode cX10_loadingObstacle 133 = .ok (.aload_n 0, 1) := by decide +kernel
theorem dX10_loadingObstacle_134 : decode cX10_loadingObstacle 134 = .ok (.aload_n 0, 1) := by decide +kernel
theorem dX10_loadingObstacle_135 : decode cX10_loadingObstacle 135 = .ok (.getfield 7, 3) := by decide +kernel
theorem dX10_loadingObstacle_138 : decode cX10_loadingObstacle 138 = .ok (.iload_n 1, 1) := by decide +kernel
theorem dX10_loadingObstacle_139 : decode cX10_loadingObstacle 139 = .ok (.iload 5, 2) := by decide +kernel
theorem dX10_loadingObstacle_141 : decode cX10_loadingObstacle 141 = .ok (.invokevirtual 119, 3) := by decide +kernel
theorem dX10_loadingObstacle_144 : decode cX10_loadingObstacle 144 = .ok (.ifCond .eq 7, 3) := by decide +kernel
theorem dX10_loadingObstacle_147 : decode cX10_loadingObstacle 147 = .ok (.iconst 1, 1) := by decide +kernel
theorem dX10_loadingObstacle_148 : decode cX10_loadingObstacle 148 = .ok (.goto 4, 3) := by decide +kernel
theorem dX10_loadingObstacle_151 : decode cX10_loadingObstacle 151 = .ok (.iconst 0, 1) := by decide +kernel
theorem dX10_loadingObstacle_152 : decode cX10_loadingObstacle 152 = .ok (.iadd, 1) := by decide +kernel
theorem dX10_loadingObstacle_153 : decode cX10_loadingObstacle 153 = .ok (.istore 4, 2) := by decide +kernel
theorem dX10_loadingObstacle_155 : decode cX10_loadingObstacle 155 = .ok (.iinc 5 1, 3) := by decide +kernel
theorem dX10_loadingObstacle_158 : decode cX10_loadingObstacle 158 = .ok (.goto (-64), 3) := by decide +kernel
theorem dX10_loadingObstacle_161 : decode cX10_loadingObstacle 161 = .ok (.iload 4, 2) := by decide +kernel
theorem dX10_loadingObstacle_163 : decode cX10_loadingObstacle 163 = .ok (.aload_n 0, 1) := by decide +kernel
theorem dX10_loadingObstacle_164 : decode cX10_loadingObstacle 164 = .ok (.getfield 7, 3) := by decide +kernel
theorem dX10_loadingObstacle_167 : decode cX10_loadingObstacle 167 = .ok (.iload_n 1, 1) := by decide +kernel
theorem dX10_loadingObstacle_168 : decode cX10_loadingObstacle 168 = .ok (.invokestatic 81, 3) := by decide +kernel
theorem dX10_loadingObstacle_171 : decode cX10_loadingObstacle 171 = .ok (.iconst 0, 1) := by decide +kernel
theorem dX10_loadingObstacle_172 : decode cX10_loadingObstacle 172 = .ok (.iadd, 1) := by decide +kernel
theorem dX10_loadingObstacle_173 : decode cX10_loadingObstacle 173 = .ok (.iaload, 1) := by decide +kernel
theorem dX10_loadingObstacle_174 : decode cX10_loadingObstacle 174 = .ok (.if_icmp .lt 7, 3) := by decide +kernel
theorem dX10_loadingObstacle_177 : decode cX10_loadingObstacle 177 = .ok (.iconst 4, 1) := by decide +kernel
theorem dX10_loadingObstacle_178 : decode cX10_loadingObstacle 178 = .ok (.goto 4, 3) := by decide +kernel
theorem dX10_loadingObstacle_181 : decode cX10_loadingObstacle 181 = .ok (.iconst 0, 1) := by decide +kernel
theorem dX10_loadingObstacle_182 : decode cX10_loadingObstacle 182 = .ok (.ireturn, 1) := by decide +kernel
theorem dX10_deliveredCount_0 : decode cX10_deliveredCount 0 = .ok (.aload_n 0, 1) := by decide +kernel
theorem dX10_deliveredCount_1 : decode cX10_deliveredCount 1 = .ok (.iconst 0, 1) := by decide +kernel
theorem dX10_deliveredCount_2 : decode cX10_deliveredCount 2 = .ok (.putfield 69, 3) := by decide +kernel
theorem dX10_deliveredCount_5 : decode cX10_deliveredCount 5 = .ok (.aload_n 0, 1) := by decide +kernel
theorem dX10_deliveredCount_6 : decode cX10_deliveredCount 6 = .ok (.getfield 7, 3) := by decide +kernel
theorem dX10_deliveredCount_9 : decode cX10_deliveredCount 9 = .ok (.invokestatic 309, 3) := by decide +kernel
theorem dX10_deliveredCount_12 : decode cX10_deliveredCount 12 = .ok (.ireturn, 1) := by decide +kernel
theorem dX10_parcelBalance_0 : decode cX10_parcelBalance 0 = .ok (.aload_n 0, 1) := by decide +kernel
theorem dX10_parcelBalance_1 : decode cX10_parcelBalance 1 = .ok (.iconst 0, 1) := by decide +kernel
theorem dX10_parcelBalance_2 : decode cX10_parcelBalance 2 = .ok (.putfield 69, 3) := by decide +kernel
theorem dX10_parcelBalance_5 : decode cX10_parcelBalance 5 = .ok (.aload_n 0, 1) := by decide +kernel
theorem dX10_parcelBalance_6 : decode cX10_parcelBalance 6 = .ok (.getfield 7, 3) := by decide +kernel
theorem dX10_parcelBalance_9 : decode cX10_parcelBalance 9 = .ok (.iconst 4, 1) := by decide +kernel
theorem dX10_parcelBalance_10 : decode cX10_parcelBalance 10 = .ok (.iaload, 1) := by decide +kernel
theorem dX10_parcelBalance_11 : decode cX10_parcelBalance 11 = .ok (.aload_n 0, 1) := by decide +kernel
theorem dX10_parcelBalance_12 : decode cX10_parcelBalance 12 = .ok (.getfield 7, 3) := by decide +kernel
theorem dX10_parcelBalance_15 : decode cX10_parcelBalance 15 = .ok (.invokestatic 309, 3) := by decide +kernel
theorem dX10_parcelBalance_18 : decode cX10_parcelBalance 18 = .ok (.isub, 1) := by decide +kernel
theorem dX10_parcelBalance_19 : decode cX10_parcelBalance 19 = .ok (.istore_n 1, 1) := by decide +kernel
theorem dX10_parcelBalance_20 : decode cX10_parcelBalance 20 = .ok (.iconst 0, 1) := by decide +kernel
theorem dX10_parcelBalance_21 : decode cX10_parcelBalance 21 = .ok (.istore_n 2, 1) := by decide +kernel
theorem dX10_parcelBalance_22 : decode cX10_parcelBalance 22 = .ok (.iload_n 2, 1) := by decide +kernel
theorem dX10_parcelBalance_23 : decode cX10_parcelBalance 23 = .ok (.aload_n 0, 1) := by decide +kernel
theorem dX10_parcelBalance_24 : decode cX10_parcelBalance 24 = .ok (.getfield 7, 3) := by decide +kernel
theorem dX10_parcelBalance_27 : decode cX10_parcelBalance 27 = .ok (.iconst 1, 1) := by decide +kernel
theorem dX10_parcelBalance_28 : decode cX10_parcelBalance 28 = .ok (.iaload, 1) := by decide +kernel
theorem dX10_parcelBalance_29 : decode cX10_parcelBalance 29 = .ok (.if_icmp .ge 20, 3) := by decide +kernel
theorem dX10_parcelBalance_32 : decode cX10_parcelBalance 32 = .ok (.iload_n 1, 1) := by decide +kernel
theorem dX10_parcelBalance_33 : decode cX10_parcelBalance 33 = .ok (.aload_n 0, 1) := by decide +kernel
theorem dX10_parcelBalance_34 : decode cX10_parcelBalance 34 = .ok (.getfield 7, 3) := by decide +kernel
theorem dX10_parcelBalance_37 : decode cX10_parcelBalance 37 = .ok (.iload_n 2, 1) := by decide +kernel
theorem dX10_parcelBalance_38 : decode cX10_parcelBalance 38 = .ok (.invokestatic 290, 3) := by decide +kernel
theorem dX10_parcelBalance_41 : decode cX10_parcelBalance 41 = .ok (.isub, 1) := by decide +kernel
theorem dX10_parcelBalance_42 : decode cX10_parcelBalance 42 = .ok (.istore_n 1, 1) := by decide +kernel
theorem dX10_parcelBalance_43 : decode cX10_parcelBalance 43 = .ok (.iinc 2 1, 3) := by decide +kernel
theorem dX10_parcelBalance_46 : decode cX10_parcelBalance 46 = .ok (.goto (-24), 3) := by decide +kernel
theorem dX10_parcelBalance_49 : decode cX10_parcelBalance 49 = .ok (.iconst 0, 1) := by decide +kernel
theorem dX10_parcelBalance_50 : decode cX10_parcelBalance 50 = .ok (.istore_n 2, 1) := by decide +kernel
theorem dX10_parcelBalance_51 : decode cX10_parcelBalance 51 = .ok (.iload_n 2, 1) := by decide +kernel
theorem dX10_parcelBalance_52 : decode cX10_parcelBalance 52 = .ok (.aload_n 0, 1) := by decide +kernel
theorem dX10_parcelBalance_53 : decode cX10_parcelBalance 53 = .ok (.getfield 7, 3) := by decide +kernel
theorem dX10_parcelBalance_56 : decode cX10_parcelBalance 56 = .ok (.iconst 3, 1) := by decide +kernel
theorem dX10_parcelBalance_57 : decode cX10_parcelBalance 57 = .ok (.iaload, 1) := by decide +kernel
theorem dX10_parcelBalance_58 : decode cX10_parcelBalance 58 = .ok (.if_icmp .ge 20, 3) := by decide +kernel
theorem dX10_parcelBalance_61 : decode cX10_parcelBalance 61 = .ok (.iload_n 1, 1) := by decide +kernel
theorem dX10_parcelBalance_62 : decode cX10_parcelBalance 62 = .ok (.aload_n 0, 1) := by decide +kernel
theorem dX10_parcelBalance_63 : decode cX10_parcelBalance 63 = .ok (.getfield 7, 3) := by decide +kernel
theorem dX10_parcelBalance_66 : decode cX10_parcelBalance 66 = .ok (.iload_n 2, 1) := by decide +kernel
theorem dX10_parcelBalance_67 : decode cX10_parcelBalance 67 = .ok (.invokestatic 116, 3) := by decide +kernel
theorem dX10_parcelBalance_70 : decode cX10_parcelBalance 70 = .ok (.isub, 1) := by decide +kernel
theorem dX10_parcelBalance_71 : decode cX10_parcelBalance 71 = .ok (.istore_n 1, 1) := by decide +kernel
theorem dX10_parcelBalance_72 : decode cX10_parcelBalance 72 = .ok (.iinc 2 1, 3) := by decide +kernel
theorem dX10_parcelBalance_75 : decode cX10_parcelBalance 75 = .ok (.goto (-24), 3) := by decide +kernel
theorem dX10_parcelBalance_78 : decode cX10_parcelBalance 78 = .ok (.iload_n 1, 1) := by decide +kernel
theorem dX10_parcelBalance_79 : decode cX10_parcelBalance 79 = .ok (.ireturn, 1) := by decide +kernel
theorem dX10_loadingBalance_0 : decode cX10_loadingBalance 0 = .ok (.aload_n 0, 1) := by decide +kernel
theorem dX10_loadingBalance_1 : decode cX10_loadingBalance 1 = .ok (.iconst 0, 1) := by decide +kernel
theorem dX10_loadingBalance_2 : decode cX10_loadingBalance 2 = .ok (.putfield 69, 3) := by decide +kernel
theorem dX10_loadingBalance_5 : decode cX10_loadingBalance 5 = .ok (.aload_n 0, 1) := by decide +kernel
theorem dX10_loadingBalance_6 : decode cX10_loadingBalance 6 = .ok (.getfield 7, 3) := by decide +kernel
theorem dX10_loadingBalance_9 : decode cX10_loadingBalance 9 = .ok (.iconst 5, 1) := by decide +kernel
theorem dX10_loadingBalance_10 : decode cX10_loadingBalance 10 = .ok (.iaload, 1) := by decide +kernel
theorem dX10_loadingBalance_11 : decode cX10_loadingBalance 11 = .ok (.aload_n 0, 1) := by decide +kernel
theorem dX10_loadingBalance_12 : decode cX10_loadingBalance 12 = .ok (.getfield 7, 3) := by decide +kernel
theorem dX10_loadingBalance_15 : decode cX10_loadingBalance 15 = .ok (.bipush 6, 2) := by decide +kernel
theorem dX10_loadingBalance_17 : decode cX10_loadingBalance 17 = .ok (.iaload, 1) := by decide +kernel
theorem dX10_loadingBalance_18 : decode cX10_loadingBalance 18 = .ok (.isub, 1) := by decide +kernel
theorem dX10_loadingBalance_19 : decode cX10_loadingBalance 19 = .ok (.istore_n 1, 1) := by decide +kernel
theorem dX10_loadingBalance_20 : decode cX10_loadingBalance 20 = .ok (.iconst 0, 1) := by decide +kernel
theorem dX10_loadingBalance_21 : decode cX10_loadingBalance 21 = .ok (.istore_n 2, 1) := by decide +kernel
theorem dX10_loadingBalance_22 : decode cX10_loadingBalance 22 = .ok (.iload_n 2, 1) := by decide +kernel
theorem dX10_loadingBalance_23 : decode cX10_loadingBalance 23 = .ok (.aload_n 0, 1) := by decide +kernel
theorem dX10_loadingBalance_24 : decode cX10_loadingBalance 24 = .ok (.getfield 7, 3) := by decide +kernel
theorem dX10_loadingBalance_27 : decode cX10_loadingBalance 27 = .ok (.iconst 3, 1) := by decide +kernel
theorem dX10_loadingBalance_28 : decode cX10_loadingBalance 28 = .ok (.iaload, 1) := by decide +kernel
theorem dX10_loadingBalance_29 : decode cX10_loadingBalance 29 = .ok (.if_icmp .ge 20, 3) := by decide +kernel
theorem dX10_loadingBalance_32 : decode cX10_loadingBalance 32 = .ok (.iload_n 1, 1) := by decide +kernel
theorem dX10_loadingBalance_33 : decode cX10_loadingBalance 33 = .ok (.aload_n 0, 1) := by decide +kernel
theorem dX10_loadingBalance_34 : decode cX10_loadingBalance 34 = .ok (.getfield 7, 3) := by decide +kernel
theorem dX10_loadingBalance_37 : decode cX10_loadingBalance 37 = .ok (.iload_n 2, 1) := by decide +kernel
theorem dX10_loadingBalance_38 : decode cX10_loadingBalance 38 = .ok (.invokestatic 116, 3) := by decide +kernel
theorem dX10_loadingBalance_41 : decode cX10_loadingBalance 41 = .ok (.isub, 1) := by decide +kernel
theorem dX10_loadingBalance_42 : decode cX10_loadingBalance 42 = .ok (.istore_n 1, 1) := by decide +kernel
theorem dX10_loadingBalance_43 : decode cX10_loadingBalance 43 = .ok (.iinc 2 1, 3) := by decide +kernel
theorem dX10_loadingBalance_46 : decode cX10_loadingBalance 46 = .ok (.goto (-24), 3) := by decide +kernel
theorem dX10_loadingBalance_49 : decode cX10_loadingBalance 49 = .ok (.iload_n 1, 1) := by decide +kernel
theorem dX10_loadingBalance_50 : decode cX10_loadingBalance 50 = .ok (.ireturn, 1) := by decide +kernel
theorem dX10_meanDeliveryClock_0 : decode cX10_meanDeliveryClock 0 = .ok (.aload_n 0, 1) := by decide +kernel
theorem dX10_meanDeliveryClock_1 : decode cX10_meanDeliveryClock 1 = .ok (.iconst 0, 1) := by decide +kernel
theorem dX10_meanDeliveryClock_2 : decode cX10_meanDeliveryClock 2 = .ok (.putfield 69, 3) := by decide +kernel
theorem dX10_meanDeliveryClock_5 : decode cX10_meanDeliveryClock 5 = .ok (.iconst 0, 1) := by decide +kernel
theorem dX10_meanDeliveryClock_6 : decode cX10_meanDeliveryClock 6 = .ok (.istore_n 1, 1) := by decide +kernel
theorem dX10_meanDeliveryClock_7 : decode cX10_meanDeliveryClock 7 = .ok (.iconst 0, 1) := by decide +kernel
theorem dX10_meanDeliveryClock_8 : decode cX10_meanDeliveryClock 8 = .ok (.istore_n 2, 1) := by decide +kernel
theorem dX10_meanDeliveryClock_9 : decode cX10_meanDeliveryClock 9 = .ok (.iload_n 2, 1) := by decide +kernel
theorem dX10_meanDeliveryClock_10 : decode cX10_meanDeliveryClock 10 = .ok (.aload_n 0, 1) := by decide +kernel
theorem dX10_meanDeliveryClock_11 : decode cX10_meanDeliveryClock 11 = .ok (.getfield 7, 3) := by decide +kernel
theorem dX10_meanDeliveryClock_14 : decode cX10_meanDeliveryClock 14 = .ok (.iconst 4, 1) := by decide +kernel
theorem dX10_meanDeliveryClock_15 : decode cX10_meanDeliveryClock 15 = .ok (.iaload, 1) := by decide +kernel
theorem dX10_meanDeliveryClock_16 : decode cX10_meanDeliveryClock 16 = .ok (.if_icmp .ge 35, 3) := by decide +kernel
theorem dX10_meanDeliveryClock_19 : decode cX10_meanDeliveryClock 19 = .ok (.aload_n 0, 1) := by decide +kernel
theorem dX10_meanDeliveryClock_20 : decode cX10_meanDeliveryClock 20 = .ok (.getfield 7, 3) := by decide +kernel
theorem dX10_meanDeliveryClock_23 : decode cX10_meanDeliveryClock 23 = .ok (.iload_n 2, 1) := by decide +kernel
theorem dX10_meanDeliveryClock_24 : decode cX10_meanDeliveryClock 24 = .ok (.invokestatic 88, 3) := by decide +kernel
theorem dX10_meanDeliveryClock_27 : decode cX10_meanDeliveryClock 27 = .ok (.bipush 8, 2) := by decide +kernel
theorem dX10_meanDeliveryClock_29 : decode cX10_meanDeliveryClock 29 = .ok (.iadd, 1) := by decide +kernel
theorem dX10_meanDeliveryClock_30 : decode cX10_meanDeliveryClock 30 = .ok (.iaload, 1) := by decide +kernel
theorem dX10_meanDeliveryClock_31 : decode cX10_meanDeliveryClock 31 = .ok (.istore_n 3, 1) := by decide +kernel
theorem dX10_meanDeliveryClock_32 : decode cX10_meanDeliveryClock 32 = .ok (.iload_n 1, 1) := by decide +kernel
theorem dX10_meanDeliveryClock_33 : decode cX10_meanDeliveryClock 33 = .ok (.iload_n 3, 1) := by decide +kernel
theorem dX10_meanDeliveryClock_34 : decode cX10_meanDeliveryClock 34 = .ok (.iconst (-1), 1) := by decide +kernel
theorem dX10_meanDeliveryClock_35 : decode cX10_meanDeliveryClock 35 = .ok (.if_icmp .ne 7, 3) := by decide +kernel
theorem dX10_meanDeliveryClock_38 : decode cX10_meanDeliveryClock 38 = .ok (.iconst 0, 1) := by decide +kernel
theorem dX10_meanDeliveryClock_39 : decode cX10_meanDeliveryClock 39 = .ok (.goto 4, 3) := by decide +kernel
theorem dX10_meanDeliveryClock_42 : decode cX10_meanDeliveryClock 42 = .ok (.iload_n 3, 1) := by decide +kernel
theorem dX10_meanDeliveryClock_43 : decode cX10_meanDeliveryClock 43 = .ok (.iadd, 1) := by decide +kernel
theorem dX10_meanDeliveryClock_44 : decode cX10_meanDeliveryClock 44 = .ok (.istore_n 1, 1) := by decide +kernel
theorem dX10_meanDeliveryClock_45 : decode cX10_meanDeliveryClock 45 = .ok (.iinc 2 1, 3) := by decide +kernel
theorem dX10_meanDeliveryClock_48 : decode cX10_meanDeliveryClock 48 = .ok (.goto (-39), 3) := by decide +kernel
theorem dX10_meanDeliveryClock_51 : decode cX10_meanDeliveryClock 51 = .ok (.aload_n 0, 1) := by decide +kernel
theorem dX10_meanDeliveryClock_52 : decode cX10_meanDeliveryClock 52 = .ok (.getfield 7, 3) := by decide +kernel
theorem dX10_meanDeliveryClock_55 : decode cX10_meanDeliveryClock 55 = .ok (.invokestatic 309, 3) := by decide +kernel
theorem dX10_meanDeliveryClock_58 : decode cX10_meanDeliveryClock 58 = .ok (.ifCond .ne 7, 3) := by decide +kernel
theorem dX10_meanDeliveryClock_61 : decode cX10_meanDeliveryClock 61 = .ok (.dconst 0, 1) := by decide +kernel
theorem dX10_meanDeliveryClock_62 : decode cX10_meanDeliveryClock 62 = .ok (.goto 14, 3) := by decide +kernel
theorem dX10_meanDeliveryClock_65 : decode cX10_meanDeliveryClock 65 = .ok (.iload_n 1, 1) := by decide +kernel
theorem dX10_meanDeliveryClock_66 : decode cX10_meanDeliveryClock 66 = .ok (.i2d, 1) := by decide +kernel
theorem dX10_meanDeliveryClock_67 : decode cX10_meanDeliveryClock 67 = .ok (.aload_n 0, 1) := by decide +kernel
theorem dX10_meanDeliveryClock_68 : decode cX10_meanDeliveryClock 68 = .ok (.getfield 7, 3) := by decide +kernel
theorem dX10_meanDeliveryClock_71 : decode cX10_meanDeliveryClock 71 = .ok (.invokestatic 309, 3) := by decide +kernel
theorem dX10_meanDeliveryClock_74 : decode cX10_meanDeliveryClock 74 = .ok (.i2d, 1) := by decide +kernel
theorem dX10_meanDeliveryClock_75 : decode cX10_meanDeliveryClock 75 = .ok (.ddiv, 1) := by decide +kernel
theorem dX10_meanDeliveryClock_76 : decode cX10_meanDeliveryClock 76 = .ok (.dreturn, 1) := by decide +kernel
theorem dX10_deliveredShare_0 : decode cX10_deliveredShare 0 = .ok (.aload_n 0, 1) := by decide +kernel
theorem dX10_deliveredShare_1 : decode cX10_deliveredShare 1 = .ok (.iconst 0, 1) := by decide +kernel
theorem dX10_deliveredShare_2 : decode cX10_deliveredShare 2 = .ok (.putfield 69, 3) := by decide +kernel
theorem dX10_deliveredShare_5 : decode cX10_deliveredShare 5 = .ok (.aload_n 0, 1) := by decide +kernel
theorem dX10_deliveredShare_6 : decode cX10_deliveredShare 6 = .ok (.getfield 7, 3) := by decide +kernel
theorem dX10_deliveredShare_9 : decode cX10_deliveredShare 9 = .ok (.iconst 4, 1) := by decide +kernel
theorem dX10_deliveredShare_10 : decode cX10_deliveredShare 10 = .ok (.iaload, 1) := by decide +kernel
theorem dX10_deliveredShare_11 : decode cX10_deliveredShare 11 = .ok (.ifCond .ne 7, 3) := by decide +kernel
theorem dX10_deliveredShare_14 : decode cX10_deliveredShare 14 = .ok (.fconst 0, 1) := by decide +kernel
theorem dX10_deliveredShare_15 : decode cX10_deliveredShare 15 = .ok (.goto 19, 3) := by decide +kernel
theorem dX10_deliveredShare_18 : decode cX10_deliveredShare 18 = .ok (.aload_n 0, 1) := by decide +kernel
theorem dX10_deliveredShare_19 : decode cX10_deliveredShare 19 = .ok (.getfield 7, 3) := by decide +kernel
theorem dX10_deliveredShare_22 : decode cX10_deliveredShare 22 = .ok (.invokestatic 309, 3) := by decide +kernel
theorem dX10_deliveredShare_25 : decode cX10_deliveredShare 25 = .ok (.i2f, 1) := by decide +kernel
theorem dX10_deliveredShare_26 : decode cX10_deliveredShare 26 = .ok (.aload_n 0, 1) := by decide +kernel
theorem dX10_deliveredShare_27 : decode cX10_deliveredShare 27 = .ok (.getfield 7, 3) := by decide +kernel
theorem dX10_deliveredShare_30 : decode cX10_deliveredShare 30 = .ok (.iconst 4, 1) := by decide +kernel
theorem dX10_deliveredShare_31 : decode cX10_deliveredShare 31 = .ok (.iaload, 1) := by decide +kernel
theorem dX10_deliveredShare_32 : decode cX10_deliveredShare 32 = .ok (.i2f, 1) := by decide +kernel
theorem dX10_deliveredShare_33 : decode cX10_deliveredShare 33 = .ok (.fdiv, 1) := by decide +kernel
theorem dX10_deliveredShare_34 : decode cX10_deliveredShare 34 = .ok (.freturn, 1) := by decide +kernel
theorem dX10_tries_0 : decode cX10_tries 0 = .ok (.aload_n 0, 1) := by decide +kernel
theorem dX10_tries_1 : decode cX10_tries 1 = .ok (.getfield 7, 3) := by decide +kernel
theorem dX10_tries_4 : decode cX10_tries 4 = .ok (.iconst 0, 1) := by decide +kernel
theorem dX10_tries_5 : decode cX10_tries 5 = .ok (.aload_n 0, 1) := by decide +kernel
theorem dX10_tries_6 : decode cX10_tries 6 = .ok (.getfield 16, 3) := by decide +kernel
theorem dX10_tries_9 : decode cX10_tries 9 = .ok (.iconst 0, 1) := by decide +kernel
theorem dX10_tries_10 : decode cX10_tries 10 = .ok (.invokestatic 55, 3) := by decide +kernel
theorem dX10_tries_13 : decode cX10_tries 13 = .ok (.return_, 1) := by decide +kernel
theorem dX10_minutesToDelivery_0 : decode cX10_minutesToDelivery 0 = .ok (.aload_n 0, 1) := by decide +kernel
theorem dX10_minutesToDelivery_1 : decode cX10_minutesToDelivery 1 = .ok (.iload_n 1, 1) := by decide +kernel
theorem dX10_minutesToDelivery_2 : decode cX10_minutesToDelivery 2 = .ok (.invokevirtual 303, 3) := by decide +kernel
theorem dX10_minutesToDelivery_5 : decode cX10_minutesToDelivery 5 = .ok (.ifCond .eq 5, 3) := by decide +kernel
theorem dX10_minutesToDelivery_8 : decode cX10_minutesToDelivery 8 = .ok (.iconst 0, 1) := by decide +kernel
theorem dX10_minutesToDelivery_9 : decode cX10_minutesToDelivery 9 = .ok (.ireturn, 1) := by decide +kernel
theorem dX10_minutesToDelivery_10 : decode cX10_minutesToDelivery 10 = .ok (.aload_n 0, 1) := by decide +kernel
theorem dX10_minutesToDelivery_11 : decode cX10_minutesToDelivery 11 = .ok (.invokevirtual 313, 3) := by decide +kernel
theorem dX10_minutesToDelivery_14 : decode cX10_minutesToDelivery 14 = .ok (.iconst 0, 1) := by decide +kernel
theorem dX10_minutesToDelivery_15 : decode cX10_minutesToDelivery 15 = .ok (.istore_n 2, 1) := by decide +kernel
theorem dX10_minutesToDelivery_16 : decode cX10_minutesToDelivery 16 = .ok (.iload_n 2, 1) := by decide +kernel
theorem dX10_minutesToDelivery_17 : decode cX10_minutesToDelivery 17 = .ok (.bipush 120, 2) := by decide +kernel
theorem dX10_minutesToDelivery_19 : decode cX10_minutesToDelivery 19 = .ok (.if_icmp .gt 35, 3) := by decide +kernel
theorem dX10_minutesToDelivery_22 : decode cX10_minutesToDelivery 22 = .ok (.aload_n 0, 1) := by decide +kernel
theorem dX10_minutesToDelivery_23 : decode cX10_minutesToDelivery 23 = .ok (.getfield 16, 3) := by decide +kernel
theorem dX10_minutesToDelivery_26 : decode cX10_minutesToDelivery 26 = .ok (.iload_n 1, 1) := by decide +kernel
theorem dX10_minutesToDelivery_27 : decode cX10_minutesToDelivery 27 = .ok (.invokestatic 88, 3) := by decide +kernel
theorem dX10_minutesToDelivery_30 : decode cX10_minutesToDelivery 30 = .ok (.bipush 8, 2) := by decide +kernel
theorem dX10_minutesToDelivery_32 : decode cX10_minutesToDelivery 32 = .ok (.iadd, 1) := by decide +kernel
theorem dX10_minutesToDelivery_33 : decode cX10_minutesToDelivery 33 = .ok (.iaload, 1) := by decide +kernel
theorem dX10_minutesToDelivery_34 : decode cX10_minutesToDelivery 34 = .ok (.iconst (-1), 1) := by decide +kernel
theorem dX10_minutesToDelivery_35 : decode cX10_minutesToDelivery 35 = .ok (.if_icmp .eq 5, 3) := by decide +kernel
theorem dX10_minutesToDelivery_38 : decode cX10_minutesToDelivery 38 = .ok (.iload_n 2, 1) := by decide +kernel
theorem dX10_minutesToDelivery_39 : decode cX10_minutesToDelivery 39 = .ok (.ireturn, 1) := by decide +kernel
theorem dX10_minutesToDelivery_40 : decode cX10_minutesToDelivery 40 = .ok (.aload_n 0, 1) := by decide +kernel
theorem dX10_minutesToDelivery_41 : decode cX10_minutesToDelivery 41 = .ok (.aload_n 0, 1) := by decide +kernel
theorem dX10_minutesToDelivery_42 : decode cX10_minutesToDelivery 42 = .ok (.getfield 16, 3) := by decide +kernel
theorem dX10_minutesToDelivery_45 : decode cX10_minutesToDelivery 45 = .ok (.invokevirtual 161, 3) := by decide +kernel
theorem dX10_minutesToDelivery_48 : decode cX10_minutesToDelivery 48 = .ok (.iinc 2 1, 3) := by decide +kernel
theorem dX10_minutesToDelivery_51 : decode cX10_minutesToDelivery 51 = .ok (.goto (-35), 3) := by decide +kernel
theorem dX10_minutesToDelivery_54 : decode cX10_minutesToDelivery 54 = .ok (.iconst (-1), 1) := by decide +kernel
theorem dX10_minutesToDelivery_55 : decode cX10_minutesToDelivery 55 = .ok (.ireturn, 1) := by decide +kernel
theorem dX10_minutesToFinish_0 : decode cX10_minutesToFinish 0 = .ok (.aload_n 0, 1) := by decide +kernel
theorem dX10_minutesToFinish_1 : decode cX10_minutesToFinish 1 = .ok (.iconst 0, 1) := by decide +kernel
theorem dX10_minutesToFinish_2 : decode cX10_minutesToFinish 2 = .ok (.putfield 69, 3) := by decide +kernel
theorem dX10_minutesToFinish_5 : decode cX10_minutesToFinish 5 = .ok (.aload_n 0, 1) := by decide +kernel
theorem dX10_minutesToFinish_6 : decode cX10_minutesToFinish 6 = .ok (.invokevirtual 313, 3) := by decide +kernel
theorem dX10_minutesToFinish_9 : decode cX10_minutesToFinish 9 = .ok (.iconst 0, 1) := by decide +kernel
theorem dX10_minutesToFinish_10 : decode cX10_minutesToFinish 10 = .ok (.istore_n 1, 1) := by decide +kernel
theorem dX10_minutesToFinish_11 : decode cX10_minutesToFinish 11 = .ok (.iload_n 1, 1) := by decide +kernel
theorem dX10_minutesToFinish_12 : decode cX10_minutesToFinish 12 = .ok (.bipush 120, 2) := by decide +kernel
theorem dX10_minutesToFinish_14 : decode cX10_minutesToFinish 14 = .ok (.if_icmp .gt 35, 3) := by decide +kernel
theorem dX10_minutesToFinish_17 : decode cX10_minutesToFinish 17 = .ok (.aload_n 0, 1) := by decide +kernel
theorem dX10_minutesToFinish_18 : decode cX10_minutesToFinish 18 = .ok (.getfield 16, 3) := by decide +kernel
theorem dX10_minutesToFinish_21 : decode cX10_minutesToFinish 21 = .ok (.invokestatic 309, 3) := by decide +kernel
theorem dX10_minutesToFinish_24 : decode cX10_minutesToFinish 24 = .ok (.aload_n 0, 1) := by decide +kernel
theorem dX10_minutesToFinish_25 : decode cX10_minutesToFinish 25 = .ok (.getfield 16, 3) := by decide +kernel
theorem dX10_minutesToFinish_28 : decode cX10_minutesToFinish 28 = .ok (.iconst 4, 1) := by decide +kernel
theorem dX10_minutesToFinish_29 : decode cX10_minutesToFinish 29 = .ok (.iaload, 1) := by decide +kernel
theorem dX10_minutesToFinish_30 : decode cX10_minutesToFinish 30 = .ok (.if_icmp .ne 5, 3) := by decide +kernel
theorem dX10_minutesToFinish_33 : decode cX10_minutesToFinish 33 = .ok (.iload_n 1, 1) := by decide +kernel
theorem dX10_minutesToFinish_34 : decode cX10_minutesToFinish 34 = .ok (.ireturn, 1) := by decide +kernel
theorem dX10_minutesToFinish_35 : decode cX10_minutesToFinish 35 = .ok (.aload_n 0, 1) := by decide +kernel
theorem dX10_minutesToFinish_36 : decode cX10_minutesToFinish 36 = .ok (.aload_n 0, 1) := by decide +kernel
theorem dX10_minutesToFinish_37 : decode cX10_minutesToFinish 37 = .ok (.getfield 16, 3) := by decide +kernel
theorem dX10_minutesToFinish_40 : decode cX10_minutesToFinish 40 = .ok (.invokevirtual 161, 3) := by decide +kernel
theorem dX10_minutesToFinish_43 : decode cX10_minutesToFinish 43 = .ok (.iinc 1 1, 3) := by decide +kernel
theorem dX10_minutesToFinish_46 : decode cX10_minutesToFinish 46 = .ok (.goto (-35), 3) := by decide +kernel
theorem dX10_minutesToFinish_49 : decode cX10_minutesToFinish 49 = .ok (.iconst (-1), 1) := by decide +kernel
theorem dX10_minutesToFinish_50 : decode cX10_minutesToFinish 50 = .ok (.ireturn, 1) := by decide +kernel
theorem dX10_minutesToStop_0 : decode cX10_minutesToStop 0 = .ok (.aload_n 0, 1) := by decide +kernel
theorem dX10_minutesToStop_1 : decode cX10_minutesToStop 1 = .ok (.iload_n 1, 1) := by decide +kernel
theorem dX10_minutesToStop_2 : decode cX10_minutesToStop 2 = .ok (.invokevirtual 286, 3) := by decide +kernel
theorem dX10_minutesToStop_5 : decode cX10_minutesToStop 5 = .ok (.ifCond .eq 5, 3) := by decide +kernel
theorem dX10_minutesToStop_8 : decode cX10_minutesToStop 8 = .ok (.iconst 0, 1) := by decide +kernel
theorem dX10_minutesToStop_9 : decode cX10_minutesToStop 9 = .ok (.ireturn, 1) := by decide +kernel
theorem dX10_minutesToStop_10 : decode cX10_minutesToStop 10 = .ok (.aload_n 0, 1) := by decide +kernel
theorem dX10_minutesToStop_11 : decode cX10_minutesToStop 11 = .ok (.invokevirtual 313, 3) := by decide +kernel
theorem dX10_minutesToStop_14 : decode cX10_minutesToStop 14 = .ok (.iconst 1, 1) := by decide +kernel
theorem dX10_minutesToStop_15 : decode cX10_minutesToStop 15 = .ok (.istore_n 2, 1) := by decide +kernel
theorem dX10_minutesToStop_16 : decode cX10_minutesToStop 16 = .ok (.iload_n 2, 1) := by decide +kernel
theorem dX10_minutesToStop_17 : decode cX10_minutesToStop 17 = .ok (.bipush 120, 2) := by decide +kernel
theorem dX10_minutesToStop_19 : decode cX10_minutesToStop 19 = .ok (.if_icmp .gt 44, 3) := by decide +kernel
theorem dX10_minutesToStop_22 : decode cX10_minutesToStop 22 = .ok (.aload_n 0, 1) := by decide +kernel
theorem dX10_minutesToStop_23 : decode cX10_minutesToStop 23 = .ok (.aload_n 0, 1) := by decide +kernel
theorem dX10_minutesToStop_24 : decode cX10_minutesToStop 24 = .ok (.getfield 16, 3) := by decide +kernel
theorem dX10_minutesToStop_27 : decode cX10_minutesToStop 27 = .ok (.invokevirtual 161, 3) := by decide +kernel
theorem dX10_minutesToStop_30 : decode cX10_minutesToStop 30 = .ok (.aload_n 0, 1) := by decide +kernel
theorem dX10_minutesToStop_31 : decode cX10_minutesToStop 31 = .ok (.getfield 16, 3) := by decide +kernel
theorem dX10_minutesToStop_34 : decode cX10_minutesToStop 34 = .ok (.iload_n 1, 1) := by decide +kernel
theorem dX10_minutesToStop_35 : decode cX10_minutesToStop 35 = .ok (.invokestatic 134, 3) := by decide +kernel
theorem dX10_minutesToStop_38 : decode cX10_minutesToStop 38 = .ok (.iconst 3, 1) := by decide +kernel
theorem dX10_minutesToStop_39 : decode cX10_minutesToStop 39 = .ok (.iadd, 1) := by decide +kernel
theorem dX10_minutesToStop_40 : decode cX10_minutesToStop 40 = .ok (.iaload, 1) := by decide +kernel
theorem dX10_minutesToStop_41 : decode cX10_minutesToStop 41 = .ok (.aload_n 0, 1) := by decide +kernel
theorem dX10_minutesToStop_42 : decode cX10_minutesToStop 42 = .ok (.getfield 7, 3) := by decide +kernel
theorem dX10_minutesToStop_45 : decode cX10_minutesToStop 45 = .ok (.iload_n 1, 1) := by decide +kernel
theorem dX10_minutesToStop_46 : decode cX10_minutesToStop 46 = .ok (.invokestatic 134, 3) := by decide +kernel
theorem dX10_minutesToStop_49 : decode cX10_minutesToStop 49 = .ok (.iconst 3, 1) := by decide +kernel
theorem dX10_minutesToStop_50 : decode cX10_minutesToStop 50 = .ok (.iadd, 1) := by decide +kernel
theorem dX10_minutesToStop_51 : decode cX10_minutesToStop 51 = .ok (.iaload, 1) := by decide +kernel
theorem dX10_minutesToStop_52 : decode cX10_minutesToStop 52 = .ok (.if_icmp .le 5, 3) := by decide +kernel
theorem dX10_minutesToStop_55 : decode cX10_minutesToStop 55 = .ok (.iload_n 2, 1) := by decide +kernel
theorem dX10_minutesToStop_56 : decode cX10_minutesToStop 56 = .ok (.ireturn, 1) := by decide +kernel
theorem dX10_minutesToStop_57 : decode cX10_minutesToStop 57 = .ok (.iinc 2 1, 3) := by decide +kernel
theorem dX10_minutesToStop_60 : decode cX10_minutesToStop 60 = .ok (.goto (-44), 3) := by decide +kernel
theorem dX10_minutesToStop_63 : decode cX10_minutesToStop 63 = .ok (.iconst (-1), 1) := by decide +kernel
theorem dX10_minutesToStop_64 : decode cX10_minutesToStop 64 = .ok (.ireturn, 1) := by decide +kernel
theorem dX10_trainStationAfter_0 : decode cX10_trainStationAfter 0 = .ok (.aload_n 0, 1) := by decide +kernel
theorem dX10_trainStationAfter_1 : decode cX10_trainStationAfter 1 = .ok (.iload_n 1, 1) := by decide +kernel
theorem dX10_trainStationAfter_2 : decode cX10_trainStationAfter 2 = .ok (.invokevirtual 300, 3) := by decide +kernel
theorem dX10_trainStationAfter_5 : decode cX10_trainStationAfter 5 = .ok (.ifCond .ne 14, 3) := by decide +kernel
theorem dX10_trainStationAfter_8 : decode cX10_trainStationAfter 8 = .ok (.aload_n 0, 1) := by decide +kernel
theorem dX10_trainStationAfter_9 : decode cX10_trainStationAfter 9 = .ok (.iload_n 2, 1) := by decide +kernel
theorem dX10_trainStationAfter_10 : decode cX10_trainStationAfter 10 = .ok (.iconst 0, 1) := by decide +kernel
theorem dX10_trainStationAfter_11 : decode cX10_trainStationAfter 11 = .ok (.bipush 120, 2) := by decide +kernel
theorem dX10_trainStationAfter_13 : decode cX10_trainStationAfter 13 = .ok (.invokevirtual 293, 3) := by decide +kernel
theorem dX10_trainStationAfter_16 : decode cX10_trainStationAfter 16 = .ok (.ifCond .eq 5, 3) := by decide +kernel
theorem dX10_trainStationAfter_19 : decode cX10_trainStationAfter 19 = .ok (.iconst 0, 1) := by decide +kernel
theorem dX10_trainStationAfter_20 : decode cX10_trainStationAfter 20 = .ok (.ireturn, 1) := by decide +kernel
theorem dX10_trainStationAfter_21 : decode cX10_trainStationAfter 21 = .ok (.aload_n 0, 1) := by decide +kernel
theorem dX10_trainStationAfter_22 : decode cX10_trainStationAfter 22 = .ok (.invokevirtual 313, 3) := by decide +kernel
theorem dX10_trainStationAfter_25 : decode cX10_trainStationAfter 25 = .ok (.aload_n 0, 1) := by decide +kernel
theorem dX10_trainStationAfter_26 : decode cX10_trainStationAfter 26 = .ok (.aload_n 0, 1) := by decide +kernel
theorem dX10_trainStationAfter_27 : decode cX10_trainStationAfter 27 = .ok (.getfield 16, 3) := by decide +kernel
theorem dX10_trainStationAfter_30 : decode cX10_trainStationAfter 30 = .ok (.iload_n 2, 1) := by decide +kernel
theorem dX10_trainStationAfter_31 : decode cX10_trainStationAfter 31 = .ok (.invokevirtual 230, 3) := by decide +kernel
theorem dX10_trainStationAfter_34 : decode cX10_trainStationAfter 34 = .ok (.aload_n 0, 1) := by decide +kernel
theorem dX10_trainStationAfter_35 : decode cX10_trainStationAfter 35 = .ok (.getfield 16, 3) := by decide +kernel
theorem dX10_trainStationAfter_38 : decode cX10_trainStationAfter 38 = .ok (.iload_n 1, 1) := by decide +kernel
theorem dX10_trainStationAfter_39 : decode cX10_trainStationAfter 39 = .ok (.invokestatic 149, 3) := by decide +kernel
theorem dX10_trainStationAfter_42 : decode cX10_trainStationAfter 42 = .ok (.ifCond .eq 14, 3) := by decide +kernel
theorem dX10_trainStationAfter_45 : decode cX10_trainStationAfter 45 = .ok (.aload_n 0, 1) := by decide +kernel
theorem dX10_trainStationAfter_46 : decode cX10_trainStationAfter 46 = .ok (.getfield 16, 3) := by decide +kernel
theorem dX10_trainStationAfter_49 : decode cX10_trainStationAfter 49 = .ok (.iload_n 1, 1) := by decide +kernel
theorem dX10_trainStationAfter_50 : decode cX10_trainStationAfter 50 = .ok (.invokestatic 95, 3) := by decide +kernel
theorem dX10_trainStationAfter_53 : decode cX10_trainStationAfter 53 = .ok (.goto 4, 3) := by decide +kernel
theorem dX10_trainStationAfter_56 : decode cX10_trainStationAfter 56 = .ok (.iconst (-1), 1) := by decide +kernel
theorem dX10_trainStationAfter_57 : decode cX10_trainStationAfter 57 = .ok (.ireturn, 1) := by decide +kernel
theorem dX10_deliveredAfter_0 : decode cX10_deliveredAfter 0 = .ok (.aload_n 0, 1) := by decide +kernel
theorem dX10_deliveredAfter_1 : decode cX10_deliveredAfter 1 = .ok (.iload_n 1, 1) := by decide +kernel
theorem dX10_deliveredAfter_2 : decode cX10_deliveredAfter 2 = .ok (.iconst 0, 1) := by decide +kernel
theorem dX10_deliveredAfter_3 : decode cX10_deliveredAfter 3 = .ok (.bipush 120, 2) := by decide +kernel
theorem dX10_deliveredAfter_5 : decode cX10_deliveredAfter 5 = .ok (.invokevirtual 173, 3) := by decide +kernel
theorem dX10_deliveredAfter_8 : decode cX10_deliveredAfter 8 = .ok (.ifCond .eq 5, 3) := by decide +kernel
theorem dX10_deliveredAfter_11 : decode cX10_deliveredAfter 11 = .ok (.iconst 0, 1) := by decide +kernel
theorem dX10_deliveredAfter_12 : decode cX10_deliveredAfter 12 = .ok (.ireturn, 1) := by decide +kernel
theorem dX10_deliveredAfter_13 : decode cX10_deliveredAfter 13 = .ok (.aload_n 0, 1) := by decide +kernel
theorem dX10_deliveredAfter_14 : decode cX10_deliveredAfter 14 = .ok (.invokevirtual 313, 3) := by decide +kernel
theorem dX10_deliveredAfter_17 : decode cX10_deliveredAfter 17 = .ok (.aload_n 0, 1) := by decide +kernel
theorem dX10_deliveredAfter_18 : decode cX10_deliveredAfter 18 = .ok (.aload_n 0, 1) := by decide +kernel
theorem dX10_deliveredAfter_19 : decode cX10_deliveredAfter 19 = .ok (.getfield 16, 3) := by decide +kernel
theorem dX10_deliveredAfter_22 : decode cX10_deliveredAfter 22 = .ok (.iload_n 1, 1) := by decide +kernel
theorem dX10_deliveredAfter_23 : decode cX10_deliveredAfter 23 = .ok (.invokevirtual 230, 3) := by decide +kernel
theorem dX10_deliveredAfter_26 : decode cX10_deliveredAfter 26 = .ok (.aload_n 0, 1) := by decide +kernel
theorem dX10_deliveredAfter_27 : decode cX10_deliveredAfter 27 = .ok (.getfield 16, 3) := by decide +kernel
theorem dX10_deliveredAfter_30 : decode cX10_deliveredAfter 30 = .ok (.invokestatic 309, 3) := by decide +kernel
theorem dX10_deliveredAfter_33 : decode cX10_deliveredAfter 33 = .ok (.ireturn, 1) := by decide +kernel
theorem dX10_deliveredWithout_0 : decode cX10_deliveredWithout 0 = .ok (.aload_n 0, 1) := by decide +kernel
theorem dX10_deliveredWithout_1 : decode cX10_deliveredWithout 1 = .ok (.invokevirtual 313, 3) := by decide +kernel
theorem dX10_deliveredWithout_4 : decode cX10_deliveredWithout 4 = .ok (.aload_n 0, 1) := by decide +kernel
theorem dX10_deliveredWithout_5 : decode cX10_deliveredWithout 5 = .ok (.getfield 16, 3) := by decide +kernel
theorem dX10_deliveredWithout_8 : decode cX10_deliveredWithout 8 = .ok (.iload_n 1, 1) := by decide +kernel
theorem dX10_deliveredWithout_9 : decode cX10_deliveredWithout 9 = .ok (.invokestatic 72, 3) := by decide +kernel
theorem dX10_deliveredWithout_12 : decode cX10_deliveredWithout 12 = .ok (.iconst 3, 1) := by decide +kernel
theorem dX10_deliveredWithout_13 : decode cX10_deliveredWithout 13 = .ok (.iadd, 1) := by decide +kernel
theorem dX10_deliveredWithout_14 : decode cX10_deliveredWithout 14 = .ok (.iconst 0, 1) := by decide +kernel
theorem dX10_deliveredWithout_15 : decode cX10_deliveredWithout 15 = .ok (.iastore, 1) := by decide +kernel
theorem dX10_deliveredWithout_16 : decode cX10_deliveredWithout 16 = .ok (.aload_n 0, 1) := by decide +kernel
theorem dX10_deliveredWithout_17 : decode cX10_deliveredWithout 17 = .ok (.aload_n 0, 1) := by decide +kernel
theorem dX10_deliveredWithout_18 : decode cX10_deliveredWithout 18 = .ok (.getfield 16, 3) := by decide +kernel
theorem dX10_deliveredWithout_21 : decode cX10_deliveredWithout 21 = .ok (.iload_n 2, 1) := by decide +kernel
theorem dX10_deliveredWithout_22 : decode cX10_deliveredWithout 22 = .ok (.invokevirtual 230, 3) := by decide +kernel
theorem dX10_deliveredWithout_25 : decode cX10_deliveredWithout 25 = .ok (.aload_n 0, 1) := by decide +kernel
theorem dX10_deliveredWithout_26 : decode cX10_deliveredWithout 26 = .ok (.getfield 16, 3) := by decide +kernel
theorem dX10_deliveredWithout_29 : decode cX10_deliveredWithout 29 = .ok (.invokestatic 309, 3) := by decide +kernel
theorem dX10_deliveredWithout_32 : decode cX10_deliveredWithout 32 = .ok (.ireturn, 1) := by decide +kernel
theorem dX10_deliveredIfClosed_0 : decode cX10_deliveredIfClosed 0 = .ok (.aload_n 0, 1) := by decide +kernel
theorem dX10_deliveredIfClosed_1 : decode cX10_deliveredIfClosed 1 = .ok (.iload_n 1, 1) := by decide +kernel
theorem dX10_deliveredIfClosed_2 : decode cX10_deliveredIfClosed 2 = .ok (.iload_n 2, 1) := by decide +kernel
theorem dX10_deliveredIfClosed_3 : decode cX10_deliveredIfClosed 3 = .ok (.invokevirtual 296, 3) := by decide +kernel
theorem dX10_deliveredIfClosed_6 : decode cX10_deliveredIfClosed 6 = .ok (.ifCond .eq 5, 3) := by decide +kernel
theorem dX10_deliveredIfClosed_9 : decode cX10_deliveredIfClosed 9 = .ok (.iconst 0, 1) := by decide +kernel
theorem dX10_deliveredIfClosed_10 : decode cX10_deliveredIfClosed 10 = .ok (.ireturn, 1) := by decide +kernel
theorem dX10_deliveredIfClosed_11 : decode cX10_deliveredIfClosed 11 = .ok (.aload_n 0, 1) := by decide +kernel
theorem dX10_deliveredIfClosed_12 : decode cX10_deliveredIfClosed 12 = .ok (.getfield 7, 3) := by decide +kernel
theorem dX10_deliveredIfClosed_15 : decode cX10_deliveredIfClosed 15 = .ok (.iload_n 1, 1) := by decide +kernel
theorem dX10_deliveredIfClosed_16 : decode cX10_deliveredIfClosed 16 = .ok (.iload_n 2, 1) := by decide +kernel
theorem dX10_deliveredIfClosed_17 : decode cX10_deliveredIfClosed 17 = .ok (.invokestatic 128, 3) := by decide +kernel
theorem dX10_deliveredIfClosed_20 : decode cX10_deliveredIfClosed 20 = .ok (.istore 4, 2) := by decide +kernel
theorem dX10_deliveredIfClosed_22 : decode cX10_deliveredIfClosed 22 = .ok (.aload_n 0, 1) := by decide +kernel
theorem dX10_deliveredIfClosed_23 : decode cX10_deliveredIfClosed 23 = .ok (.iload 4, 2) := by decide +kernel
theorem dX10_deliveredIfClosed_25 : decode cX10_deliveredIfClosed 25 = .ok (.iconst (-1), 1) := by decide +kernel
theorem dX10_deliveredIfClosed_26 : decode cX10_deliveredIfClosed 26 = .ok (.if_icmp .ne 7, 3) := by decide +kernel
theorem dX10_deliveredIfClosed_29 : decode cX10_deliveredIfClosed 29 = .ok (.iconst 1, 1) := by decide +kernel
theorem dX10_deliveredIfClosed_30 : decode cX10_deliveredIfClosed 30 = .ok (.goto 4, 3) := by decide +kernel
theorem dX10_deliveredIfClosed_33 : decode cX10_deliveredIfClosed 33 = .ok (.iconst 0, 1) := by decide +kernel
theorem dX10_deliveredIfClosed_34 : decode cX10_deliveredIfClosed 34 = .ok (.iconst 2, 1) := by decide +kernel
theorem dX10_deliveredIfClosed_35 : decode cX10_deliveredIfClosed 35 = .ok (.invokevirtual 165, 3) := by decide +kernel
theorem dX10_deliveredIfClosed_38 : decode cX10_deliveredIfClosed 38 = .ok (.ifCond .ne 14, 3) := by decide +kernel
theorem dX10_deliveredIfClosed_41 : decode cX10_deliveredIfClosed 41 = .ok (.aload_n 0, 1) := by decide +kernel
theorem dX10_deliveredIfClosed_42 : decode cX10_deliveredIfClosed 42 = .ok (.iload_n 3, 1) := by decide +kernel
theorem dX10_deliveredIfClosed_43 : decode cX10_deliveredIfClosed 43 = .ok (.iconst 0, 1) := by decide +kernel
theorem dX10_deliveredIfClosed_44 : decode cX10_deliveredIfClosed 44 = .ok (.bipush 120, 2) := by decide +kernel
theorem dX10_deliveredIfClosed_46 : decode cX10_deliveredIfClosed 46 = .ok (.invokevirtual 293, 3) := by decide +kernel
theorem dX10_deliveredIfClosed_49 : decode cX10_deliveredIfClosed 49 = .ok (.ifCond .eq 7, 3) := by decide +kernel
theorem dX10_deliveredIfClosed_52 : decode cX10_deliveredIfClosed 52 = .ok (.iconst 0, 1) := by decide +kernel
theorem dX10_deliveredIfClosed_53 : decode cX10_deliveredIfClosed 53 = .ok (.goto 10, 3) := by decide +kernel
theorem dX10_deliveredIfClosed_56 : decode cX10_deliveredIfClosed 56 = .ok (.aload_n 0, 1) := by decide +kernel
theorem dX10_deliveredIfClosed_57 : decode cX10_deliveredIfClosed 57 = .ok (.iload 4, 2) := by decide +kernel
theorem dX10_deliveredIfClosed_59 : decode cX10_deliveredIfClosed 59 = .ok (.iload_n 3, 1) := by decide +kernel
theorem dX10_deliveredIfClosed_60 : decode cX10_deliveredIfClosed 60 = .ok (.invokevirtual 316, 3) := by decide +kernel
theorem dX10_deliveredIfClosed_63 : decode cX10_deliveredIfClosed 63 = .ok (.ireturn, 1) := by decide +kernel
theorem dX10_worstClosure_0 : decode cX10_worstClosure 0 = .ok (.aload_n 0, 1) := by decide +kernel
theorem dX10_worstClosure_1 : decode cX10_worstClosure 1 = .ok (.iconst 0, 1) := by decide +kernel
theorem dX10_worstClosure_2 : decode cX10_worstClosure 2 = .ok (.putfield 69, 3) := by decide +kernel
theorem dX10_worstClosure_5 : decode cX10_worstClosure 5 = .ok (.iconst (-1), 1) := by decide +kernel
theorem dX10_worstClosure_6 : decode cX10_worstClosure 6 = .ok (.istore_n 1, 1) := by decide +kernel
theorem dX10_worstClosure_7 : decode cX10_worstClosure 7 = .ok (.iconst 0, 1) := by decide +kernel
theorem dX10_worstClosure_8 : decode cX10_worstClosure 8 = .ok (.istore_n 2, 1) := by decide +kernel
theorem dX10_worstClosure_9 : decode cX10_worstClosure 9 = .ok (.iconst 0, 1) := by decide +kernel
theorem dX10_worstClosure_10 : decode cX10_worstClosure 10 = .ok (.istore_n 3, 1) := by decide +kernel
theorem dX10_worstClosure_11 : decode cX10_worstClosure 11 = .ok (.iload_n 3, 1) := by decide +kernel
theorem dX10_worstClosure_12 : decode cX10_worstClosure 12 = .ok (.aload_n 0, 1) := by decide +kernel
theorem dX10_worstClosure_13 : decode cX10_worstClosure 13 = .ok (.getfield 7, 3) := by decide +kernel
theorem dX10_worstClosure_16 : decode cX10_worstClosure 16 = .ok (.iconst 2, 1) := by decide +kernel
theorem dX10_worstClosure_17 : decode cX10_worstClosure 17 = .ok (.iaload, 1) := by decide +kernel
theorem dX10_worstClosure_18 : decode cX10_worstClosure 18 = .ok (.if_icmp .ge 34, 3) := by decide +kernel
theorem dX10_worstClosure_21 : decode cX10_worstClosure 21 = .ok (.aload_n 0, 1) := by decide +kernel
theorem dX10_worstClosure_22 : decode cX10_worstClosure 22 = .ok (.iload_n 3, 1) := by decide +kernel
theorem dX10_worstClosure_23 : decode cX10_worstClosure 23 = .ok (.bipush 60, 2) := by decide +kernel
theorem dX10_worstClosure_25 : decode cX10_worstClosure 25 = .ok (.invokevirtual 316, 3) := by decide +kernel
theorem dX10_worstClosure_28 : decode cX10_worstClosure 28 = .ok (.istore 4, 2) := by decide +kernel
theorem dX10_worstClosure_30 : decode cX10_worstClosure 30 = .ok (.iload_n 1, 1) := by decide +kernel
theorem dX10_worstClosure_31 : decode cX10_worstClosure 31 = .ok (.iconst (-1), 1) := by decide +kernel
theorem dX10_worstClosure_32 : decode cX10_worstClosure 32 = .ok (.if_icmp .eq 9, 3) := by decide +kernel
theorem dX10_worstClosure_35 : decode cX10_worstClosure 35 = .ok (.iload 4, 2) := by decide +kernel
theorem dX10_worstClosure_37 : decode cX10_worstClosure 37 = .ok (.iload_n 2, 1) := by decide +kernel
theorem dX10_worstClosure_38 : decode cX10_worstClosure 38 = .ok (.if_icmp .ge 8, 3) := by decide +kernel
theorem dX10_worstClosure_41 : decode cX10_worstClosure 41 = .ok (.iload_n 3, 1) := by decide +kernel
theorem dX10_worstClosure_42 : decode cX10_worstClosure 42 = .ok (.istore_n 1, 1) := by decide +kernel
theorem dX10_worstClosure_43 : decode cX10_worstClosure 43 = .ok (.iload 4, 2) := by decide +kernel
theorem dX10_worstClosure_45 : decode cX10_worstClosure 45 = .ok (.istore_n 2, 1) := by decide +kernel
theorem dX10_worstClosure_46 : decode cX10_worstClosure 46 = .ok (.iinc 3 1, 3) := by decide +kernel
theorem dX10_worstClosure_49 : decode cX10_worstClosure 49 = .ok (.goto (-38), 3) := by decide +kernel
theorem dX10_worstClosure_52 : decode cX10_worstClosure 52 = .ok (.iload_n 1, 1) := by decide +kernel
theorem dX10_worstClosure_53 : decode cX10_worstClosure 53 = .ok (.ireturn, 1) := by decide +kernel
theorem dX10_pass_0 : decode cX10_pass 0 = .ok (.aload_n 0, 1) := by decide +kernel
theorem dX10_pass_1 : decode cX10_pass 1 = .ok (.iload_n 1, 1) := by decide +kernel
theorem dX10_pass_2 : decode cX10_pass 2 = .ok (.iconst 1, 1) := by decide +kernel
theorem dX10_pass_3 : decode cX10_pass 3 = .ok (.bipush 60, 2) := by decide +kernel
theorem dX10_pass_5 : decode cX10_pass 5 = .ok (.invokevirtual 173, 3) := by decide +kernel
theorem dX10_pass_8 : decode cX10_pass 8 = .ok (.ifCond .eq 5, 3) := by decide +kernel
theorem dX10_pass_11 : decode cX10_pass 11 = .ok (.iconst 0, 1) := by decide +kernel
theorem dX10_pass_12 : decode cX10_pass 12 = .ok (.ireturn, 1) := by decide +kernel
theorem dX10_pass_13 : decode cX10_pass 13 = .ok (.aload_n 0, 1) := by decide +kernel
theorem dX10_pass_14 : decode cX10_pass 14 = .ok (.invokevirtual 277, 3) := by decide +kernel
theorem dX10_pass_17 : decode cX10_pass 17 = .ok (.aload_n 0, 1) := by decide +kernel
theorem dX10_pass_18 : decode cX10_pass 18 = .ok (.getfield 7, 3) := by decide +kernel
theorem dX10_pass_21 : decode cX10_pass 21 = .ok (.invokestatic 309, 3) := by decide +kernel
theorem dX10_pass_24 : decode cX10_pass 24 = .ok (.istore_n 2, 1) := by decide +kernel
theorem dX10_pass_25 : decode cX10_pass 25 = .ok (.aload_n 0, 1) := by decide +kernel
theorem dX10_pass_26 : decode cX10_pass 26 = .ok (.aload_n 0, 1) := by decide +kernel
theorem dX10_pass_27 : decode cX10_pass 27 = .ok (.getfield 7, 3) := by decide +kernel
theorem dX10_pass_30 : decode cX10_pass 30 = .ok (.iload_n 1, 1) := by decide +kernel
theorem dX10_pass_31 : decode cX10_pass 31 = .ok (.invokevirtual 230, 3) := by decide +kernel
theorem dX10_pass_34 : decode cX10_pass 34 = .ok (.aload_n 0, 1) := by decide +kernel
theorem dX10_pass_35 : decode cX10_pass 35 = .ok (.getfield 7, 3) := by decide +kernel
theorem dX10_pass_38 : decode cX10_pass 38 = .ok (.invokestatic 309, 3) := by decide +kernel
theorem dX10_pass_41 : decode cX10_pass 41 = .ok (.iload_n 2, 1) := by decide +kernel
theorem dX10_pass_42 : decode cX10_pass 42 = .ok (.isub, 1) := by decide +kernel
theorem dX10_pass_43 : decode cX10_pass 43 = .ok (.ireturn, 1) := by decide +kernel
theorem dX10_addParcel_0 : decode cX10_addParcel 0 = .ok (.aload_n 0, 1) := by decide +kernel
theorem dX10_addParcel_1 : decode cX10_addParcel 1 = .ok (.iload_n 1, 1) := by decide +kernel
theorem dX10_addParcel_2 : decode cX10_addParcel 2 = .ok (.iload_n 2, 1) := by decide +kernel
theorem dX10_addParcel_3 : decode cX10_addParcel 3 = .ok (.invokevirtual 296, 3) := by decide +kernel
theorem dX10_addParcel_6 : decode cX10_addParcel 6 = .ok (.ifCond .ne 56, 3) := by decide +kernel
theorem dX10_addParcel_9 : decode cX10_addParcel 9 = .ok (.aload_n 0, 1) := by decide +kernel
theorem dX10_addParcel_10 : decode cX10_addParcel 10 = .ok (.iload_n 1, 1) := by decide +kernel
theorem dX10_addParcel_11 : decode cX10_addParcel 11 = .ok (.iload_n 2, 1) := by decide +kernel
theorem dX10_addParcel_12 : decode cX10_addParcel 12 = .ok (.if_icmp .ne 7, 3) := by decide +kernel
theorem dX10_addParcel_15 : decode cX10_addParcel 15 = .ok (.iconst 1, 1) := by decide +kernel
theorem dX10_addParcel_16 : decode cX10_addParcel 16 = .ok (.goto 4, 3) := by decide +kernel
theorem dX10_addParcel_19 : decode cX10_addParcel 19 = .ok (.iconst 0, 1) := by decide +kernel
theorem dX10_addParcel_20 : decode cX10_addParcel 20 = .ok (.iconst 2, 1) := by decide +kernel
theorem dX10_addParcel_21 : decode cX10_addParcel 21 = .ok (.invokevirtual 165, 3) := by decide +kernel
theorem dX10_addParcel_24 : decode cX10_addParcel 24 = .ok (.ifCond .ne 38, 3) := by decide +kernel
theorem dX10_addParcel_27 : decode cX10_addParcel 27 = .ok (.aload_n 0, 1) := by decide +kernel
theorem dX10_addParcel_28 : decode cX10_addParcel 28 = .ok (.iload_n 3, 1) := by decide +kernel
theorem dX10_addParcel_29 : decode cX10_addParcel 29 = .ok (.iconst 1, 1) := by decide +kernel
theorem dX10_addParcel_30 : decode cX10_addParcel 30 = .ok (.bipush 9, 2) := by decide +kernel
theorem dX10_addParcel_32 : decode cX10_addParcel 32 = .ok (.invokevirtual 293, 3) := by decide +kernel
theorem dX10_addParcel_35 : decode cX10_addParcel 35 = .ok (.ifCond .ne 27, 3) := by decide +kernel
theorem dX10_addParcel_38 : decode cX10_addParcel 38 = .ok (.aload_n 0, 1) := by decide +kernel
theorem dX10_addParcel_39 : decode cX10_addParcel 39 = .ok (.aload_n 0, 1) := by decide +kernel
theorem dX10_addParcel_40 : decode cX10_addParcel 40 = .ok (.getfield 7, 3) := by decide +kernel
theorem dX10_addParcel_43 : decode cX10_addParcel 43 = .ok (.iconst 4, 1) := by decide +kernel
theorem dX10_addParcel_44 : decode cX10_addParcel 44 = .ok (.iaload, 1) := by decide +kernel
theorem dX10_addParcel_45 : decode cX10_addParcel 45 = .ok (.bipush 12, 2) := by decide +kernel
theorem dX10_addParcel_47 : decode cX10_addParcel 47 = .ok (.if_icmp .ne 7, 3) := by decide +kernel
theorem dX10_addParcel_50 : decode cX10_addParcel 50 = .ok (.iconst 1, 1) := by decide +kernel
theorem dX10_addParcel_51 : decode cX10_addParcel 51 = .ok (.goto 4, 3) := by decide +kernel
theorem dX10_addParcel_54 : decode cX10_addParcel 54 = .ok (.iconst 0, 1) := by decide +kernel
theorem dX10_addParcel_55 : decode cX10_addParcel 55 = .ok (.iconst 3, 1) := by decide +kernel
theorem dX10_addParcel_56 : decode cX10_addParcel 56 = .ok (.invokevirtual 165, 3) := by decide +kernel
theorem dX10_addParcel_59 : decode cX10_addParcel 59 = .ok (.ifCond .eq 5, 3) := by decide +kernel
theorem dX10_addParcel_62 : decode cX10_addParcel 62 = .ok (.iconst 0, 1) := by decide +kernel
theorem dX10_addParcel_63 : decode cX10_addParcel 63 = .ok (.ireturn, 1) := by decide +kernel
theorem dX10_addParcel_64 : decode cX10_addParcel 64 = .ok (.aload_n 0, 1) := by decide +kernel
theorem dX10_addParcel_65 : decode cX10_addParcel 65 = .ok (.invokevirtual 277, 3) := by decide +kernel
theorem dX10_addParcel_68 : decode cX10_addParcel 68 = .ok (.aload_n 0, 1) := by decide +kernel
theorem dX10_addParcel_69 : decode cX10_addParcel 69 = .ok (.getfield 7, 3) := by decide +kernel
theorem dX10_addParcel_72 : decode cX10_addParcel 72 = .ok (.iload_n 1, 1) := by decide +kernel
theorem dX10_addParcel_73 : decode cX10_addParcel 73 = .ok (.iload_n 2, 1) := by decide +kernel
theorem dX10_addParcel_74 : decode cX10_addParcel 74 = .ok (.iload_n 3, 1) := by decide +kernel
theorem dX10_addParcel_75 : decode cX10_addParcel 75 = .ok (.invokestatic 226, 3) := by decide +kernel
theorem dX10_addParcel_78 : decode cX10_addParcel 78 = .ok (.ireturn, 1) := by decide +kernel
theorem dX10_setTrackOpen_0 : decode cX10_setTrackOpen 0 = .ok (.aload_n 0, 1) := by decide +kernel
theorem dX10_setTrackOpen_1 : decode cX10_setTrackOpen 1 = .ok (.iload_n 1, 1) := by decide +kernel
theorem dX10_setTrackOpen_2 : decode cX10_setTrackOpen 2 = .ok (.iload_n 2, 1) := by decide +kernel
theorem dX10_setTrackOpen_3 : decode cX10_setTrackOpen 3 = .ok (.invokevirtual 296, 3) := by decide +kernel
theorem dX10_setTrackOpen_6 : decode cX10_setTrackOpen 6 = .ok (.ifCond .eq 5, 3) := by decide +kernel
theorem dX10_setTrackOpen_9 : decode cX10_setTrackOpen 9 = .ok (.iconst 0, 1) := by decide +kernel
theorem dX10_setTrackOpen_10 : decode cX10_setTrackOpen 10 = .ok (.ireturn, 1) := by decide +kernel
theorem dX10_setTrackOpen_11 : decode cX10_setTrackOpen 11 = .ok (.aload_n 0, 1) := by decide +kernel
theorem dX10_setTrackOpen_12 : decode cX10_setTrackOpen 12 = .ok (.getfield 7, 3) := by decide +kernel
theorem dX10_setTrackOpen_15 : decode cX10_setTrackOpen 15 = .ok (.iload_n 1, 1) := by decide +kernel
theorem dX10_setTrackOpen_16 : decode cX10_setTrackOpen 16 = .ok (.iload_n 2, 1) := by decide +kernel
theorem dX10_setTrackOpen_17 : decode cX10_setTrackOpen 17 = .ok (.invokestatic 128, 3) := by decide +kernel
theorem dX10_setTrackOpen_20 : decode cX10_setTrackOpen 20 = .ok (.istore 4, 2) := by decide +kernel
theorem dX10_setTrackOpen_22 : decode cX10_setTrackOpen 22 = .ok (.aload_n 0, 1) := by decide +kernel
theorem dX10_setTrackOpen_23 : decode cX10_setTrackOpen 23 = .ok (.iload 4, 2) := by decide +kernel
theorem dX10_setTrackOpen_25 : decode cX10_setTrackOpen 25 = .ok (.iconst (-1), 1) := by decide +kernel
theorem dX10_setTrackOpen_26 : decode cX10_setTrackOpen 26 = .ok (.if_icmp .ne 7, 3) := by decide +kernel
theorem dX10_setTrackOpen_29 : decode cX10_setTrackOpen 29 = .ok (.iconst 1, 1) := by decide +kernel
theorem dX10_setTrackOpen_30 : decode cX10_setTrackOpen 30 = .ok (.goto 4, 3) := by decide +kernel
theorem dX10_setTrackOpen_33 : decode cX10_setTrackOpen 33 = .ok (.iconst 0, 1) := by decide +kernel
theorem dX10_setTrackOpen_34 : decode cX10_setTrackOpen 34 = .ok (.iconst 2, 1) := by decide +kernel
theorem dX10_setTrackOpen_35 : decode cX10_setTrackOpen 35 = .ok (.invokevirtual 165, 3) := by decide +kernel
theorem dX10_setTrackOpen_38 : decode cX10_setTrackOpen 38 = .ok (.ifCond .eq 5, 3) := by decide +kernel
theorem dX10_setTrackOpen_41 : decode cX10_setTrackOpen 41 = .ok (.iconst 0, 1) := by decide +kernel
theorem dX10_setTrackOpen_42 : decode cX10_setTrackOpen 42 = .ok (.ireturn, 1) := by decide +kernel
theorem dX10_setTrackOpen_43 : decode cX10_setTrackOpen 43 = .ok (.aload_n 0, 1) := by decide +kernel
theorem dX10_setTrackOpen_44 : decode cX10_setTrackOpen 44 = .ok (.invokevirtual 277, 3) := by decide +kernel
theorem dX10_setTrackOpen_47 : decode cX10_setTrackOpen 47 = .ok (.aload_n 0, 1) := by decide +kernel
theorem dX10_setTrackOpen_48 : decode cX10_setTrackOpen 48 = .ok (.getfield 7, 3) := by decide +kernel
theorem dX10_setTrackOpen_51 : decode cX10_setTrackOpen 51 = .ok (.iload 4, 2) := by decide +kernel
theorem dX10_setTrackOpen_53 : decode cX10_setTrackOpen 53 = .ok (.invokestatic 131, 3) := by decide +kernel
theorem dX10_setTrackOpen_56 : decode cX10_setTrackOpen 56 = .ok (.istore 5, 2) := by decide +kernel
theorem dX10_setTrackOpen_58 : decode cX10_setTrackOpen 58 = .ok (.aload_n 0, 1) := by decide +kernel
theorem dX10_setTrackOpen_59 : decode cX10_setTrackOpen 59 = .ok (.getfield 7, 3) := by decide +kernel
theorem dX10_setTrackOpen_62 : decode cX10_setTrackOpen 62 = .ok (.iload 4, 2) := by decide +kernel
theorem dX10_setTrackOpen_64 : decode cX10_setTrackOpen 64 = .ok (.invokestatic 72, 3) := by decide +kernel
theorem dX10_setTrackOpen_67 : decode cX10_setTrackOpen 67 = .ok (.iconst 3, 1) := by decide +kernel
theorem dX10_setTrackOpen_68 : decode cX10_setTrackOpen 68 = .ok (.iadd, 1) := by decide +kernel
theorem dX10_setTrackOpen_69 : decode cX10_setTrackOpen 69 = .ok (.iload_n 3, 1) := by decide +kernel
theorem dX10_setTrackOpen_70 : decode cX10_setTrackOpen 70 = .ok (.ifCond .eq 7, 3) := by decide +kernel
theorem dX10_setTrackOpen_73 : decode cX10_setTrackOpen 73 = .ok (.iconst 1, 1) := by decide +kernel
theorem dX10_setTrackOpen_74 : decode cX10_setTrackOpen 74 = .ok (.goto 4, 3) := by decide +kernel
theorem dX10_setTrackOpen_77 : decode cX10_setTrackOpen 77 = .ok (.iconst 0, 1) := by decide +kernel
theorem dX10_setTrackOpen_78 : decode cX10_setTrackOpen 78 = .ok (.iastore, 1) := by decide +kernel
theorem dX10_setTrackOpen_79 : decode cX10_setTrackOpen 79 = .ok (.iload 5, 2) := by decide +kernel
theorem dX10_setTrackOpen_81 : decode cX10_setTrackOpen 81 = .ok (.ireturn, 1) := by decide +kernel
theorem dX10_lay_0 : decode cX10_lay 0 = .ok (.aload_n 0, 1) := by decide +kernel
theorem dX10_lay_1 : decode cX10_lay 1 = .ok (.invokevirtual 277, 3) := by decide +kernel
theorem dX10_lay_4 : decode cX10_lay 4 = .ok (.aload_n 0, 1) := by decide +kernel
theorem dX10_lay_5 : decode cX10_lay 5 = .ok (.getfield 7, 3) := by decide +kernel
theorem dX10_lay_8 : decode cX10_lay 8 = .ok (.iload_n 1, 1) := by decide +kernel
theorem dX10_lay_9 : decode cX10_lay 9 = .ok (.iaload, 1) := by decide +kernel
theorem dX10_lay_10 : decode cX10_lay 10 = .ok (.istore_n 3, 1) := by decide +kernel
theorem dX10_lay_11 : decode cX10_lay 11 = .ok (.aload_n 0, 1) := by decide +kernel
theorem dX10_lay_12 : decode cX10_lay 12 = .ok (.getfield 7, 3) := by decide +kernel
theorem dX10_lay_15 : decode cX10_lay 15 = .ok (.iload_n 1, 1) := by decide +kernel
theorem dX10_lay_16 : decode cX10_lay 16 = .ok (.iload_n 2, 1) := by decide +kernel
theorem dX10_lay_17 : decode cX10_lay 17 = .ok (.iastore, 1) := by decide +kernel
theorem dX10_lay_18 : decode cX10_lay 18 = .ok (.iload_n 3, 1) := by decide +kernel
theorem dX10_lay_19 : decode cX10_lay 19 = .ok (.ireturn, 1) := by decide +kernel
theorem dX10_setPriority_0 : decode cX10_setPriority 0 = .ok (.aload_n 0, 1) := by decide +kernel
theorem dX10_setPriority_1 : decode cX10_setPriority 1 = .ok (.iload_n 1, 1) := by decide +kernel
theorem dX10_setPriority_2 : decode cX10_setPriority 2 = .ok (.invokevirtual 303, 3) := by decide +kernel
theorem dX10_setPriority_5 : decode cX10_setPriority 5 = .ok (.ifCond .ne 14, 3) := by decide +kernel
theorem dX10_setPriority_8 : decode cX10_setPriority 8 = .ok (.aload_n 0, 1) := by decide +kernel
theorem dX10_setPriority_9 : decode cX10_setPriority 9 = .ok (.iload_n 2, 1) := by decide +kernel
theorem dX10_setPriority_10 : decode cX10_setPriority 10 = .ok (.iconst 1, 1) := by decide +kernel
theorem dX10_setPriority_11 : decode cX10_setPriority 11 = .ok (.bipush 9, 2) := by decide +kernel
theorem dX10_setPriority_13 : decode cX10_setPriority 13 = .ok (.invokevirtual 293, 3) := by decide +kernel
theorem dX10_setPriority_16 : decode cX10_setPriority 16 = .ok (.ifCond .eq 7, 3) := by decide +kernel
theorem dX10_setPriority_19 : decode cX10_setPriority 19 = .ok (.iconst 0, 1) := by decide +kernel
theorem dX10_setPriority_20 : decode cX10_setPriority 20 = .ok (.goto 14, 3) := by decide +kernel
theorem dX10_setPriority_23 : decode cX10_setPriority 23 = .ok (.aload_n 0, 1) := by decide +kernel
theorem dX10_setPriority_24 : decode cX10_setPriority 24 = .ok (.iload_n 1, 1) := by decide +kernel
theorem dX10_setPriority_25 : decode cX10_setPriority 25 = .ok (.invokestatic 88, 3) := by decide +kernel
theorem dX10_setPriority_28 : decode cX10_setPriority 28 = .ok (.iconst 2, 1) := by decide +kernel
theorem dX10_setPriority_29 : decode cX10_setPriority 29 = .ok (.iadd, 1) := by decide +kernel
theorem dX10_setPriority_30 : decode cX10_setPriority 30 = .ok (.iload_n 2, 1) := by decide +kernel
theorem dX10_setPriority_31 : decode cX10_setPriority 31 = .ok (.invokevirtual 319, 3) := by decide +kernel
theorem dX10_setPriority_34 : decode cX10_setPriority 34 = .ok (.ireturn, 1) := by decide +kernel
theorem dX10_setInspection_0 : decode cX10_setInspection 0 = .ok (.aload_n 0, 1) := by decide +kernel
theorem dX10_setInspection_1 : decode cX10_setInspection 1 = .ok (.iload_n 1, 1) := by decide +kernel
theorem dX10_setInspection_2 : decode cX10_setInspection 2 = .ok (.invokevirtual 286, 3) := by decide +kernel
theorem dX10_setInspection_5 : decode cX10_setInspection 5 = .ok (.ifCond .ne 14, 3) := by decide +kernel
theorem dX10_setInspection_8 : decode cX10_setInspection 8 = .ok (.aload_n 0, 1) := by decide +kernel
theorem dX10_setInspection_9 : decode cX10_setInspection 9 = .ok (.iload_n 2, 1) := by decide +kernel
theorem dX10_setInspection_10 : decode cX10_setInspection 10 = .ok (.iconst 0, 1) := by decide +kernel
theorem dX10_setInspection_11 : decode cX10_setInspection 11 = .ok (.bipush 9, 2) := by decide +kernel
theorem dX10_setInspection_13 : decode cX10_setInspection 13 = .ok (.invokevirtual 293, 3) := by decide +kernel
theorem dX10_setInspection_16 : decode cX10_setInspection 16 = .ok (.ifCond .eq 7, 3) := by decide +kernel
theorem dX10_setInspection_19 : decode cX10_setInspection 19 = .ok (.iconst 0, 1) := by decide +kernel
theorem dX10_setInspection_20 : decode cX10_setInspection 20 = .ok (.goto 14, 3) := by decide +kernel
theorem dX10_setInspection_23 : decode cX10_setInspection 23 = .ok (.aload_n 0, 1) := by decide +kernel
theorem dX10_setInspection_24 : decode cX10_setInspection 24 = .ok (.iload_n 1, 1) := by decide +kernel
theorem dX10_setInspection_25 : decode cX10_setInspection 25 = .ok (.invokestatic 134, 3) := by decide +kernel
theorem dX10_setInspection_28 : decode cX10_setInspection 28 = .ok (.iconst 2, 1) := by decide +kernel
theorem dX10_setInspection_29 : decode cX10_setInspection 29 = .ok (.iadd, 1) := by decide +kernel
theorem dX10_setInspection_30 : decode cX10_setInspection 30 = .ok (.iload_n 2, 1) := by decide +kernel
theorem dX10_setInspection_31 : decode cX10_setInspection 31 = .ok (.invokevirtual 319, 3) := by decide +kernel
theorem dX10_setInspection_34 : decode cX10_setInspection 34 = .ok (.ireturn, 1) := by decide +kernel
theorem dX10_withdraw_0 : decode cX10_withdraw 0 = .ok (.aload_n 0, 1) := by decide +kernel
theorem dX10_withdraw_1 : decode cX10_withdraw 1 = .ok (.iload_n 1, 1) := by decide +kernel
theorem dX10_withdraw_2 : decode cX10_withdraw 2 = .ok (.invokevirtual 303, 3) := by decide +kernel
theorem dX10_withdraw_5 : decode cX10_withdraw 5 = .ok (.ifCond .ne 31, 3) := by decide +kernel
theorem dX10_withdraw_8 : decode cX10_withdraw 8 = .ok (.aload_n 0, 1) := by decide +kernel
theorem dX10_withdraw_9 : decode cX10_withdraw 9 = .ok (.aload_n 0, 1) := by decide +kernel
theorem dX10_withdraw_10 : decode cX10_withdraw 10 = .ok (.getfield 7, 3) := by decide +kernel
theorem dX10_withdraw_13 : decode cX10_withdraw 13 = .ok (.iload_n 1, 1) := by decide +kernel
theorem dX10_withdraw_14 : decode cX10_withdraw 14 = .ok (.invokestatic 88, 3) := by decide +kernel
theorem dX10_withdraw_17 : decode cX10_withdraw 17 = .ok (.iconst 3, 1) := by decide +kernel
theorem dX10_withdraw_18 : decode cX10_withdraw 18 = .ok (.iadd, 1) := by decide +kernel
theorem dX10_withdraw_19 : decode cX10_withdraw 19 = .ok (.iaload, 1) := by decide +kernel
theorem dX10_withdraw_20 : decode cX10_withdraw 20 = .ok (.iconst (-1), 1) := by decide +kernel
theorem dX10_withdraw_21 : decode cX10_withdraw 21 = .ok (.if_icmp .ne 7, 3) := by decide +kernel
theorem dX10_withdraw_24 : decode cX10_withdraw 24 = .ok (.iconst 1, 1) := by decide +kernel
theorem dX10_withdraw_25 : decode cX10_withdraw 25 = .ok (.goto 4, 3) := by decide +kernel
theorem dX10_withdraw_28 : decode cX10_withdraw 28 = .ok (.iconst 0, 1) := by decide +kernel
theorem dX10_withdraw_29 : decode cX10_withdraw 29 = .ok (.iconst 2, 1) := by decide +kernel
theorem dX10_withdraw_30 : decode cX10_withdraw 30 = .ok (.invokevirtual 165, 3) := by decide +kernel
theorem dX10_withdraw_33 : decode cX10_withdraw 33 = .ok (.ifCond .eq 5, 3) := by decide +kernel
theorem dX10_withdraw_36 : decode cX10_withdraw 36 = .ok (.iconst 0, 1) := by decide +kernel
theorem dX10_withdraw_37 : decode cX10_withdraw 37 = .ok (.ireturn, 1) := by decide +kernel
theorem dX10_withdraw_38 : decode cX10_withdraw 38 = .ok (.aload_n 0, 1) := by decide +kernel
theorem dX10_withdraw_39 : decode cX10_withdraw 39 = .ok (.invokevirtual 277, 3) := by decide +kernel
theorem dX10_withdraw_42 : decode cX10_withdraw 42 = .ok (.iload_n 1, 1) := by decide +kernel
theorem dX10_withdraw_43 : decode cX10_withdraw 43 = .ok (.invokestatic 88, 3) := by decide +kernel
theorem dX10_withdraw_46 : decode cX10_withdraw 46 = .ok (.istore_n 2, 1) := by decide +kernel
theorem dX10_withdraw_47 : decode cX10_withdraw 47 = .ok (.aload_n 0, 1) := by decide +kernel
theorem dX10_withdraw_48 : decode cX10_withdraw 48 = .ok (.getfield 7, 3) := by decide +kernel
theorem dX10_withdraw_51 : decode cX10_withdraw 51 = .ok (.iload_n 2, 1) := by decide +kernel
theorem dX10_withdraw_52 : decode cX10_withdraw 52 = .ok (.iconst 3, 1) := by decide +kernel
theorem dX10_withdraw_53 : decode cX10_withdraw 53 = .ok (.iadd, 1) := by decide +kernel
theorem dX10_withdraw_54 : decode cX10_withdraw 54 = .ok (.iaload, 1) := by decide +kernel
theorem dX10_withdraw_55 : decode cX10_withdraw 55 = .ok (.istore_n 3, 1) := by decide +kernel
theorem dX10_withdraw_56 : decode cX10_withdraw 56 = .ok (.iload_n 3, 1) := by decide +kernel
theorem dX10_withdraw_57 : decode cX10_withdraw 57 = .ok (.aload_n 0, 1) := by decide +kernel
theorem dX10_withdraw_58 : decode cX10_withdraw 58 = .ok (.getfield 7, 3) := by decide +kernel
theorem dX10_withdraw_61 : decode cX10_withdraw 61 = .ok (.iload_n 2, 1) := by decide +kernel
theorem dX10_withdraw_62 : decode cX10_withdraw 62 = .ok (.iconst 0, 1) := by decide +kernel
theorem dX10_withdraw_63 : decode cX10_withdraw 63 = .ok (.iadd, 1) := by decide +kernel
theorem dX10_withdraw_64 : decode cX10_withdraw 64 = .ok (.iaload, 1) := by decide +kernel
theorem dX10_withdraw_65 : decode cX10_withdraw 65 = .ok (.if_icmp .ne 29, 3) := by decide +kernel
theorem dX10_withdraw_68 : decode cX10_withdraw 68 = .ok (.aload_n 0, 1) := by decide +kernel
theorem dX10_withdraw_69 : decode cX10_withdraw 69 = .ok (.getfield 7, 3) := by decide +kernel
theorem dX10_withdraw_72 : decode cX10_withdraw 72 = .ok (.iload_n 2, 1) := by decide +kernel
theorem dX10_withdraw_73 : decode cX10_withdraw 73 = .ok (.iconst 3, 1) := by decide +kernel
theorem dX10_withdraw_74 : decode cX10_withdraw 74 = .ok (.iadd, 1) := by decide +kernel
theorem dX10_withdraw_75 : decode cX10_withdraw 75 = .ok (.iconst (-1), 1) := by decide +kernel
theorem dX10_withdraw_76 : decode cX10_withdraw 76 = .ok (.iastore, 1) := by decide +kernel
theorem dX10_withdraw_77 : decode cX10_withdraw 77 = .ok (.aload_n 0, 1) := by decide +kernel
theorem dX10_withdraw_78 : decode cX10_withdraw 78 = .ok (.getfield 7, 3) := by decide +kernel
theorem dX10_withdraw_81 : decode cX10_withdraw 81 = .ok (.iload_n 2, 1) := by decide +kernel
theorem dX10_withdraw_82 : decode cX10_withdraw 82 = .ok (.bipush 8, 2) := by decide +kernel
theorem dX10_withdraw_84 : decode cX10_withdraw 84 = .ok (.iadd, 1) := by decide +kernel
theorem dX10_withdraw_85 : decode cX10_withdraw 85 = .ok (.aload_n 0, 1) := by decide +kernel
theorem dX10_withdraw_86 : decode cX10_withdraw 86 = .ok (.getfield 7, 3) := by decide +kernel
theorem dX10_withdraw_89 : decode cX10_withdraw 89 = .ok (.iconst 0, 1) := by decide +kernel
theorem dX10_withdraw_90 : decode cX10_withdraw 90 = .ok (.iaload, 1) := by decide +kernel
theorem dX10_withdraw_91 : decode cX10_withdraw 91 = .ok (.iastore, 1) := by decide +kernel
theorem dX10_withdraw_92 : decode cX10_withdraw 92 = .ok (.iconst (-1), 1) := by decide +kernel
theorem dX10_withdraw_93 : decode cX10_withdraw 93 = .ok (.ireturn, 1) := by decide +kernel
theorem dX10_withdraw_94 : decode cX10_withdraw 94 = .ok (.aload_n 0, 1) := by decide +kernel
theorem dX10_withdraw_95 : decode cX10_withdraw 95 = .ok (.getfield 7, 3) := by decide +kernel
theorem dX10_withdraw_98 : decode cX10_withdraw 98 = .ok (.iload_n 2, 1) := by decide +kernel
theorem dX10_withdraw_99 : decode cX10_withdraw 99 = .ok (.iconst 1, 1) := by decide +kernel
theorem dX10_withdraw_100 : decode cX10_withdraw 100 = .ok (.iadd, 1) := by decide +kernel
theorem dX10_withdraw_101 : decode cX10_withdraw 101 = .ok (.aload_n 0, 1) := by decide +kernel
theorem dX10_withdraw_102 : decode cX10_withdraw 102 = .ok (.getfield 7, 3) := by decide +kernel
theorem dX10_withdraw_105 : decode cX10_withdraw 105 = .ok (.iload_n 2, 1) := by decide +kernel
theorem dX10_withdraw_106 : decode cX10_withdraw 106 = .ok (.iconst 0, 1) := by decide +kernel
theorem dX10_withdraw_107 : decode cX10_withdraw 107 = .ok (.iadd, 1) := by decide +kernel
theorem dX10_withdraw_108 : decode cX10_withdraw 108 = .ok (.iaload, 1) := by decide +kernel
theorem dX10_withdraw_109 : decode cX10_withdraw 109 = .ok (.iastore, 1) := by decide +kernel
theorem dX10_withdraw_110 : decode cX10_withdraw 110 = .ok (.aload_n 0, 1) := by decide +kernel
theorem dX10_withdraw_111 : decode cX10_withdraw 111 = .ok (.getfield 7, 3) := by decide +kernel
theorem dX10_withdraw_114 : decode cX10_withdraw 114 = .ok (.iload_n 2, 1) := by decide +kernel
theorem dX10_withdraw_115 : decode cX10_withdraw 115 = .ok (.iconst 0, 1) := by decide +kernel
theorem dX10_withdraw_116 : decode cX10_withdraw 116 = .ok (.iadd, 1) := by decide +kernel
theorem dX10_withdraw_117 : decode cX10_withdraw 117 = .ok (.iload_n 3, 1) := by decide +kernel
theorem dX10_withdraw_118 : decode cX10_withdraw 118 = .ok (.iastore, 1) := by decide +kernel
theorem dX10_withdraw_119 : decode cX10_withdraw 119 = .ok (.aload_n 0, 1) := by decide +kernel
theorem dX10_withdraw_120 : decode cX10_withdraw 120 = .ok (.getfield 7, 3) := by decide +kernel
theorem dX10_withdraw_123 : decode cX10_withdraw 123 = .ok (.iload_n 2, 1) := by decide +kernel
theorem dX10_withdraw_124 : decode cX10_withdraw 124 = .ok (.bipush 7, 2) := by decide +kernel
theorem dX10_withdraw_126 : decode cX10_withdraw 126 = .ok (.iadd, 1) := by decide +kernel
theorem dX10_withdraw_127 : decode cX10_withdraw 127 = .ok (.iconst 0, 1) := by decide +kernel
theorem dX10_withdraw_128 : decode cX10_withdraw 128 = .ok (.iastore, 1) := by decide +kernel
theorem dX10_withdraw_129 : decode cX10_withdraw 129 = .ok (.aload_n 0, 1) := by decide +kernel
theorem dX10_withdraw_130 : decode cX10_withdraw 130 = .ok (.getfield 7, 3) := by decide +kernel
theorem dX10_withdraw_133 : decode cX10_withdraw 133 = .ok (.iload_n 2, 1) := by decide +kernel
theorem dX10_withdraw_134 : decode cX10_withdraw 134 = .ok (.iconst 1, 1) := by decide +kernel
theorem dX10_withdraw_135 : decode cX10_withdraw 135 = .ok (.iadd, 1) := by decide +kernel
theorem dX10_withdraw_136 : decode cX10_withdraw 136 = .ok (.iaload, 1) := by decide +kernel
theorem dX10_withdraw_137 : decode cX10_withdraw 137 = .ok (.ireturn, 1) := by decide +kernel
theorem dX10_save_0 : decode cX10_save 0 = .ok (.aload_n 0, 1) := by decide +kernel
theorem dX10_save_1 : decode cX10_save 1 = .ok (.iload_n 1, 1) := by decide +kernel
theorem dX10_save_2 : decode cX10_save 2 = .ok (.iconst 0, 1) := by decide +kernel
theorem dX10_save_3 : decode cX10_save 3 = .ok (.iconst 1, 1) := by decide +kernel
theorem dX10_save_4 : decode cX10_save 4 = .ok (.invokevirtual 173, 3) := by decide +kernel
theorem dX10_save_7 : decode cX10_save 7 = .ok (.ifCond .eq 5, 3) := by decide +kernel
theorem dX10_save_10 : decode cX10_save 10 = .ok (.iconst 0, 1) := by decide +kernel
theorem dX10_save_11 : decode cX10_save 11 = .ok (.ireturn, 1) := by decide +kernel
theorem dX10_save_12 : decode cX10_save 12 = .ok (.aload_n 0, 1) := by decide +kernel
theorem dX10_save_13 : decode cX10_save 13 = .ok (.getfield 7, 3) := by decide +kernel
theorem dX10_save_16 : decode cX10_save 16 = .ok (.iconst 0, 1) := by decide +kernel
theorem dX10_save_17 : decode cX10_save 17 = .ok (.aload_n 0, 1) := by decide +kernel
theorem dX10_save_18 : decode cX10_save 18 = .ok (.getfield 22, 3) := by decide +kernel
theorem dX10_save_21 : decode cX10_save 21 = .ok (.sipush 251, 3) := by decide +kernel
theorem dX10_save_24 : decode cX10_save 24 = .ok (.iload_n 1, 1) := by decide +kernel
theorem dX10_save_25 : decode cX10_save 25 = .ok (.imul, 1) := by decide +kernel
theorem dX10_save_26 : decode cX10_save 26 = .ok (.invokestatic 55, 3) := by decide +kernel
theorem dX10_save_29 : decode cX10_save 29 = .ok (.aload_n 0, 1) := by decide +kernel
theorem dX10_save_30 : decode cX10_save 30 = .ok (.getfield 25, 3) := by decide +kernel
theorem dX10_save_33 : decode cX10_save 33 = .ok (.iload_n 1, 1) := by decide +kernel
theorem dX10_save_34 : decode cX10_save 34 = .ok (.iconst 1, 1) := by decide +kernel
theorem dX10_save_35 : decode cX10_save 35 = .ok (.bastore, 1) := by decide +kernel
theorem dX10_save_36 : decode cX10_save 36 = .ok (.aload_n 0, 1) := by decide +kernel
theorem dX10_save_37 : decode cX10_save 37 = .ok (.getfield 7, 3) := by decide +kernel
theorem dX10_save_40 : decode cX10_save 40 = .ok (.iconst 0, 1) := by decide +kernel
theorem dX10_save_41 : decode cX10_save 41 = .ok (.iaload, 1) := by decide +kernel
theorem dX10_save_42 : decode cX10_save 42 = .ok (.ireturn, 1) := by decide +kernel
theorem dX10_restore_0 : decode cX10_restore 0 = .ok (.aload_n 0, 1) := by decide +kernel
theorem dX10_restore_1 : decode cX10_restore 1 = .ok (.iload_n 1, 1) := by decide +kernel
theorem dX10_restore_2 : decode cX10_restore 2 = .ok (.iconst 0, 1) := by decide +kernel
theorem dX10_restore_3 : decode cX10_restore 3 = .ok (.iconst 1, 1) := by decide +kernel
theorem dX10_restore_4 : decode cX10_restore 4 = .ok (.invokevirtual 173, 3) := by decide +kernel
theorem dX10_restore_7 : decode cX10_restore 7 = .ok (.ifCond .ne 25, 3) := by decide +kernel
theorem dX10_restore_10 : decode cX10_restore 10 = .ok (.aload_n 0, 1) := by decide +kernel
theorem dX10_restore_11 : decode cX10_restore 11 = .ok (.aload_n 0, 1) := by decide +kernel
theorem dX10_restore_12 : decode cX10_restore 12 = .ok (.getfield 25, 3) := by decide +kernel
theorem dX10_restore_15 : decode cX10_restore 15 = .ok (.iload_n 1, 1) := by decide +kernel
theorem dX10_restore_16 : decode cX10_restore 16 = .ok (.baload, 1) := by decide +kernel
theorem dX10_restore_17 : decode cX10_restore 17 = .ok (.ifCond .ne 7, 3) := by decide +kernel
theorem dX10_restore_20 : decode cX10_restore 20 = .ok (.iconst 1, 1) := by decide +kernel
theorem dX10_restore_21 : decode cX10_restore 21 = .ok (.goto 4, 3) := by decide +kernel
theorem dX10_restore_24 : decode cX10_restore 24 = .ok (.iconst 0, 1) := by decide +kernel
theorem dX10_restore_25 : decode cX10_restore 25 = .ok (.iconst 2, 1) := by decide +kernel
theorem dX10_restore_26 : decode cX10_restore 26 = .ok (.invokevirtual 165, 3) := by decide +kernel
theorem dX10_restore_29 : decode cX10_restore 29 = .ok (.ifCond .eq 5, 3) := by decide +kernel
theorem dX10_restore_32 : decode cX10_restore 32 = .ok (.iconst 0, 1) := by decide +kernel
theorem dX10_restore_33 : decode cX10_restore 33 = .ok (.ireturn, 1) := by decide +kernel
theorem dX10_restore_34 : decode cX10_restore 34 = .ok (.aload_n 0, 1) := by decide +kernel
theorem dX10_restore_35 : decode cX10_restore 35 = .ok (.invokevirtual 277, 3) := by decide +kernel
theorem dX10_restore_38 : decode cX10_restore 38 = .ok (.aload_n 0, 1) := by decide +kernel
theorem dX10_restore_39 : decode cX10_restore 39 = .ok (.getfield 22, 3) := by decide +kernel
theorem dX10_restore_42 : decode cX10_restore 42 = .ok (.sipush 251, 3) := by decide +kernel
theorem dX10_restore_45 : decode cX10_restore 45 = .ok (.iload_n 1, 1) := by decide +kernel
theorem dX10_restore_46 : decode cX10_restore 46 = .ok (.imul, 1) := by decide +kernel
theorem dX10_restore_47 : decode cX10_restore 47 = .ok (.aload_n 0, 1) := by decide +kernel
theorem dX10_restore_48 : decode cX10_restore 48 = .ok (.getfield 7, 3) := by decide +kernel
theorem dX10_restore_51 : decode cX10_restore 51 = .ok (.iconst 0, 1) := by decide +kernel
theorem dX10_restore_52 : decode cX10_restore 52 = .ok (.invokestatic 55, 3) := by decide +kernel
theorem dX10_restore_55 : decode cX10_restore 55 = .ok (.aload_n 0, 1) := by decide +kernel
theorem dX10_restore_56 : decode cX10_restore 56 = .ok (.getfield 7, 3) := by decide +kernel
theorem dX10_restore_59 : decode cX10_restore 59 = .ok (.iconst 0, 1) := by decide +kernel
theorem dX10_restore_60 : decode cX10_restore 60 = .ok (.iaload, 1) := by decide +kernel
theorem dX10_restore_61 : decode cX10_restore 61 = .ok (.ireturn, 1) := by decide +kernel
theorem dX10_print_0 : decode cX10_print 0 = .ok (.aload_n 0, 1) := by decide +kernel
theorem dX10_print_1 : decode cX10_print 1 = .ok (.getfield 39, 3) := by decide +kernel
theorem dX10_print_4 : decode cX10_print 4 = .ok (.aload_n 0, 1) := by decide +kernel
theorem dX10_print_5 : decode cX10_print 5 = .ok (.getfield 322, 3) := by decide +kernel
theorem dX10_print_8 : decode cX10_print 8 = .ok (.iload_n 1, 1) := by decide +kernel
theorem dX10_print_9 : decode cX10_print 9 = .ok (.i2b, 1) := by decide +kernel
theorem dX10_print_10 : decode cX10_print 10 = .ok (.bastore, 1) := by decide +kernel
theorem dX10_print_11 : decode cX10_print 11 = .ok (.aload_n 0, 1) := by decide +kernel
theorem dX10_print_12 : decode cX10_print 12 = .ok (.dup, 1) := by decide +kernel
theorem dX10_print_13 : decode cX10_print 13 = .ok (.getfield 322, 3) := by decide +kernel
theorem dX10_print_16 : decode cX10_print 16 = .ok (.iconst 1, 1) := by decide +kernel
theorem dX10_print_17 : decode cX10_print 17 = .ok (.iadd, 1) := by decide +kernel
theorem dX10_print_18 : decode cX10_print 18 = .ok (.putfield 322, 3) := by decide +kernel
theorem dX10_print_21 : decode cX10_print 21 = .ok (.return_, 1) := by decide +kernel
theorem dX10_letterOf_0 : decode cX10_letterOf 0 = .ok (.iload_n 0, 1) := by decide +kernel
theorem dX10_letterOf_1 : decode cX10_letterOf 1 = .ok (.istore_n 2, 1) := by decide +kernel
theorem dX10_letterOf_2 : decode cX10_letterOf 2 = .ok (.iconst 3, 1) := by decide +kernel
theorem dX10_letterOf_3 : decode cX10_letterOf 3 = .ok (.istore_n 3, 1) := by decide +kernel
theorem dX10_letterOf_4 : decode cX10_letterOf 4 = .ok (.iload_n 3, 1) := by decide +kernel
theorem dX10_letterOf_5 : decode cX10_letterOf 5 = .ok (.iload_n 1, 1) := by decide +kernel
theorem dX10_letterOf_6 : decode cX10_letterOf 6 = .ok (.if_icmp .le 14, 3) := by decide +kernel
theorem dX10_letterOf_9 : decode cX10_letterOf 9 = .ok (.iload_n 2, 1) := by decide +kernel
theorem dX10_letterOf_10 : decode cX10_letterOf 10 = .ok (.bipush 27, 2) := by decide +kernel
theorem dX10_letterOf_12 : decode cX10_letterOf 12 = .ok (.idiv, 1) := by decide +kernel
theorem dX10_letterOf_13 : decode cX10_letterOf 13 = .ok (.istore_n 2, 1) := by decide +kernel
theorem dX10_letterOf_14 : decode cX10_letterOf 14 = .ok (.iinc 3 (-1), 3) := by decide +kernel
theorem dX10_letterOf_17 : decode cX10_letterOf 17 = .ok (.goto (-13), 3) := by decide +kernel
theorem dX10_letterOf_20 : decode cX10_letterOf 20 = .ok (.iload_n 2, 1) := by decide +kernel
theorem dX10_letterOf_21 : decode cX10_letterOf 21 = .ok (.bipush 27, 2) := by decide +kernel
theorem dX10_letterOf_23 : decode cX10_letterOf 23 = .ok (.irem, 1) := by decide +kernel
theorem dX10_letterOf_24 : decode cX10_letterOf 24 = .ok (.ireturn, 1) := by decide +kernel
theorem dX10_printName_0 : decode cX10_printName 0 = .ok (.aload_n 0, 1) := by decide +kernel
theorem dX10_printName_1 : decode cX10_printName 1 = .ok (.getfield 7, 3) := by decide +kernel
theorem dX10_printName_4 : decode cX10_printName 4 = .ok (.iload_n 1, 1) := by decide +kernel
theorem dX10_printName_5 : decode cX10_printName 5 = .ok (.invokestatic 134, 3) := by decide +kernel
theorem dX10_printName_8 : decode cX10_printName 8 = .ok (.iconst 0, 1) := by decide +kernel
theorem dX10_printName_9 : decode cX10_printName 9 = .ok (.iadd, 1) := by decide +kernel
theorem dX10_printName_10 : decode cX10_printName 10 = .ok (.iaload, 1) := by decide +kernel
theorem dX10_printName_11 : decode cX10_printName 11 = .ok (.istore_n 2, 1) := by decide +kernel
theorem dX10_printName_12 : decode cX10_printName 12 = .ok (.iconst 0, 1) := by decide +kernel
theorem dX10_printName_13 : decode cX10_printName 13 = .ok (.istore_n 3, 1) := by decide +kernel
theorem dX10_printName_14 : decode cX10_printName 14 = .ok (.iload_n 3, 1) := by decide +kernel
theorem dX10_printName_15 : decode cX10_printName 15 = .ok (.iconst 4, 1) := by decide +kernel
theorem dX10_printName_16 : decode cX10_printName 16 = .ok (.if_icmp .ge 29, 3) := by decide +kernel
theorem dX10_printName_19 : decode cX10_printName 19 = .ok (.iload_n 2, 1) := by decide +kernel
theorem dX10_printName_20 : decode cX10_printName 20 = .ok (.iload_n 3, 1) := by decide +kernel
theorem dX10_printName_21 : decode cX10_printName 21 = .ok (.invokestatic 325, 3) := by decide +kernel
theorem dX10_printName_24 : decode cX10_printName 24 = .ok (.ifCond .le 21, 3) := by decide +kernel
theorem dX10_printName_27 : decode cX10_printName 27 = .ok (.aload_n 0, 1) := by decide +kernel
theorem dX10_printName_28 : decode cX10_printName 28 = .ok (.bipush 96, 2) := by decide +kernel
theorem dX10_printName_30 : decode cX10_printName 30 = .ok (.iload_n 2, 1) := by decide +kernel
theorem dX10_printName_31 : decode cX10_printName 31 = .ok (.iload_n 3, 1) := by decide +kernel
theorem dX10_printName_32 : decode cX10_printName 32 = .ok (.invokestatic 325, 3) := by decide +kernel
theorem dX10_printName_35 : decode cX10_printName 35 = .ok (.iadd, 1) := by decide +kernel
theorem dX10_printName_36 : decode cX10_printName 36 = .ok (.invokevirtual 328, 3) := by decide +kernel
theorem dX10_printName_39 : decode cX10_printName 39 = .ok (.iinc 3 1, 3) := by decide +kernel
theorem dX10_printName_42 : decode cX10_printName 42 = .ok (.goto (-28), 3) := by decide +kernel
theorem dX10_printName_45 : decode cX10_printName 45 = .ok (.return_, 1) := by decide +kernel
theorem dX10_space_0 : decode cX10_space 0 = .ok (.aload_n 0, 1) := by decide +kernel
theorem dX10_space_1 : decode cX10_space 1 = .ok (.getfield 322, 3) := by decide +kernel
theorem dX10_space_4 : decode cX10_space 4 = .ok (.ifCond .le 9, 3) := by decide +kernel
theorem dX10_space_7 : decode cX10_space 7 = .ok (.aload_n 0, 1) := by decide +kernel
theorem dX10_space_8 : decode cX10_space 8 = .ok (.bipush 32, 2) := by decide +kernel
theorem dX10_space_10 : decode cX10_space 10 = .ok (.invokevirtual 328, 3) := by decide +kernel
theorem dX10_space_13 : decode cX10_space 13 = .ok (.return_, 1) := by decide +kernel
theorem dX10_writeTrains_0 : decode cX10_writeTrains 0 = .ok (.aload_n 0, 1) := by decide +kernel
theorem dX10_writeTrains_1 : decode cX10_writeTrains 1 = .ok (.iconst 0, 1) := by decide +kernel
theorem dX10_writeTrains_2 : decode cX10_writeTrains 2 = .ok (.putfield 69, 3) := by decide +kernel
theorem dX10_writeTrains_5 : decode cX10_writeTrains 5 = .ok (.aload_n 0, 1) := by decide +kernel
theorem dX10_writeTrains_6 : decode cX10_writeTrains 6 = .ok (.iconst 0, 1) := by decide +kernel
theorem dX10_writeTrains_7 : decode cX10_writeTrains 7 = .ok (.putfield 322, 3) := by decide +kernel
theorem dX10_writeTrains_10 : decode cX10_writeTrains 10 = .ok (.iconst 0, 1) := by decide +kernel
theorem dX10_writeTrains_11 : decode cX10_writeTrains 11 = .ok (.istore_n 1, 1) := by decide +kernel
theorem dX10_writeTrains_12 : decode cX10_writeTrains 12 = .ok (.iload_n 1, 1) := by decide +kernel
theorem dX10_writeTrains_13 : decode cX10_writeTrains 13 = .ok (.aload_n 0, 1) := by decide +kernel
theorem dX10_writeTrains_14 : decode cX10_writeTrains 14 = .ok (.getfield 7, 3) := by decide +kernel
theorem dX10_writeTrains_17 : decode cX10_writeTrains 17 = .ok (.iconst 3, 1) := by decide +kernel
theorem dX10_writeTrains_18 : decode cX10_writeTrains 18 = .ok (.iaload, 1) := by decide +kernel
theorem dX10_writeTrains_19 : decode cX10_writeTrains 19 = .ok (.if_icmp .ge 75, 3) := by decide +kernel
theorem dX10_writeTrains_22 : decode cX10_writeTrains 22 = .ok (.aload_n 0, 1) := by decide +kernel
theorem dX10_writeTrains_23 : decode cX10_writeTrains 23 = .ok (.invokevirtual 331, 3) := by decide +kernel
theorem dX10_writeTrains_26 : decode cX10_writeTrains 26 = .ok (.aload_n 0, 1) := by decide +kernel
theorem dX10_writeTrains_27 : decode cX10_writeTrains 27 = .ok (.aload_n 0, 1) := by decide +kernel
theorem dX10_writeTrains_28 : decode cX10_writeTrains 28 = .ok (.getfield 7, 3) := by decide +kernel
theorem dX10_writeTrains_31 : decode cX10_writeTrains 31 = .ok (.iload_n 1, 1) := by decide +kernel
theorem dX10_writeTrains_32 : decode cX10_writeTrains 32 = .ok (.invokestatic 95, 3) := by decide +kernel
theorem dX10_writeTrains_35 : decode cX10_writeTrains 35 = .ok (.invokevirtual 334, 3) := by decide +kernel
theorem dX10_writeTrains_38 : decode cX10_writeTrains 38 = .ok (.aload_n 0, 1) := by decide +kernel
theorem dX10_writeTrains_39 : decode cX10_writeTrains 39 = .ok (.getfield 7, 3) := by decide +kernel
theorem dX10_writeTrains_42 : decode cX10_writeTrains 42 = .ok (.iload_n 1, 1) := by decide +kernel
theorem dX10_writeTrains_43 : decode cX10_writeTrains 43 = .ok (.invokestatic 149, 3) := by decide +kernel
theorem dX10_writeTrains_46 : decode cX10_writeTrains 46 = .ok (.ifCond .ne 21, 3) := by decide +kernel
theorem dX10_writeTrains_49 : decode cX10_writeTrains 49 = .ok (.aload_n 0, 1) := by decide +kernel
theorem dX10_writeTrains_50 : decode cX10_writeTrains 50 = .ok (.bipush 62, 2) := by decide +kernel
theorem dX10_writeTrains_52 : decode cX10_writeTrains 52 = .ok (.invokevirtual 328, 3) := by decide +kernel
theorem dX10_writeTrains_55 : decode cX10_writeTrains 55 = .ok (.aload_n 0, 1) := by decide +kernel
theorem dX10_writeTrains_56 : decode cX10_writeTrains 56 = .ok (.aload_n 0, 1) := by decide +kernel
theorem dX10_writeTrains_57 : decode cX10_writeTrains 57 = .ok (.getfield 7, 3) := by decide +kernel
theorem dX10_writeTrains_60 : decode cX10_writeTrains 60 = .ok (.iload_n 1, 1) := by decide +kernel
theorem dX10_writeTrains_61 : decode cX10_writeTrains 61 = .ok (.invokestatic 125, 3) := by decide +kernel
theorem dX10_writeTrains_64 : decode cX10_writeTrains 64 = .ok (.invokevirtual 334, 3) := by decide +kernel
theorem dX10_writeTrains_67 : decode cX10_writeTrains 67 = .ok (.aload_n 0, 1) := by decide +kernel
theorem dX10_writeTrains_68 : decode cX10_writeTrains 68 = .ok (.bipush 58, 2) := by decide +kernel
theorem dX10_writeTrains_70 : decode cX10_writeTrains 70 = .ok (.invokevirtual 328, 3) := by decide +kernel
theorem dX10_writeTrains_73 : decode cX10_writeTrains 73 = .ok (.aload_n 0, 1) := by decide +kernel
theorem dX10_writeTrains_74 : decode cX10_writeTrains 74 = .ok (.bipush 48, 2) := by decide +kernel
theorem dX10_writeTrains_76 : decode cX10_writeTrains 76 = .ok (.aload_n 0, 1) := by decide +kernel
theorem dX10_writeTrains_77 : decode cX10_writeTrains 77 = .ok (.getfield 7, 3) := by decide +kernel
theorem dX10_writeTrains_80 : decode cX10_writeTrains 80 = .ok (.iload_n 1, 1) := by decide +kernel
theorem dX10_writeTrains_81 : decode cX10_writeTrains 81 = .ok (.invokestatic 116, 3) := by decide +kernel
theorem dX10_writeTrains_84 : decode cX10_writeTrains 84 = .ok (.iadd, 1) := by decide +kernel
theorem dX10_writeTrains_85 : decode cX10_writeTrains 85 = .ok (.invokevirtual 328, 3) := by decide +kernel
theorem dX10_writeTrains_88 : decode cX10_writeTrains 88 = .ok (.iinc 1 1, 3) := by decide +kernel
theorem dX10_writeTrains_91 : decode cX10_writeTrains 91 = .ok (.goto (-79), 3) := by decide +kernel
theorem dX10_writeTrains_94 : decode cX10_writeTrains 94 = .ok (.aload_n 0, 1) := by decide +kernel
theorem dX10_writeTrains_95 : decode cX10_writeTrains 95 = .ok (.getfield 322, 3) := by decide +kernel
theorem dX10_writeTrains_98 : decode cX10_writeTrains 98 = .ok (.ireturn, 1) := by decide +kernel
theorem dX10_writeParcels_0 : decode cX10_writeParcels 0 = .ok (.aload_n 0, 1) := by decide +kernel
theorem dX10_writeParcels_1 : decode cX10_writeParcels 1 = .ok (.iconst 0, 1) := by decide +kernel
theorem dX10_writeParcels_2 : decode cX10_writeParcels 2 = .ok (.putfield 69, 3) := by decide +kernel
theorem dX10_writeParcels_5 : decode cX10_writeParcels 5 = .ok (.aload_n 0, 1) := by decide +kernel
theorem dX10_writeParcels_6 : decode cX10_writeParcels 6 = .ok (.iconst 0, 1) := by decide +kernel
theorem dX10_writeParcels_7 : decode cX10_writeParcels 7 = .ok (.putfield 322, 3) := by decide +kernel
theorem dX10_writeParcels_10 : decode cX10_writeParcels 10 = .ok (.iconst 0, 1) := by decide +kernel
theorem dX10_writeParcels_11 : decode cX10_writeParcels 11 = .ok (.istore_n 1, 1) := by decide +kernel
theorem dX10_writeParcels_12 : decode cX10_writeParcels 12 = .ok (.iload_n 1, 1) := by decide +kernel
theorem dX10_writeParcels_13 : decode cX10_writeParcels 13 = .ok (.aload_n 0, 1) := by decide +kernel
theorem dX10_writeParcels_14 : decode cX10_writeParcels 14 = .ok (.getfield 7, 3) := by decide +kernel
theorem dX10_writeParcels_17 : decode cX10_writeParcels 17 = .ok (.iconst 4, 1) := by decide +kernel
theorem dX10_writeParcels_18 : decode cX10_writeParcels 18 = .ok (.iaload, 1) := by decide +kernel
theorem dX10_writeParcels_19 : decode cX10_writeParcels 19 = .ok (.if_icmp .ge 93, 3) := by decide +kernel
theorem dX10_writeParcels_22 : decode cX10_writeParcels 22 = .ok (.iload_n 1, 1) := by decide +kernel
theorem dX10_writeParcels_23 : decode cX10_writeParcels 23 = .ok (.invokestatic 88, 3) := by decide +kernel
theorem dX10_writeParcels_26 : decode cX10_writeParcels 26 = .ok (.istore_n 2, 1) := by decide +kernel
theorem dX10_writeParcels_27 : decode cX10_writeParcels 27 = .ok (.aload_n 0, 1) := by decide +kernel
theorem dX10_writeParcels_28 : decode cX10_writeParcels 28 = .ok (.invokevirtual 331, 3) := by decide +kernel
theorem dX10_writeParcels_31 : decode cX10_writeParcels 31 = .ok (.aload_n 0, 1) := by decide +kernel
theorem dX10_writeParcels_32 : decode cX10_writeParcels 32 = .ok (.getfield 7, 3) := by decide +kernel
theorem dX10_writeParcels_35 : decode cX10_writeParcels 35 = .ok (.iload_n 2, 1) := by decide +kernel
theorem dX10_writeParcels_36 : decode cX10_writeParcels 36 = .ok (.iconst 3, 1) := by decide +kernel
theorem dX10_writeParcels_37 : decode cX10_writeParcels 37 = .ok (.iadd, 1) := by decide +kernel
theorem dX10_writeParcels_38 : decode cX10_writeParcels 38 = .ok (.iaload, 1) := by decide +kernel
theorem dX10_writeParcels_39 : decode cX10_writeParcels 39 = .ok (.iconst (-1), 1) := by decide +kernel
theorem dX10_writeParcels_40 : decode cX10_writeParcels 40 = .ok (.if_icmp .eq 24, 3) := by decide +kernel
theorem dX10_writeParcels_43 : decode cX10_writeParcels 43 = .ok (.aload_n 0, 1) := by decide +kernel
theorem dX10_writeParcels_44 : decode cX10_writeParcels 44 = .ok (.bipush 64, 2) := by decide +kernel
theorem dX10_writeParcels_46 : decode cX10_writeParcels 46 = .ok (.invokevirtual 328, 3) := by decide +kernel
theorem dX10_writeParcels_49 : decode cX10_writeParcels 49 = .ok (.aload_n 0, 1) := by decide +kernel
theorem dX10_writeParcels_50 : decode cX10_writeParcels 50 = .ok (.aload_n 0, 1) := by decide +kernel
theorem dX10_writeParcels_51 : decode cX10_writeParcels 51 = .ok (.getfield 7, 3) := by decide +kernel
theorem dX10_writeParcels_54 : decode cX10_writeParcels 54 = .ok (.iload_n 2, 1) := by decide +kernel
theorem dX10_writeParcels_55 : decode cX10_writeParcels 55 = .ok (.iconst 3, 1) := by decide +kernel
theorem dX10_writeParcels_56 : decode cX10_writeParcels 56 = .ok (.iadd, 1) := by decide +kernel
theorem dX10_writeParcels_57 : decode cX10_writeParcels 57 = .ok (.iaload, 1) := by decide +kernel
theorem dX10_writeParcels_58 : decode cX10_writeParcels 58 = .ok (.invokevirtual 334, 3) := by decide +kernel
theorem dX10_writeParcels_61 : decode cX10_writeParcels 61 = .ok (.goto 45, 3) := by decide +kernel
theorem dX10_writeParcels_64 : decode cX10_writeParcels 64 = .ok (.aload_n 0, 1) := by decide +kernel
theorem dX10_writeParcels_65 : decode cX10_writeParcels 65 = .ok (.getfield 7, 3) := by decide +kernel
theorem dX10_writeParcels_68 : decode cX10_writeParcels 68 = .ok (.iload_n 2, 1) := by decide +kernel
theorem dX10_writeParcels_69 : decode cX10_writeParcels 69 = .ok (.iconst 4, 1) := by decide +kernel
theorem dX10_writeParcels_70 : decode cX10_writeParcels 70 = .ok (.iadd, 1) := by decide +kernel
theorem dX10_writeParcels_71 : decode cX10_writeParcels 71 = .ok (.iaload, 1) := by decide +kernel
theorem dX10_writeParcels_72 : decode cX10_writeParcels 72 = .ok (.iconst (-1), 1) := by decide +kernel
theorem dX10_writeParcels_73 : decode cX10_writeParcels 73 = .ok (.if_icmp .eq 27, 3) := by decide +kernel
theorem dX10_writeParcels_76 : decode cX10_writeParcels 76 = .ok (.aload_n 0, 1) := by decide +kernel
theorem dX10_writeParcels_77 : decode cX10_writeParcels 77 = .ok (.bipush 35, 2) := by decide +kernel
theorem dX10_writeParcels_79 : decode cX10_writeParcels 79 = .ok (.invokevirtual 328, 3) := by decide +kernel
theorem dX10_writeParcels_82 : decode cX10_writeParcels 82 = .ok (.aload_n 0, 1) := by decide +kernel
theorem dX10_writeParcels_83 : decode cX10_writeParcels 83 = .ok (.bipush 48, 2) := by decide +kernel
theorem dX10_writeParcels_85 : decode cX10_writeParcels 85 = .ok (.aload_n 0, 1) := by decide +kernel
theorem dX10_writeParcels_86 : decode cX10_writeParcels 86 = .ok (.getfield 7, 3) := by decide +kernel
theorem dX10_writeParcels_89 : decode cX10_writeParcels 89 = .ok (.iload_n 2, 1) := by decide +kernel
theorem dX10_writeParcels_90 : decode cX10_writeParcels 90 = .ok (.iconst 4, 1) := by decide +kernel
theorem dX10_writeParcels_91 : decode cX10_writeParcels 91 = .ok (.iadd, 1) := by decide +kernel
theorem dX10_writeParcels_92 : decode cX10_writeParcels 92 = .ok (.iaload, 1) := by decide +kernel
theorem dX10_writeParcels_93 : decode cX10_writeParcels 93 = .ok (.iadd, 1) := by decide +kernel
theorem dX10_writeParcels_94 : decode cX10_writeParcels 94 = .ok (.invokevirtual 328, 3) := by decide +kernel
theorem dX10_writeParcels_97 : decode cX10_writeParcels 97 = .ok (.goto 9, 3) := by decide +kernel
theorem dX10_writeParcels_100 : decode cX10_writeParcels 100 = .ok (.aload_n 0, 1) := by decide +kernel
theorem dX10_writeParcels_101 : decode cX10_writeParcels 101 = .ok (.bipush 61, 2) := by decide +kernel
theorem dX10_writeParcels_103 : decode cX10_writeParcels 103 = .ok (.invokevirtual 328, 3) := by decide +kernel
theorem dX10_writeParcels_106 : decode cX10_writeParcels 106 = .ok (.iinc 1 1, 3) := by decide +kernel
theorem dX10_writeParcels_109 : decode cX10_writeParcels 109 = .ok (.goto (-97), 3) := by decide +kernel
theorem dX10_writeParcels_112 : decode cX10_writeParcels 112 = .ok (.aload_n 0, 1) := by decide +kernel
theorem dX10_writeParcels_113 : decode cX10_writeParcels 113 = .ok (.getfield 322, 3) := by decide +kernel
theorem dX10_writeParcels_116 : decode cX10_writeParcels 116 = .ok (.ireturn, 1) := by decide +kernel
theorem dX10_outputByte_0 : decode cX10_outputByte 0 = .ok (.aload_n 0, 1) := by decide +kernel
theorem dX10_outputByte_1 : decode cX10_outputByte 1 = .ok (.iload_n 1, 1) := by decide +kernel
theorem dX10_outputByte_2 : decode cX10_outputByte 2 = .ok (.iconst 0, 1) := by decide +kernel
theorem dX10_outputByte_3 : decode cX10_outputByte 3 = .ok (.aload_n 0, 1) := by decide +kernel
theorem dX10_outputByte_4 : decode cX10_outputByte 4 = .ok (.getfield 322, 3) := by decide +kernel
theorem dX10_outputByte_7 : decode cX10_outputByte 7 = .ok (.iconst 1, 1) := by decide +kernel
theorem dX10_outputByte_8 : decode cX10_outputByte 8 = .ok (.isub, 1) := by decide +kernel
theorem dX10_outputByte_9 : decode cX10_outputByte 9 = .ok (.invokevirtual 173, 3) := by decide +kernel
theorem dX10_outputByte_12 : decode cX10_outputByte 12 = .ok (.ifCond .eq 7, 3) := by decide +kernel
theorem dX10_outputByte_15 : decode cX10_outputByte 15 = .ok (.iconst 0, 1) := by decide +kernel
theorem dX10_outputByte_16 : decode cX10_outputByte 16 = .ok (.goto 9, 3) := by decide +kernel
theorem dX10_outputByte_19 : decode cX10_outputByte 19 = .ok (.aload_n 0, 1) := by decide +kernel
theorem dX10_outputByte_20 : decode cX10_outputByte 20 = .ok (.getfield 39, 3) := by decide +kernel
theorem dX10_outputByte_23 : decode cX10_outputByte 23 = .ok (.iload_n 1, 1) := by decide +kernel
theorem dX10_outputByte_24 : decode cX10_outputByte 24 = .ok (.baload, 1) := by decide +kernel
theorem dX10_outputByte_25 : decode cX10_outputByte 25 = .ok (.ireturn, 1) := by decide +kernel
theorem dJ9_min_7cf53_0 : decode cJ9_min_7cf53 0 = .ok (.iload_n 0, 1) := by decide +kernel
theorem dJ9_min_7cf53_1 : decode cJ9_min_7cf53 1 = .ok (.iload_n 1, 1) := by decide +kernel
theorem dJ9_min_7cf53_2 : decode cJ9_min_7cf53 2 = .ok (.if_icmp .gt 7, 3) := by decide +kernel
theorem dJ9_min_7cf53_5 : decode cJ9_min_7cf53 5 = .ok (.iload_n 0, 1) := by decide +kernel
theorem dJ9_min_7cf53_6 : decode cJ9_min_7cf53 6 = .ok (.goto 4, 3) := by decide +kernel
theorem dJ9_min_7cf53_9 : decode cJ9_min_7cf53 9 = .ok (.iload_n 1, 1) := by decide +kernel
theorem dJ9_min_7cf53_10 : decode cJ9_min_7cf53 10 = .ok (.ireturn, 1) := by decide +kernel
theorem dJ0_length_8abf5_0 : decode cJ0_length_8abf5 0 = .ok (.aload_n 0, 1) := by decide +kernel
theorem dJ0_length_8abf5_1 : decode cJ0_length_8abf5 1 = .ok (.getfield 9, 3) := by decide +kernel
theorem dJ0_length_8abf5_4 : decode cJ0_length_8abf5 4 = .ok (.arraylength, 1) := by decide +kernel
theorem dJ0_length_8abf5_5 : decode cJ0_length_8abf5 5 = .ok (.aload_n 0, 1) := by decide +kernel
theorem dJ0_length_8abf5_6 : decode cJ0_length_8abf5 6 = .ok (.invokevirtual 335, 3) := by decide +kernel
theorem dJ0_length_8abf5_9 : decode cJ0_length_8abf5 9 = .ok (.ishr, 1) := by decide +kernel
theorem dJ0_length_8abf5_10 : decode cJ0_length_8abf5 10 = .ok (.ireturn, 1) := by decide +kernel
theorem dJ0_charAt_5068e_0 : decode cJ0_charAt_5068e 0 = .ok (.aload_n 0, 1) := by decide +kernel
theorem dJ0_charAt_5068e_1 : decode cJ0_charAt_5068e 1 = .ok (.invokevirtual 492, 3) := by decide +kernel
theorem dJ0_charAt_5068e_4 : decode cJ0_charAt_5068e 4 = .ok (.ifCond .eq 12, 3) := by decide +kernel
theorem dJ0_charAt_5068e_7 : decode cJ0_charAt_5068e 7 = .ok (.aload_n 0, 1) := by decide +kernel
theorem dJ0_charAt_5068e_8 : decode cJ0_charAt_5068e 8 = .ok (.getfield 9, 3) := by decide +kernel
theorem dJ0_charAt_5068e_11 : decode cJ0_charAt_5068e 11 = .ok (.iload_n 1, 1) := by decide +kernel
theorem dJ0_charAt_5068e_12 : decode cJ0_charAt_5068e 12 = .ok (.invokestatic 495, 3) := by decide +kernel
theorem dJ0_charAt_5068e_15 : decode cJ0_charAt_5068e 15 = .ok (.ireturn, 1) := by decide +kernel
theorem dJ0_charAt_5068e_16 : decode cJ0_charAt_5068e 16 = .ok (.aload_n 0, 1) := by decide +kernel
theorem dJ0_charAt_5068e_17 : decode cJ0_charAt_5068e 17 = .ok (.getfield 9, 3) := by decide +kernel
theorem dJ0_charAt_5068e_20 : decode cJ0_charAt_5068e 20 = .ok (.iload_n 1, 1) := by decide +kernel
theorem dJ0_charAt_5068e_21 : decode cJ0_charAt_5068e 21 = .ok (.invokestatic 498, 3) := by decide +kernel
theorem dJ0_charAt_5068e_24 : decode cJ0_charAt_5068e 24 = .ok (.ireturn, 1) := by decide +kernel
theorem dJ0_coder_7d493_0 : decode cJ0_coder_7d493 0 = .ok (.getstatic 38, 3) := by decide +kernel
theorem dJ0_coder_7d493_3 : decode cJ0_coder_7d493 3 = .ok (.ifCond .eq 10, 3) := by decide +kernel
theorem dJ0_coder_7d493_6 : decode cJ0_coder_7d493 6 = .ok (.aload_n 0, 1) := by decide +kernel
theorem dJ0_coder_7d493_7 : decode cJ0_coder_7d493 7 = .ok (.getfield 15, 3) := by decide +kernel
theorem dJ0_coder_7d493_10 : decode cJ0_coder_7d493 10 = .ok (.goto 4, 3) := by decide +kernel
theorem dJ0_coder_7d493_13 : decode cJ0_coder_7d493 13 = .ok (.iconst 1, 1) := by decide +kernel
theorem dJ0_coder_7d493_14 : decode cJ0_coder_7d493 14 = .ok (.ireturn, 1) := by decide +kernel
theorem dJ0_isLatin1_aae02_0 : decode cJ0_isLatin1_aae02 0 = .ok (.getstatic 38, 3) := by decide +kernel
theorem dJ0_isLatin1_aae02_3 : decode cJ0_isLatin1_aae02 3 = .ok (.ifCond .eq 14, 3) := by decide +kernel
theorem dJ0_isLatin1_aae02_6 : decode cJ0_isLatin1_aae02 6 = .ok (.aload_n 0, 1) := by decide +kernel
theorem dJ0_isLatin1_aae02_7 : decode cJ0_isLatin1_aae02 7 = .ok (.getfield 15, 3) := by decide +kernel
theorem dJ0_isLatin1_aae02_10 : decode cJ0_isLatin1_aae02 10 = .ok (.ifCond .ne 7, 3) := by decide +kernel
theorem dJ0_isLatin1_aae02_13 : decode cJ0_isLatin1_aae02 13 = .ok (.iconst 1, 1) := by decide +kernel
theorem dJ0_isLatin1_aae02_14 : decode cJ0_isLatin1_aae02 14 = .ok (.goto 4, 3) := by decide +kernel
theorem dJ0_isLatin1_aae02_17 : decode cJ0_isLatin1_aae02 17 = .ok (.iconst 0, 1) := by decide +kernel
theorem dJ0_isLatin1_aae02_18 : decode cJ0_isLatin1_aae02 18 = .ok (.ireturn, 1) := by decide +kernel
theorem dJ0_checkIndex_df160_0 : decode cJ0_checkIndex_df160 0 = .ok (.iload_n 0, 1) := by decide +kernel
theorem dJ0_checkIndex_df160_1 : decode cJ0_checkIndex_df160 1 = .ok (.iload_n 1, 1) := by decide +kernel
theorem dJ0_checkIndex_df160_2 : decode cJ0_checkIndex_df160 2 = .ok (.getstatic 1053, 3) := by decide +kernel
theorem dJ0_checkIndex_df160_5 : decode cJ0_checkIndex_df160 5 = .ok (.invokestatic 1059, 3) := by decide +kernel
theorem dJ0_checkIndex_df160_8 : decode cJ0_checkIndex_df160 8 = .ok (.pop, 1) := by decide +kernel
theorem dJ0_checkIndex_df160_9 : decode cJ0_checkIndex_df160 9 = .ok (.return_, 1) := by decide +kernel
theorem dJ1_charAt_3b067_0 : decode cJ1_charAt_3b067 0 = .ok (.iload_n 1, 1) := by decide +kernel
theorem dJ1_charAt_3b067_1 : decode cJ1_charAt_3b067 1 = .ok (.aload_n 0, 1) := by decide +kernel
theorem dJ1_charAt_3b067_2 : decode cJ1_charAt_3b067 2 = .ok (.arraylength, 1) := by decide +kernel
theorem dJ1_charAt_3b067_3 : decode cJ1_charAt_3b067 3 = .ok (.invokestatic 9, 3) := by decide +kernel
theorem dJ1_charAt_3b067_6 : decode cJ1_charAt_3b067 6 = .ok (.aload_n 0, 1) := by decide +kernel
theorem dJ1_charAt_3b067_7 : decode cJ1_charAt_3b067 7 = .ok (.iload_n 1, 1) := by decide +kernel
theorem dJ1_charAt_3b067_8 : decode cJ1_charAt_3b067 8 = .ok (.baload, 1) := by decide +kernel
theorem dJ1_charAt_3b067_9 : decode cJ1_charAt_3b067 9 = .ok (.sipush 255, 3) := by decide +kernel
theorem dJ1_charAt_3b067_12 : decode cJ1_charAt_3b067 12 = .ok (.iand, 1) := by decide +kernel
theorem dJ1_charAt_3b067_13 : decode cJ1_charAt_3b067 13 = .ok (.i2c, 1) := by decide +kernel
theorem dJ1_charAt_3b067_14 : decode cJ1_charAt_3b067 14 = .ok (.ireturn, 1) := by decide +kernel
theorem dJ2_getChar_3b067_0 : decode cJ2_getChar_3b067 0 = .ok (.getstatic 44, 3) := by decide +kernel
theorem dJ2_getChar_3b067_3 : decode cJ2_getChar_3b067 3 = .ok (.ifCond .ne 25, 3) := by decide +kernel
theorem dJ2_getChar_3b067_6 : decode cJ2_getChar_3b067 6 = .ok (.iload_n 1, 1) := by decide +kernel
theorem dJ2_getChar_3b067_7 : decode cJ2_getChar_3b067 7 = .ok (.ifCond .lt 11, 3) := by decide +kernel
theorem dJ2_getChar_3b067_10 : decode cJ2_getChar_3b067 10 = .ok (.iload_n 1, 1) := by decide +kernel
theorem dJ2_getChar_3b067_11 : decode cJ2_getChar_3b067 11 = .ok (.aload_n 0, 1) := by decide +kernel
theorem dJ2_getChar_3b067_12 : decode cJ2_getChar_3b067 12 = .ok (.invokestatic 48, 3) := by decide +kernel
theorem dJ2_getChar_3b067_15 : decode cJ2_getChar_3b067 15 = .ok (.if_icmp .lt 13, 3) := by decide +kernel
theorem dJ2_getChar_3b067_18 : decode cJ2_getChar_3b067 18 = .ok (.new 52, 3) := by decide +kernel
theorem dJ2_getChar_3b067_21 : decode cJ2_getChar_3b067 21 = .ok (.dup, 1) := by decide +kernel
theorem dJ2_getChar_3b067_22 : decode cJ2_getChar_3b067 22 = .ok (.ldc 54, 2) := by decide +kernel
theorem dJ2_getChar_3b067_24 : decode cJ2_getChar_3b067 24 = .ok (.invokespecial 56, 3) := by decide +kernel
theorem dJ2_getChar_3b067_27 : decode cJ2_getChar_3b067 27 = .ok (.athrow, 1) := by decide +kernel
theorem dJ2_getChar_3b067_28 : decode cJ2_getChar_3b067 28 = .ok (.iload_n 1, 1) := by decide +kernel
theorem dJ2_getChar_3b067_29 : decode cJ2_getChar_3b067 29 = .ok (.iconst 1, 1) := by decide +kernel
theorem dJ2_getChar_3b067_30 : decode cJ2_getChar_3b067 30 = .ok (.ishl, 1) := by decide +kernel
theorem dJ2_getChar_3b067_31 : decode cJ2_getChar_3b067 31 = .ok (.istore_n 1, 1) := by decide +kernel
theorem dJ2_getChar_3b067_32 : decode cJ2_getChar_3b067 32 = .ok (.aload_n 0, 1) := by decide +kernel
theorem dJ2_getChar_3b067_33 : decode cJ2_getChar_3b067 33 = .ok (.iload_n 1, 1) := by decide +kernel
theorem dJ2_getChar_3b067_34 : decode cJ2_getChar_3b067 34 = .ok (.iinc 1 1, 3) := by decide +kernel
theorem dJ2_getChar_3b067_37 : decode cJ2_getChar_3b067 37 = .ok (.baload, 1) := by decide +kernel
theorem dJ2_getChar_3b067_38 : decode cJ2_getChar_3b067 38 = .ok (.sipush 255, 3) := by decide +kernel
theorem dJ2_getChar_3b067_41 : decode cJ2_getChar_3b067 41 = .ok (.iand, 1) := by decide +kernel
theorem dJ2_getChar_3b067_42 : decode cJ2_getChar_3b067 42 = .ok (.getstatic 59, 3) := by decide +kernel
theorem dJ2_getChar_3b067_45 : decode cJ2_getChar_3b067 45 = .ok (.ishl, 1) := by decide +kernel
theorem dJ2_getChar_3b067_46 : decode cJ2_getChar_3b067 46 = .ok (.aload_n 0, 1) := by decide +kernel
theorem dJ2_getChar_3b067_47 : decode cJ2_getChar_3b067 47 = .ok (.iload_n 1, 1) := by decide +kernel
theorem dJ2_getChar_3b067_48 : decode cJ2_getChar_3b067 48 = .ok (.baload, 1) := by decide +kernel
theorem dJ2_getChar_3b067_49 : decode cJ2_getChar_3b067 49 = .ok (.sipush 255, 3) := by decide +kernel
theorem dJ2_getChar_3b067_52 : decode cJ2_getChar_3b067 52 = .ok (.iand, 1) := by decide +kernel
