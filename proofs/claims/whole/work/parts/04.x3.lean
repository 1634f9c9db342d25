theorem dX10_init_61 : decode cX10_init 61 = .ok (.putfield 29, 3) := by decide +kernel
theorem dX10_init_64 : decode cX10_init 64 = .ok (.aload_n 0, 1) := by decide +kernel
theorem dX10_init_65 : decode cX10_init 65 = .ok (.sipush 600, 3) := by decide +kernel
theorem dX10_init_68 : decode cX10_init 68 = .ok (.newarray .int, 2) := by decide +kernel
theorem dX10_init_70 : decode cX10_init 70 = .ok (.putfield 32, 3) := by decide +kernel
theorem dX10_init_73 : decode cX10_init 73 = .ok (.aload_n 0, 1) := by decide +kernel
theorem dX10_init_74 : decode cX10_init 74 = .ok (.iconst (-1), 1) := by decide +kernel
theorem dX10_init_75 : decode cX10_init 75 = .ok (.putfield 35, 3) := by decide +kernel
theorem dX10_init_78 : decode cX10_init 78 = .ok (.aload_n 0, 1) := by decide +kernel
theorem dX10_init_79 : decode cX10_init 79 = .ok (.sipush 200, 3) := by decide +kernel
theorem dX10_init_82 : decode cX10_init 82 = .ok (.newarray .byte, 2) := by decide +kernel
theorem dX10_init_84 : decode cX10_init 84 = .ok (.putfield 39, 3) := by decide +kernel
theorem dX10_init_87 : decode cX10_init 87 = .ok (.aload_n 0, 1) := by decide +kernel
theorem dX10_init_88 : decode cX10_init 88 = .ok (.ldc 43, 2) := by decide +kernel
theorem dX10_init_90 : decode cX10_init 90 = .ok (.invokevirtual 45, 3) := by decide +kernel
theorem dX10_init_93 : decode cX10_init 93 = .ok (.aload_n 0, 1) := by decide +kernel
theorem dX10_init_94 : decode cX10_init 94 = .ok (.invokevirtual 49, 3) := by decide +kernel
theorem dX10_init_97 : decode cX10_init 97 = .ok (.aload_n 0, 1) := by decide +kernel
theorem dX10_init_98 : decode cX10_init 98 = .ok (.iconst 0, 1) := by decide +kernel
theorem dX10_init_99 : decode cX10_init 99 = .ok (.putfield 52, 3) := by decide +kernel
theorem dX10_init_102 : decode cX10_init 102 = .ok (.aload_n 0, 1) := by decide +kernel
theorem dX10_init_103 : decode cX10_init 103 = .ok (.getfield 13, 3) := by decide +kernel
theorem dX10_init_106 : decode cX10_init 106 = .ok (.iconst 0, 1) := by decide +kernel
theorem dX10_init_107 : decode cX10_init 107 = .ok (.aload_n 0, 1) := by decide +kernel
theorem dX10_init_108 : decode cX10_init 108 = .ok (.getfield 7, 3) := by decide +kernel
theorem dX10_init_111 : decode cX10_init 111 = .ok (.iconst 0, 1) := by decide +kernel
theorem dX10_init_112 : decode cX10_init 112 = .ok (.invokestatic 55, 3) := by decide +kernel
theorem dX10_init_115 : decode cX10_init 115 = .ok (.return_, 1) := by decide +kernel
theorem dX10_layInput_0 : decode cX10_layInput 0 = .ok (.iconst 0, 1) := by decide +kernel
theorem dX10_layInput_1 : decode cX10_layInput 1 = .ok (.istore_n 2, 1) := by decide +kernel
theorem dX10_layInput_2 : decode cX10_layInput 2 = .ok (.iload_n 2, 1) := by decide +kernel
theorem dX10_layInput_3 : decode cX10_layInput 3 = .ok (.aload_n 1, 1) := by decide +kernel
theorem dX10_layInput_4 : decode cX10_layInput 4 = .ok (.invokevirtual 59, 3) := by decide +kernel
theorem dX10_layInput_7 : decode cX10_layInput 7 = .ok (.if_icmp .ge 20, 3) := by decide +kernel
theorem dX10_layInput_10 : decode cX10_layInput 10 = .ok (.aload_n 0, 1) := by decide +kernel
theorem dX10_layInput_11 : decode cX10_layInput 11 = .ok (.getfield 32, 3) := by decide +kernel
theorem dX10_layInput_14 : decode cX10_layInput 14 = .ok (.iload_n 2, 1) := by decide +kernel
theorem dX10_layInput_15 : decode cX10_layInput 15 = .ok (.aload_n 1, 1) := by decide +kernel
theorem dX10_layInput_16 : decode cX10_layInput 16 = .ok (.iload_n 2, 1) := by decide +kernel
theorem dX10_layInput_17 : decode cX10_layInput 17 = .ok (.invokevirtual 65, 3) := by decide +kernel
theorem dX10_layInput_20 : decode cX10_layInput 20 = .ok (.iastore, 1) := by decide +kernel
theorem dX10_layInput_21 : decode cX10_layInput 21 = .ok (.iinc 2 1, 3) := by decide +kernel
theorem dX10_layInput_24 : decode cX10_layInput 24 = .ok (.goto (-22), 3) := by decide +kernel
theorem dX10_layInput_27 : decode cX10_layInput 27 = .ok (.aload_n 0, 1) := by decide +kernel
theorem dX10_layInput_28 : decode cX10_layInput 28 = .ok (.aload_n 1, 1) := by decide +kernel
theorem dX10_layInput_29 : decode cX10_layInput 29 = .ok (.invokevirtual 59, 3) := by decide +kernel
theorem dX10_layInput_32 : decode cX10_layInput 32 = .ok (.putfield 52, 3) := by decide +kernel
theorem dX10_layInput_35 : decode cX10_layInput 35 = .ok (.return_, 1) := by decide +kernel
theorem dX10_thrown_0 : decode cX10_thrown 0 = .ok (.aload_n 0, 1) := by decide +kernel
theorem dX10_thrown_1 : decode cX10_thrown 1 = .ok (.getfield 69, 3) := by decide +kernel
theorem dX10_thrown_4 : decode cX10_thrown 4 = .ok (.ireturn, 1) := by decide +kernel
theorem dX10_refuses_0 : decode cX10_refuses 0 = .ok (.iload_n 1, 1) := by decide +kernel
theorem dX10_refuses_1 : decode cX10_refuses 1 = .ok (.ifCond .eq 15, 3) := by decide +kernel
theorem dX10_refuses_4 : decode cX10_refuses 4 = .ok (.aload_n 0, 1) := by decide +kernel
theorem dX10_refuses_5 : decode cX10_refuses 5 = .ok (.getfield 69, 3) := by decide +kernel
theorem dX10_refuses_8 : decode cX10_refuses 8 = .ok (.ifCond .ne 8, 3) := by decide +kernel
theorem dX10_refuses_11 : decode cX10_refuses 11 = .ok (.aload_n 0, 1) := by decide +kernel
theorem dX10_refuses_12 : decode cX10_refuses 12 = .ok (.iload_n 2, 1) := by decide +kernel
theorem dX10_refuses_13 : decode cX10_refuses 13 = .ok (.putfield 69, 3) := by decide +kernel
theorem dX10_refuses_16 : decode cX10_refuses 16 = .ok (.aload_n 0, 1) := by decide +kernel
theorem dX10_refuses_17 : decode cX10_refuses 17 = .ok (.getfield 69, 3) := by decide +kernel
theorem dX10_refuses_20 : decode cX10_refuses 20 = .ok (.ifCond .eq 7, 3) := by decide +kernel
theorem dX10_refuses_23 : decode cX10_refuses 23 = .ok (.iconst 1, 1) := by decide +kernel
theorem dX10_refuses_24 : decode cX10_refuses 24 = .ok (.goto 4, 3) := by decide +kernel
theorem dX10_refuses_27 : decode cX10_refuses 27 = .ok (.iconst 0, 1) := by decide +kernel
theorem dX10_refuses_28 : decode cX10_refuses 28 = .ok (.ireturn, 1) := by decide +kernel
theorem dX10_isBetween_0 : decode cX10_isBetween 0 = .ok (.iload_n 0, 1) := by decide +kernel
theorem dX10_isBetween_1 : decode cX10_isBetween 1 = .ok (.iload_n 1, 1) := by decide +kernel
theorem dX10_isBetween_2 : decode cX10_isBetween 2 = .ok (.if_icmp .lt 12, 3) := by decide +kernel
theorem dX10_isBetween_5 : decode cX10_isBetween 5 = .ok (.iload_n 0, 1) := by decide +kernel
theorem dX10_isBetween_6 : decode cX10_isBetween 6 = .ok (.iload_n 2, 1) := by decide +kernel
theorem dX10_isBetween_7 : decode cX10_isBetween 7 = .ok (.if_icmp .gt 7, 3) := by decide +kernel
theorem dX10_isBetween_10 : decode cX10_isBetween 10 = .ok (.iconst 1, 1) := by decide +kernel
theorem dX10_isBetween_11 : decode cX10_isBetween 11 = .ok (.goto 4, 3) := by decide +kernel
theorem dX10_isBetween_14 : decode cX10_isBetween 14 = .ok (.iconst 0, 1) := by decide +kernel
theorem dX10_isBetween_15 : decode cX10_isBetween 15 = .ok (.ireturn, 1) := by decide +kernel
theorem dX10_copyRow_0 : decode cX10_copyRow 0 = .ok (.iconst 0, 1) := by decide +kernel
theorem dX10_copyRow_1 : decode cX10_copyRow 1 = .ok (.istore 4, 2) := by decide +kernel
theorem dX10_copyRow_3 : decode cX10_copyRow 3 = .ok (.iload 4, 2) := by decide +kernel
theorem dX10_copyRow_5 : decode cX10_copyRow 5 = .ok (.sipush 251, 3) := by decide +kernel
theorem dX10_copyRow_8 : decode cX10_copyRow 8 = .ok (.if_icmp .ge 21, 3) := by decide +kernel
theorem dX10_copyRow_11 : decode cX10_copyRow 11 = .ok (.aload_n 2, 1) := by decide +kernel
theorem dX10_copyRow_12 : decode cX10_copyRow 12 = .ok (.iload_n 3, 1) := by decide +kernel
theorem dX10_copyRow_13 : decode cX10_copyRow 13 = .ok (.iload 4, 2) := by decide +kernel
theorem dX10_copyRow_15 : decode cX10_copyRow 15 = .ok (.iadd, 1) := by decide +kernel
theorem dX10_copyRow_16 : decode cX10_copyRow 16 = .ok (.aload_n 0, 1) := by decide +kernel
theorem dX10_copyRow_17 : decode cX10_copyRow 17 = .ok (.iload_n 1, 1) := by decide +kernel
theorem dX10_copyRow_18 : decode cX10_copyRow 18 = .ok (.iload 4, 2) := by decide +kernel
theorem dX10_copyRow_20 : decode cX10_copyRow 20 = .ok (.iadd, 1) := by decide +kernel
theorem dX10_copyRow_21 : decode cX10_copyRow 21 = .ok (.iaload, 1) := by decide +kernel
theorem dX10_copyRow_22 : decode cX10_copyRow 22 = .ok (.iastore, 1) := by decide +kernel
theorem dX10_copyRow_23 : decode cX10_copyRow 23 = .ok (.iinc 4 1, 3) := by decide +kernel
theorem dX10_copyRow_26 : decode cX10_copyRow 26 = .ok (.goto (-23), 3) := by decide +kernel
theorem dX10_copyRow_29 : decode cX10_copyRow 29 = .ok (.return_, 1) := by decide +kernel
theorem dX10_ofStation_0 : decode cX10_ofStation 0 = .ok (.bipush 7, 2) := by decide +kernel
theorem dX10_ofStation_2 : decode cX10_ofStation 2 = .ok (.iconst 4, 1) := by decide +kernel
theorem dX10_ofStation_3 : decode cX10_ofStation 3 = .ok (.iload_n 0, 1) := by decide +kernel
theorem dX10_ofStation_4 : decode cX10_ofStation 4 = .ok (.imul, 1) := by decide +kernel
theorem dX10_ofStation_5 : decode cX10_ofStation 5 = .ok (.iadd, 1) := by decide +kernel
theorem dX10_ofStation_6 : decode cX10_ofStation 6 = .ok (.ireturn, 1) := by decide +kernel
theorem dX10_ofTrack_0 : decode cX10_ofTrack 0 = .ok (.bipush 39, 2) := by decide +kernel
theorem dX10_ofTrack_2 : decode cX10_ofTrack 2 = .ok (.iconst 4, 1) := by decide +kernel
theorem dX10_ofTrack_3 : decode cX10_ofTrack 3 = .ok (.iload_n 0, 1) := by decide +kernel
theorem dX10_ofTrack_4 : decode cX10_ofTrack 4 = .ok (.imul, 1) := by decide +kernel
theorem dX10_ofTrack_5 : decode cX10_ofTrack 5 = .ok (.iadd, 1) := by decide +kernel
theorem dX10_ofTrack_6 : decode cX10_ofTrack 6 = .ok (.ireturn, 1) := by decide +kernel
theorem dX10_ofTrain_0 : decode cX10_ofTrain 0 = .ok (.bipush 87, 2) := by decide +kernel
theorem dX10_ofTrain_2 : decode cX10_ofTrain 2 = .ok (.bipush 14, 2) := by decide +kernel
theorem dX10_ofTrain_4 : decode cX10_ofTrain 4 = .ok (.iload_n 0, 1) := by decide +kernel
theorem dX10_ofTrain_5 : decode cX10_ofTrain 5 = .ok (.imul, 1) := by decide +kernel
theorem dX10_ofTrain_6 : decode cX10_ofTrain 6 = .ok (.iadd, 1) := by decide +kernel
theorem dX10_ofTrain_7 : decode cX10_ofTrain 7 = .ok (.ireturn, 1) := by decide +kernel
theorem dX10_ofParcel_0 : decode cX10_ofParcel 0 = .ok (.sipush 143, 3) := by decide +kernel
theorem dX10_ofParcel_3 : decode cX10_ofParcel 3 = .ok (.bipush 9, 2) := by decide +kernel
theorem dX10_ofParcel_5 : decode cX10_ofParcel 5 = .ok (.iload_n 0, 1) := by decide +kernel
theorem dX10_ofParcel_6 : decode cX10_ofParcel 6 = .ok (.imul, 1) := by decide +kernel
theorem dX10_ofParcel_7 : decode cX10_ofParcel 7 = .ok (.iadd, 1) := by decide +kernel
theorem dX10_ofParcel_8 : decode cX10_ofParcel 8 = .ok (.ireturn, 1) := by decide +kernel
theorem dX10_between_0 : decode cX10_between 0 = .ok (.iconst 0, 1) := by decide +kernel
theorem dX10_between_1 : decode cX10_between 1 = .ok (.istore_n 3, 1) := by decide +kernel
theorem dX10_between_2 : decode cX10_between 2 = .ok (.iload_n 3, 1) := by decide +kernel
theorem dX10_between_3 : decode cX10_between 3 = .ok (.aload_n 0, 1) := by decide +kernel
theorem dX10_between_4 : decode cX10_between 4 = .ok (.iconst 2, 1) := by decide +kernel
theorem dX10_between_5 : decode cX10_between 5 = .ok (.iaload, 1) := by decide +kernel
theorem dX10_between_6 : decode cX10_between 6 = .ok (.if_icmp .ge 55, 3) := by decide +kernel
theorem dX10_between_9 : decode cX10_between 9 = .ok (.aload_n 0, 1) := by decide +kernel
theorem dX10_between_10 : decode cX10_between 10 = .ok (.iload_n 3, 1) := by decide +kernel
theorem dX10_between_11 : decode cX10_between 11 = .ok (.invokestatic 72, 3) := by decide +kernel
theorem dX10_between_14 : decode cX10_between 14 = .ok (.iconst 0, 1) := by decide +kernel
theorem dX10_between_15 : decode cX10_between 15 = .ok (.iadd, 1) := by decide +kernel
theorem dX10_between_16 : decode cX10_between 16 = .ok (.iaload, 1) := by decide +kernel
theorem dX10_between_17 : decode cX10_between 17 = .ok (.istore 4, 2) := by decide +kernel
theorem dX10_between_19 : decode cX10_between 19 = .ok (.aload_n 0, 1) := by decide +kernel
theorem dX10_between_20 : decode cX10_between 20 = .ok (.iload_n 3, 1) := by decide +kernel
theorem dX10_between_21 : decode cX10_between 21 = .ok (.invokestatic 72, 3) := by decide +kernel
theorem dX10_between_24 : decode cX10_between 24 = .ok (.iconst 1, 1) := by decide +kernel
theorem dX10_between_25 : decode cX10_between 25 = .ok (.iadd, 1) := by decide +kernel
theorem dX10_between_26 : decode cX10_between 26 = .ok (.iaload, 1) := by decide +kernel
theorem dX10_between_27 : decode cX10_between 27 = .ok (.istore 5, 2) := by decide +kernel
theorem dX10_between_29 : decode cX10_between 29 = .ok (.iload 4, 2) := by decide +kernel
theorem dX10_between_31 : decode cX10_between 31 = .ok (.iload_n 1, 1) := by decide +kernel
theorem dX10_between_32 : decode cX10_between 32 = .ok (.if_icmp .ne 9, 3) := by decide +kernel
theorem dX10_between_35 : decode cX10_between 35 = .ok (.iload 5, 2) := by decide +kernel
theorem dX10_between_37 : decode cX10_between 37 = .ok (.iload_n 2, 1) := by decide +kernel
theorem dX10_between_38 : decode cX10_between 38 = .ok (.if_icmp .eq 15, 3) := by decide +kernel
theorem dX10_between_41 : decode cX10_between 41 = .ok (.iload 4, 2) := by decide +kernel
theorem dX10_between_43 : decode cX10_between 43 = .ok (.iload_n 2, 1) := by decide +kernel
theorem dX10_between_44 : decode cX10_between 44 = .ok (.if_icmp .ne 11, 3) := by decide +kernel
theorem dX10_between_47 : decode cX10_between 47 = .ok (.iload 5, 2) := by decide +kernel
theorem dX10_between_49 : decode cX10_between 49 = .ok (.iload_n 1, 1) := by decide +kernel
theorem dX10_between_50 : decode cX10_between 50 = .ok (.if_icmp .ne 5, 3) := by decide +kernel
theorem dX10_between_53 : decode cX10_between 53 = .ok (.iload_n 3, 1) := by decide +kernel
theorem dX10_between_54 : decode cX10_between 54 = .ok (.ireturn, 1) := by decide +kernel
theorem dX10_between_55 : decode cX10_between 55 = .ok (.iinc 3 1, 3) := by decide +kernel
theorem dX10_between_58 : decode cX10_between 58 = .ok (.goto (-56), 3) := by decide +kernel
theorem dX10_between_61 : decode cX10_between 61 = .ok (.iconst (-1), 1) := by decide +kernel
theorem dX10_between_62 : decode cX10_between 62 = .ok (.ireturn, 1) := by decide +kernel
theorem dX10_isOpen_0 : decode cX10_isOpen 0 = .ok (.iload_n 1, 1) := by decide +kernel
theorem dX10_isOpen_1 : decode cX10_isOpen 1 = .ok (.iconst (-1), 1) := by decide +kernel
theorem dX10_isOpen_2 : decode cX10_isOpen 2 = .ok (.if_icmp .eq 19, 3) := by decide +kernel
theorem dX10_isOpen_5 : decode cX10_isOpen 5 = .ok (.aload_n 0, 1) := by decide +kernel
theorem dX10_isOpen_6 : decode cX10_isOpen 6 = .ok (.iload_n 1, 1) := by decide +kernel
theorem dX10_isOpen_7 : decode cX10_isOpen 7 = .ok (.invokestatic 72, 3) := by decide +kernel
theorem dX10_isOpen_10 : decode cX10_isOpen 10 = .ok (.iconst 3, 1) := by decide +kernel
theorem dX10_isOpen_11 : decode cX10_isOpen 11 = .ok (.iadd, 1) := by decide +kernel
theorem dX10_isOpen_12 : decode cX10_isOpen 12 = .ok (.iaload, 1) := by decide +kernel
theorem dX10_isOpen_13 : decode cX10_isOpen 13 = .ok (.iconst 1, 1) := by decide +kernel
theorem dX10_isOpen_14 : decode cX10_isOpen 14 = .ok (.if_icmp .ne 7, 3) := by decide +kernel
theorem dX10_isOpen_17 : decode cX10_isOpen 17 = .ok (.iconst 1, 1) := by decide +kernel
theorem dX10_isOpen_18 : decode cX10_isOpen 18 = .ok (.goto 4, 3) := by decide +kernel
theorem dX10_isOpen_21 : decode cX10_isOpen 21 = .ok (.iconst 0, 1) := by decide +kernel
theorem dX10_isOpen_22 : decode cX10_isOpen 22 = .ok (.ireturn, 1) := by decide +kernel
theorem dX10_shorten_0 : decode cX10_shorten 0 = .ok (.aload_n 0, 1) := by decide +kernel
theorem dX10_shorten_1 : decode cX10_shorten 1 = .ok (.getfield 29, 3) := by decide +kernel
theorem dX10_shorten_4 : decode cX10_shorten 4 = .ok (.iload_n 1, 1) := by decide +kernel
theorem dX10_shorten_5 : decode cX10_shorten 5 = .ok (.iaload, 1) := by decide +kernel
theorem dX10_shorten_6 : decode cX10_shorten 6 = .ok (.iload_n 3, 1) := by decide +kernel
theorem dX10_shorten_7 : decode cX10_shorten 7 = .ok (.iadd, 1) := by decide +kernel
theorem dX10_shorten_8 : decode cX10_shorten 8 = .ok (.aload_n 0, 1) := by decide +kernel
theorem dX10_shorten_9 : decode cX10_shorten 9 = .ok (.getfield 29, 3) := by decide +kernel
theorem dX10_shorten_12 : decode cX10_shorten 12 = .ok (.iload_n 2, 1) := by decide +kernel
theorem dX10_shorten_13 : decode cX10_shorten 13 = .ok (.iaload, 1) := by decide +kernel
theorem dX10_shorten_14 : decode cX10_shorten 14 = .ok (.if_icmp .ge 7, 3) := by decide +kernel
theorem dX10_shorten_17 : decode cX10_shorten 17 = .ok (.iconst 1, 1) := by decide +kernel
theorem dX10_shorten_18 : decode cX10_shorten 18 = .ok (.goto 4, 3) := by decide +kernel
theorem dX10_shorten_21 : decode cX10_shorten 21 = .ok (.iconst 0, 1) := by decide +kernel
theorem dX10_shorten_22 : decode cX10_shorten 22 = .ok (.istore 4, 2) := by decide +kernel
theorem dX10_shorten_24 : decode cX10_shorten 24 = .ok (.aload_n 0, 1) := by decide +kernel
theorem dX10_shorten_25 : decode cX10_shorten 25 = .ok (.getfield 29, 3) := by decide +kernel
theorem dX10_shorten_28 : decode cX10_shorten 28 = .ok (.iload_n 2, 1) := by decide +kernel
theorem dX10_shorten_29 : decode cX10_shorten 29 = .ok (.iload 4, 2) := by decide +kernel
theorem dX10_shorten_31 : decode cX10_shorten 31 = .ok (.ifCond .eq 14, 3) := by decide +kernel
theorem dX10_shorten_34 : decode cX10_shorten 34 = .ok (.aload_n 0, 1) := by decide +kernel
theorem dX10_shorten_35 : decode cX10_shorten 35 = .ok (.getfield 29, 3) := by decide +kernel
theorem dX10_shorten_38 : decode cX10_shorten 38 = .ok (.iload_n 1, 1) := by decide +kernel
theorem dX10_shorten_39 : decode cX10_shorten 39 = .ok (.iaload, 1) := by decide +kernel
theorem dX10_shorten_40 : decode cX10_shorten 40 = .ok (.iload_n 3, 1) := by decide +kernel
theorem dX10_shorten_41 : decode cX10_shorten 41 = .ok (.iadd, 1) := by decide +kernel
theorem dX10_shorten_42 : decode cX10_shorten 42 = .ok (.goto 9, 3) := by decide +kernel
theorem dX10_shorten_45 : decode cX10_shorten 45 = .ok (.aload_n 0, 1) := by decide +kernel
theorem dX10_shorten_46 : decode cX10_shorten 46 = .ok (.getfield 29, 3) := by decide +kernel
theorem dX10_shorten_49 : decode cX10_shorten 49 = .ok (.iload_n 2, 1) := by decide +kernel
theorem dX10_shorten_50 : decode cX10_shorten 50 = .ok (.iaload, 1) := by decide +kernel
theorem dX10_shorten_51 : decode cX10_shorten 51 = .ok (.iastore, 1) := by decide +kernel
theorem dX10_shorten_52 : decode cX10_shorten 52 = .ok (.iload 4, 2) := by decide +kernel
theorem dX10_shorten_54 : decode cX10_shorten 54 = .ok (.ireturn, 1) := by decide +kernel
theorem dX10_measure_0 : decode cX10_measure 0 = .ok (.iconst 0, 1) := by decide +kernel
theorem dX10_measure_1 : decode cX10_measure 1 = .ok (.istore_n 3, 1) := by decide +kernel
theorem dX10_measure_2 : decode cX10_measure 2 = .ok (.iload_n 3, 1) := by decide +kernel
theorem dX10_measure_3 : decode cX10_measure 3 = .ok (.bipush 8, 2) := by decide +kernel
theorem dX10_measure_5 : decode cX10_measure 5 = .ok (.if_icmp .ge 26, 3) := by decide +kernel
theorem dX10_measure_8 : decode cX10_measure 8 = .ok (.aload_n 0, 1) := by decide +kernel
theorem dX10_measure_9 : decode cX10_measure 9 = .ok (.getfield 29, 3) := by decide +kernel
theorem dX10_measure_12 : decode cX10_measure 12 = .ok (.iload_n 3, 1) := by decide +kernel
theorem dX10_measure_13 : decode cX10_measure 13 = .ok (.iload_n 3, 1) := by decide +kernel
theorem dX10_measure_14 : decode cX10_measure 14 = .ok (.iload_n 2, 1) := by decide +kernel
theorem dX10_measure_15 : decode cX10_measure 15 = .ok (.if_icmp .ne 7, 3) := by decide +kernel
theorem dX10_measure_18 : decode cX10_measure 18 = .ok (.iconst 0, 1) := by decide +kernel
theorem dX10_measure_19 : decode cX10_measure 19 = .ok (.goto 5, 3) := by decide +kernel
theorem dX10_measure_22 : decode cX10_measure 22 = .ok (.ldc 76, 2) := by decide +kernel
theorem dX10_measure_24 : decode cX10_measure 24 = .ok (.iastore, 1) := by decide +kernel
theorem dX10_measure_25 : decode cX10_measure 25 = .ok (.iinc 3 1, 3) := by decide +kernel
theorem dX10_measure_28 : decode cX10_measure 28 = .ok (.goto (-26), 3) := by decide +kernel
theorem dX10_measure_31 : decode cX10_measure 31 = .ok (.iconst 1, 1) := by decide +kernel
theorem dX10_measure_32 : decode cX10_measure 32 = .ok (.istore_n 3, 1) := by decide +kernel
theorem dX10_measure_33 : decode cX10_measure 33 = .ok (.iload_n 3, 1) := by decide +kernel
theorem dX10_measure_34 : decode cX10_measure 34 = .ok (.ifCond .eq 110, 3) := by decide +kernel
theorem dX10_measure_37 : decode cX10_measure 37 = .ok (.iconst 0, 1) := by decide +kernel
theorem dX10_measure_38 : decode cX10_measure 38 = .ok (.istore_n 3, 1) := by decide +kernel
theorem dX10_measure_39 : decode cX10_measure 39 = .ok (.iconst 0, 1) := by decide +kernel
theorem dX10_measure_40 : decode cX10_measure 40 = .ok (.istore 4, 2) := by decide +kernel
theorem dX10_measure_42 : decode cX10_measure 42 = .ok (.iload 4, 2) := by decide +kernel
theorem dX10_measure_44 : decode cX10_measure 44 = .ok (.aload_n 1, 1) := by decide +kernel
theorem dX10_measure_45 : decode cX10_measure 45 = .ok (.iconst 2, 1) := by decide +kernel
theorem dX10_measure_46 : decode cX10_measure 46 = .ok (.iaload, 1) := by decide +kernel
theorem dX10_measure_47 : decode cX10_measure 47 = .ok (.if_icmp .ge 94, 3) := by decide +kernel
theorem dX10_measure_50 : decode cX10_measure 50 = .ok (.iload 4, 2) := by decide +kernel
theorem dX10_measure_52 : decode cX10_measure 52 = .ok (.invokestatic 72, 3) := by decide +kernel
theorem dX10_measure_55 : decode cX10_measure 55 = .ok (.istore 5, 2) := by decide +kernel
theorem dX10_measure_57 : decode cX10_measure 57 = .ok (.aload_n 1, 1) := by decide +kernel
theorem dX10_measure_58 : decode cX10_measure 58 = .ok (.iload 5, 2) := by decide +kernel
theorem dX10_measure_60 : decode cX10_measure 60 = .ok (.iconst 3, 1) := by decide +kernel
theorem dX10_measure_61 : decode cX10_measure 61 = .ok (.iadd, 1) := by decide +kernel
theorem dX10_measure_62 : decode cX10_measure 62 = .ok (.iaload, 1) := by decide +kernel
theorem dX10_measure_63 : decode cX10_measure 63 = .ok (.iconst 1, 1) := by decide +kernel
theorem dX10_measure_64 : decode cX10_measure 64 = .ok (.if_icmp .ne 71, 3) := by decide +kernel
theorem dX10_measure_67 : decode cX10_measure 67 = .ok (.aload_n 0, 1) := by decide +kernel
theorem dX10_measure_68 : decode cX10_measure 68 = .ok (.aload_n 1, 1) := by decide +kernel
theorem dX10_measure_69 : decode cX10_measure 69 = .ok (.iload 5, 2) := by decide +kernel
theorem dX10_measure_71 : decode cX10_measure 71 = .ok (.iconst 0, 1) := by decide +kernel
theorem dX10_measure_72 : decode cX10_measure 72 = .ok (.iadd, 1) := by decide +kernel
theorem dX10_measure_73 : decode cX10_measure 73 = .ok (.iaload, 1) := by decide +kernel
theorem dX10_measure_74 : decode cX10_measure 74 = .ok (.aload_n 1, 1) := by decide +kernel
theorem dX10_measure_75 : decode cX10_measure 75 = .ok (.iload 5, 2) := by decide +kernel
theorem dX10_measure_77 : decode cX10_measure 77 = .ok (.iconst 1, 1) := by decide +kernel
theorem dX10_measure_78 : decode cX10_measure 78 = .ok (.iadd, 1) := by decide +kernel
theorem dX10_measure_79 : decode cX10_measure 79 = .ok (.iaload, 1) := by decide +kernel
theorem dX10_measure_80 : decode cX10_measure 80 = .ok (.aload_n 1, 1) := by decide +kernel
theorem dX10_measure_81 : decode cX10_measure 81 = .ok (.iload 5, 2) := by decide +kernel
theorem dX10_measure_83 : decode cX10_measure 83 = .ok (.iconst 2, 1) := by decide +kernel
theorem dX10_measure_84 : decode cX10_measure 84 = .ok (.iadd, 1) := by decide +kernel
theorem dX10_measure_85 : decode cX10_measure 85 = .ok (.iaload, 1) := by decide +kernel
theorem dX10_measure_86 : decode cX10_measure 86 = .ok (.invokevirtual 77, 3) := by decide +kernel
theorem dX10_measure_89 : decode cX10_measure 89 = .ok (.istore 6, 2) := by decide +kernel
theorem dX10_measure_91 : decode cX10_measure 91 = .ok (.aload_n 0, 1) := by decide +kernel
theorem dX10_measure_92 : decode cX10_measure 92 = .ok (.aload_n 1, 1) := by decide +kernel
theorem dX10_measure_93 : decode cX10_measure 93 = .ok (.iload 5, 2) := by decide +kernel
theorem dX10_measure_95 : decode cX10_measure 95 = .ok (.iconst 1, 1) := by decide +kernel
theorem dX10_measure_96 : decode cX10_measure 96 = .ok (.iadd, 1) := by decide +kernel
theorem dX10_measure_97 : decode cX10_measure 97 = .ok (.iaload, 1) := by decide +kernel
theorem dX10_measure_98 : decode cX10_measure 98 = .ok (.aload_n 1, 1) := by decide +kernel
theorem dX10_measure_99 : decode cX10_measure 99 = .ok (.iload 5, 2) := by decide +kernel
theorem dX10_measure_101 : decode cX10_measure 101 = .ok (.iconst 0, 1) := by decide +kernel
theorem dX10_measure_102 : decode cX10_measure 102 = .ok (.iadd, 1) := by decide +kernel
theorem dX10_measure_103 : decode cX10_measure 103 = .ok (.iaload, 1) := by decide +kernel
theorem dX10_measure_104 : decode cX10_measure 104 = .ok (.aload_n 1, 1) := by decide +kernel
theorem dX10_measure_105 : decode cX10_measure 105 = .ok (.iload 5, 2) := by decide +kernel
theorem dX10_measure_107 : decode cX10_measure 107 = .ok (.iconst 2, 1) := by decide +kernel
theorem dX10_measure_108 : decode cX10_measure 108 = .ok (.iadd, 1) := by decide +kernel
theorem dX10_measure_109 : decode cX10_measure 109 = .ok (.iaload, 1) := by decide +kernel
theorem dX10_measure_110 : decode cX10_measure 110 = .ok (.invokevirtual 77, 3) := by decide +kernel
theorem dX10_measure_113 : decode cX10_measure 113 = .ok (.istore 7, 2) := by decide +kernel
theorem dX10_measure_115 : decode cX10_measure 115 = .ok (.iload_n 3, 1) := by decide +kernel
theorem dX10_measure_116 : decode cX10_measure 116 = .ok (.ifCond .ne 13, 3) := by decide +kernel
theorem dX10_measure_119 : decode cX10_measure 119 = .ok (.iload 6, 2) := by decide +kernel
theorem dX10_measure_121 : decode cX10_measure 121 = .ok (.ifCond .ne 8, 3) := by decide +kernel
theorem dX10_measure_124 : decode cX10_measure 124 = .ok (.iload 7, 2) := by decide +kernel
theorem dX10_measure_126 : decode cX10_measure 126 = .ok (.ifCond .eq 7, 3) := by decide +kernel
theorem dX10_measure_129 : decode cX10_measure 129 = .ok (.iconst 1, 1) := by decide +kernel
theorem dX10_measure_130 : decode cX10_measure 130 = .ok (.goto 4, 3) := by decide +kernel
theorem dX10_measure_133 : decode cX10_measure 133 = .ok (.iconst 0, 1) := by decide +kernel
theorem dX10_measure_134 : decode cX10_measure 134 = .ok (.istore_n 3, 1) := by decide +kernel
theorem dX10_measure_135 : decode cX10_measure 135 = .ok (.iinc 4 1, 3) := by decide +kernel
theorem dX10_measure_138 : decode cX10_measure 138 = .ok (.goto (-96), 3) := by decide +kernel
theorem dX10_measure_141 : decode cX10_measure 141 = .ok (.goto (-108), 3) := by decide +kernel
theorem dX10_measure_144 : decode cX10_measure 144 = .ok (.return_, 1) := by decide +kernel
theorem dX10_routeAt_0 : decode cX10_routeAt 0 = .ok (.aload_n 0, 1) := by decide +kernel
theorem dX10_routeAt_1 : decode cX10_routeAt 1 = .ok (.iload_n 1, 1) := by decide +kernel
theorem dX10_routeAt_2 : decode cX10_routeAt 2 = .ok (.invokestatic 81, 3) := by decide +kernel
theorem dX10_routeAt_5 : decode cX10_routeAt 5 = .ok (.iconst 2, 1) := by decide +kernel
theorem dX10_routeAt_6 : decode cX10_routeAt 6 = .ok (.iadd, 1) := by decide +kernel
theorem dX10_routeAt_7 : decode cX10_routeAt 7 = .ok (.iload_n 2, 1) := by decide +kernel
theorem dX10_routeAt_8 : decode cX10_routeAt 8 = .ok (.iadd, 1) := by decide +kernel
theorem dX10_routeAt_9 : decode cX10_routeAt 9 = .ok (.iaload, 1) := by decide +kernel
theorem dX10_routeAt_10 : decode cX10_routeAt 10 = .ok (.ireturn, 1) := by decide +kernel
theorem dX10_stationOf_0 : decode cX10_stationOf 0 = .ok (.aload_n 0, 1) := by decide +kernel
theorem dX10_stationOf_1 : decode cX10_stationOf 1 = .ok (.iload_n 1, 1) := by decide +kernel
theorem dX10_stationOf_2 : decode cX10_stationOf 2 = .ok (.aload_n 0, 1) := by decide +kernel
theorem dX10_stationOf_3 : decode cX10_stationOf 3 = .ok (.iload_n 1, 1) := by decide +kernel
theorem dX10_stationOf_4 : decode cX10_stationOf 4 = .ok (.invokestatic 81, 3) := by decide +kernel
theorem dX10_stationOf_7 : decode cX10_stationOf 7 = .ok (.bipush 8, 2) := by decide +kernel
theorem dX10_stationOf_9 : decode cX10_stationOf 9 = .ok (.iadd, 1) := by decide +kernel
theorem dX10_stationOf_10 : decode cX10_stationOf 10 = .ok (.iaload, 1) := by decide +kernel
theorem dX10_stationOf_11 : decode cX10_stationOf 11 = .ok (.invokestatic 84, 3) := by decide +kernel
theorem dX10_stationOf_14 : decode cX10_stationOf 14 = .ok (.ireturn, 1) := by decide +kernel
theorem dX10_stands_0 : decode cX10_stands 0 = .ok (.aload_n 0, 1) := by decide +kernel
theorem dX10_stands_1 : decode cX10_stands 1 = .ok (.iload_n 1, 1) := by decide +kernel
theorem dX10_stands_2 : decode cX10_stands 2 = .ok (.invokestatic 81, 3) := by decide +kernel
theorem dX10_stands_5 : decode cX10_stands 5 = .ok (.bipush 10, 2) := by decide +kernel
theorem dX10_stands_7 : decode cX10_stands 7 = .ok (.iadd, 1) := by decide +kernel
theorem dX10_stands_8 : decode cX10_stands 8 = .ok (.iaload, 1) := by decide +kernel
theorem dX10_stands_9 : decode cX10_stands 9 = .ok (.iconst (-1), 1) := by decide +kernel
theorem dX10_stands_10 : decode cX10_stands 10 = .ok (.if_icmp .ne 7, 3) := by decide +kernel
theorem dX10_stands_13 : decode cX10_stands 13 = .ok (.iconst 1, 1) := by decide +kernel
theorem dX10_stands_14 : decode cX10_stands 14 = .ok (.goto 4, 3) := by decide +kernel
theorem dX10_stands_17 : decode cX10_stands 17 = .ok (.iconst 0, 1) := by decide +kernel
theorem dX10_stands_18 : decode cX10_stands 18 = .ok (.ireturn, 1) := by decide +kernel
theorem dX10_nextOf_0 : decode cX10_nextOf 0 = .ok (.iload_n 1, 1) := by decide +kernel
theorem dX10_nextOf_1 : decode cX10_nextOf 1 = .ok (.invokestatic 81, 3) := by decide +kernel
theorem dX10_nextOf_4 : decode cX10_nextOf 4 = .ok (.istore_n 2, 1) := by decide +kernel
theorem dX10_nextOf_5 : decode cX10_nextOf 5 = .ok (.aload_n 0, 1) := by decide +kernel
theorem dX10_nextOf_6 : decode cX10_nextOf 6 = .ok (.iload_n 1, 1) := by decide +kernel
theorem dX10_nextOf_7 : decode cX10_nextOf 7 = .ok (.aload_n 0, 1) := by decide +kernel
theorem dX10_nextOf_8 : decode cX10_nextOf 8 = .ok (.iload_n 2, 1) := by decide +kernel
theorem dX10_nextOf_9 : decode cX10_nextOf 9 = .ok (.bipush 8, 2) := by decide +kernel
theorem dX10_nextOf_11 : decode cX10_nextOf 11 = .ok (.iadd, 1) := by decide +kernel
theorem dX10_nextOf_12 : decode cX10_nextOf 12 = .ok (.iaload, 1) := by decide +kernel
theorem dX10_nextOf_13 : decode cX10_nextOf 13 = .ok (.aload_n 0, 1) := by decide +kernel
theorem dX10_nextOf_14 : decode cX10_nextOf 14 = .ok (.iload_n 2, 1) := by decide +kernel
theorem dX10_nextOf_15 : decode cX10_nextOf 15 = .ok (.bipush 9, 2) := by decide +kernel
theorem dX10_nextOf_17 : decode cX10_nextOf 17 = .ok (.iadd, 1) := by decide +kernel
theorem dX10_nextOf_18 : decode cX10_nextOf 18 = .ok (.iaload, 1) := by decide +kernel
theorem dX10_nextOf_19 : decode cX10_nextOf 19 = .ok (.iadd, 1) := by decide +kernel
theorem dX10_nextOf_20 : decode cX10_nextOf 20 = .ok (.invokestatic 84, 3) := by decide +kernel
theorem dX10_nextOf_23 : decode cX10_nextOf 23 = .ok (.ireturn, 1) := by decide +kernel
theorem dX10_carried_0 : decode cX10_carried 0 = .ok (.iconst 0, 1) := by decide +kernel
theorem dX10_carried_1 : decode cX10_carried 1 = .ok (.istore_n 2, 1) := by decide +kernel
theorem dX10_carried_2 : decode cX10_carried 2 = .ok (.iconst 0, 1) := by decide +kernel
theorem dX10_carried_3 : decode cX10_carried 3 = .ok (.istore_n 3, 1) := by decide +kernel
theorem dX10_carried_4 : decode cX10_carried 4 = .ok (.iload_n 3, 1) := by decide +kernel
theorem dX10_carried_5 : decode cX10_carried 5 = .ok (.aload_n 0, 1) := by decide +kernel
theorem dX10_carried_6 : decode cX10_carried 6 = .ok (.iconst 4, 1) := by decide +kernel
theorem dX10_carried_7 : decode cX10_carried 7 = .ok (.iaload, 1) := by decide +kernel
theorem dX10_carried_8 : decode cX10_carried 8 = .ok (.if_icmp .ge 29, 3) := by decide +kernel
theorem dX10_carried_11 : decode cX10_carried 11 = .ok (.iload_n 2, 1) := by decide +kernel
theorem dX10_carried_12 : decode cX10_carried 12 = .ok (.aload_n 0, 1) := by decide +kernel
theorem dX10_carried_13 : decode cX10_carried 13 = .ok (.iload_n 3, 1) := by decide +kernel
theorem dX10_carried_14 : decode cX10_carried 14 = .ok (.invokestatic 88, 3) := by decide +kernel
theorem dX10_carried_17 : decode cX10_carried 17 = .ok (.iconst 4, 1) := by decide +kernel
theorem dX10_carried_18 : decode cX10_carried 18 = .ok (.iadd, 1) := by decide +kernel
theorem dX10_carried_19 : decode cX10_carried 19 = .ok (.iaload, 1) := by decide +kernel
theorem dX10_carried_20 : decode cX10_carried 20 = .ok (.iload_n 1, 1) := by decide +kernel
theorem dX10_carried_21 : decode cX10_carried 21 = .ok (.if_icmp .ne 7, 3) := by decide +kernel
theorem dX10_carried_24 : decode cX10_carried 24 = .ok (.iconst 1, 1) := by decide +kernel
theorem dX10_carried_25 : decode cX10_carried 25 = .ok (.goto 4, 3) := by decide +kernel
theorem dX10_carried_28 : decode cX10_carried 28 = .ok (.iconst 0, 1) := by decide +kernel
theorem dX10_carried_29 : decode cX10_carried 29 = .ok (.iadd, 1) := by decide +kernel
theorem dX10_carried_30 : decode cX10_carried 30 = .ok (.istore_n 2, 1) := by decide +kernel
theorem dX10_carried_31 : decode cX10_carried 31 = .ok (.iinc 3 1, 3) := by decide +kernel
theorem dX10_carried_34 : decode cX10_carried 34 = .ok (.goto (-30), 3) := by decide +kernel
theorem dX10_carried_37 : decode cX10_carried 37 = .ok (.iload_n 2, 1) := by decide +kernel
theorem dX10_carried_38 : decode cX10_carried 38 = .ok (.ireturn, 1) := by decide +kernel
theorem dX10_dropOf_0 : decode cX10_dropOf 0 = .ok (.aload_n 0, 1) := by decide +kernel
theorem dX10_dropOf_1 : decode cX10_dropOf 1 = .ok (.aload_n 1, 1) := by decide +kernel
theorem dX10_dropOf_2 : decode cX10_dropOf 2 = .ok (.aload_n 1, 1) := by decide +kernel
theorem dX10_dropOf_3 : decode cX10_dropOf 3 = .ok (.iload_n 3, 1) := by decide +kernel
theorem dX10_dropOf_4 : decode cX10_dropOf 4 = .ok (.invokestatic 88, 3) := by decide +kernel
theorem dX10_dropOf_7 : decode cX10_dropOf 7 = .ok (.iconst 1, 1) := by decide +kernel
theorem dX10_dropOf_8 : decode cX10_dropOf 8 = .ok (.iadd, 1) := by decide +kernel
theorem dX10_dropOf_9 : decode cX10_dropOf 9 = .ok (.iaload, 1) := by decide +kernel
theorem dX10_dropOf_10 : decode cX10_dropOf 10 = .ok (.invokevirtual 91, 3) := by decide +kernel
theorem dX10_dropOf_13 : decode cX10_dropOf 13 = .ok (.iload_n 2, 1) := by decide +kernel
theorem dX10_dropOf_14 : decode cX10_dropOf 14 = .ok (.invokestatic 81, 3) := by decide +kernel
theorem dX10_dropOf_17 : decode cX10_dropOf 17 = .ok (.istore 4, 2) := by decide +kernel
theorem dX10_dropOf_19 : decode cX10_dropOf 19 = .ok (.iconst (-1), 1) := by decide +kernel
theorem dX10_dropOf_20 : decode cX10_dropOf 20 = .ok (.istore 5, 2) := by decide +kernel
theorem dX10_dropOf_22 : decode cX10_dropOf 22 = .ok (.aload_n 0, 1) := by decide +kernel
theorem dX10_dropOf_23 : decode cX10_dropOf 23 = .ok (.getfield 29, 3) := by decide +kernel
theorem dX10_dropOf_26 : decode cX10_dropOf 26 = .ok (.aload_n 1, 1) := by decide +kernel
theorem dX10_dropOf_27 : decode cX10_dropOf 27 = .ok (.iload_n 2, 1) := by decide +kernel
theorem dX10_dropOf_28 : decode cX10_dropOf 28 = .ok (.invokestatic 95, 3) := by decide +kernel
theorem dX10_dropOf_31 : decode cX10_dropOf 31 = .ok (.iaload, 1) := by decide +kernel
theorem dX10_dropOf_32 : decode cX10_dropOf 32 = .ok (.istore 6, 2) := by decide +kernel
theorem dX10_dropOf_34 : decode cX10_dropOf 34 = .ok (.aload_n 1, 1) := by decide +kernel
theorem dX10_dropOf_35 : decode cX10_dropOf 35 = .ok (.iload 4, 2) := by decide +kernel
theorem dX10_dropOf_37 : decode cX10_dropOf 37 = .ok (.bipush 8, 2) := by decide +kernel
theorem dX10_dropOf_39 : decode cX10_dropOf 39 = .ok (.iadd, 1) := by decide +kernel
theorem dX10_dropOf_40 : decode cX10_dropOf 40 = .ok (.iaload, 1) := by decide +kernel
theorem dX10_dropOf_41 : decode cX10_dropOf 41 = .ok (.aload_n 1, 1) := by decide +kernel
theorem dX10_dropOf_42 : decode cX10_dropOf 42 = .ok (.iload 4, 2) := by decide +kernel
theorem dX10_dropOf_44 : decode cX10_dropOf 44 = .ok (.bipush 9, 2) := by decide +kernel
theorem dX10_dropOf_46 : decode cX10_dropOf 46 = .ok (.iadd, 1) := by decide +kernel
theorem dX10_dropOf_47 : decode cX10_dropOf 47 = .ok (.iaload, 1) := by decide +kernel
theorem dX10_dropOf_48 : decode cX10_dropOf 48 = .ok (.iadd, 1) := by decide +kernel
theorem dX10_dropOf_49 : decode cX10_dropOf 49 = .ok (.istore 7, 2) := by decide +kernel
theorem dX10_dropOf_51 : decode cX10_dropOf 51 = .ok (.iload 7, 2) := by decide +kernel
theorem dX10_dropOf_53 : decode cX10_dropOf 53 = .ok (.iconst 0, 1) := by decide +kernel
theorem dX10_dropOf_54 : decode cX10_dropOf 54 = .ok (.aload_n 1, 1) := by decide +kernel
theorem dX10_dropOf_55 : decode cX10_dropOf 55 = .ok (.iload 4, 2) := by decide +kernel
theorem dX10_dropOf_57 : decode cX10_dropOf 57 = .ok (.iconst 1, 1) := by decide +kernel
theorem dX10_dropOf_58 : decode cX10_dropOf 58 = .ok (.iadd, 1) := by decide +kernel
theorem dX10_dropOf_59 : decode cX10_dropOf 59 = .ok (.iaload, 1) := by decide +kernel
theorem dX10_dropOf_60 : decode cX10_dropOf 60 = .ok (.iconst 1, 1) := by decide +kernel
theorem dX10_dropOf_61 : decode cX10_dropOf 61 = .ok (.isub, 1) := by decide +kernel
theorem dX10_dropOf_62 : decode cX10_dropOf 62 = .ok (.invokestatic 99, 3) := by decide +kernel
theorem dX10_dropOf_65 : decode cX10_dropOf 65 = .ok (.ifCond .eq 52, 3) := by decide +kernel
theorem dX10_dropOf_68 : decode cX10_dropOf 68 = .ok (.aload_n 1, 1) := by decide +kernel
theorem dX10_dropOf_69 : decode cX10_dropOf 69 = .ok (.iload_n 2, 1) := by decide +kernel
theorem dX10_dropOf_70 : decode cX10_dropOf 70 = .ok (.iload 7, 2) := by decide +kernel
theorem dX10_dropOf_72 : decode cX10_dropOf 72 = .ok (.invokestatic 84, 3) := by decide +kernel
theorem dX10_dropOf_75 : decode cX10_dropOf 75 = .ok (.istore 8, 2) := by decide +kernel
theorem dX10_dropOf_77 : decode cX10_dropOf 77 = .ok (.aload_n 0, 1) := by decide +kernel
theorem dX10_dropOf_78 : decode cX10_dropOf 78 = .ok (.getfield 29, 3) := by decide +kernel
theorem dX10_dropOf_81 : decode cX10_dropOf 81 = .ok (.iload 8, 2) := by decide +kernel
theorem dX10_dropOf_83 : decode cX10_dropOf 83 = .ok (.iaload, 1) := by decide +kernel
theorem dX10_dropOf_84 : decode cX10_dropOf 84 = .ok (.iload 6, 2) := by decide +kernel
theorem dX10_dropOf_86 : decode cX10_dropOf 86 = .ok (.if_icmp .ge 16, 3) := by decide +kernel
theorem dX10_dropOf_89 : decode cX10_dropOf 89 = .ok (.iload 8, 2) := by decide +kernel
theorem dX10_dropOf_91 : decode cX10_dropOf 91 = .ok (.istore 5, 2) := by decide +kernel
theorem dX10_dropOf_93 : decode cX10_dropOf 93 = .ok (.aload_n 0, 1) := by decide +kernel
theorem dX10_dropOf_94 : decode cX10_dropOf 94 = .ok (.getfield 29, 3) := by decide +kernel
theorem dX10_dropOf_97 : decode cX10_dropOf 97 = .ok (.iload 8, 2) := by decide +kernel
theorem dX10_dropOf_99 : decode cX10_dropOf 99 = .ok (.iaload, 1) := by decide +kernel
theorem dX10_dropOf_100 : decode cX10_dropOf 100 = .ok (.istore 6, 2) := by decide +kernel
theorem dX10_dropOf_102 : decode cX10_dropOf 102 = .ok (.iload 7, 2) := by decide +kernel
theorem dX10_dropOf_104 : decode cX10_dropOf 104 = .ok (.aload_n 1, 1) := by decide +kernel
theorem dX10_dropOf_105 : decode cX10_dropOf 105 = .ok (.iload 4, 2) := by decide +kernel
theorem dX10_dropOf_107 : decode cX10_dropOf 107 = .ok (.bipush 9, 2) := by decide +kernel
theorem dX10_dropOf_109 : decode cX10_dropOf 109 = .ok (.iadd, 1) := by decide +kernel
theorem dX10_dropOf_110 : decode cX10_dropOf 110 = .ok (.iaload, 1) := by decide +kernel
theorem dX10_dropOf_111 : decode cX10_dropOf 111 = .ok (.iadd, 1) := by decide +kernel
theorem dX10_dropOf_112 : decode cX10_dropOf 112 = .ok (.istore 7, 2) := by decide +kernel
theorem dX10_dropOf_114 : decode cX10_dropOf 114 = .ok (.goto (-63), 3) := by decide +kernel
theorem dX10_dropOf_117 : decode cX10_dropOf 117 = .ok (.iload 5, 2) := by decide +kernel
theorem dX10_dropOf_119 : decode cX10_dropOf 119 = .ok (.ireturn, 1) := by decide +kernel
theorem dX10_isHeldNow_0 : decode cX10_isHeldNow 0 = .ok (.aload_n 0, 1) := by decide +kernel
theorem dX10_isHeldNow_1 : decode cX10_isHeldNow 1 = .ok (.iconst 0, 1) := by decide +kernel
theorem dX10_isHeldNow_2 : decode cX10_isHeldNow 2 = .ok (.iaload, 1) := by decide +kernel
theorem dX10_isHeldNow_3 : decode cX10_isHeldNow 3 = .ok (.aload_n 0, 1) := by decide +kernel
theorem dX10_isHeldNow_4 : decode cX10_isHeldNow 4 = .ok (.iload_n 1, 1) := by decide +kernel
theorem dX10_isHeldNow_5 : decode cX10_isHeldNow 5 = .ok (.invokestatic 88, 3) := by decide +kernel
theorem dX10_isHeldNow_8 : decode cX10_isHeldNow 8 = .ok (.bipush 7, 2) := by decide +kernel
theorem dX10_isHeldNow_10 : decode cX10_isHeldNow 10 = .ok (.iadd, 1) := by decide +kernel
theorem dX10_isHeldNow_11 : decode cX10_isHeldNow 11 = .ok (.iaload, 1) := by decide +kernel
theorem dX10_isHeldNow_12 : decode cX10_isHeldNow 12 = .ok (.if_icmp .ge 7, 3) := by decide +kernel
theorem dX10_isHeldNow_15 : decode cX10_isHeldNow 15 = .ok (.iconst 1, 1) := by decide +kernel
theorem dX10_isHeldNow_16 : decode cX10_isHeldNow 16 = .ok (.goto 4, 3) := by decide +kernel
theorem dX10_isHeldNow_19 : decode cX10_isHeldNow 19 = .ok (.iconst 0, 1) := by decide +kernel
theorem dX10_isHeldNow_20 : decode cX10_isHeldNow 20 = .ok (.ireturn, 1) := by decide +kernel
theorem dX10_waitsAt_0 : decode cX10_waitsAt 0 = .ok (.aload_n 0, 1) := by decide +kernel
theorem dX10_waitsAt_1 : decode cX10_waitsAt 1 = .ok (.iload_n 1, 1) := by decide +kernel
theorem dX10_waitsAt_2 : decode cX10_waitsAt 2 = .ok (.invokestatic 88, 3) := by decide +kernel
theorem dX10_waitsAt_5 : decode cX10_waitsAt 5 = .ok (.iconst 3, 1) := by decide +kernel
theorem dX10_waitsAt_6 : decode cX10_waitsAt 6 = .ok (.iadd, 1) := by decide +kernel
theorem dX10_waitsAt_7 : decode cX10_waitsAt 7 = .ok (.iaload, 1) := by decide +kernel
theorem dX10_waitsAt_8 : decode cX10_waitsAt 8 = .ok (.iload_n 2, 1) := by decide +kernel
theorem dX10_waitsAt_9 : decode cX10_waitsAt 9 = .ok (.if_icmp .ne 7, 3) := by decide +kernel
theorem dX10_waitsAt_12 : decode cX10_waitsAt 12 = .ok (.iconst 1, 1) := by decide +kernel
theorem dX10_waitsAt_13 : decode cX10_waitsAt 13 = .ok (.goto 4, 3) := by decide +kernel
theorem dX10_waitsAt_16 : decode cX10_waitsAt 16 = .ok (.iconst 0, 1) := by decide +kernel
theorem dX10_waitsAt_17 : decode cX10_waitsAt 17 = .ok (.ireturn, 1) := by decide +kernel
theorem dX10_isAhead_0 : decode cX10_isAhead 0 = .ok (.aload_n 0, 1) := by decide +kernel
theorem dX10_isAhead_1 : decode cX10_isAhead 1 = .ok (.iload_n 1, 1) := by decide +kernel
theorem dX10_isAhead_2 : decode cX10_isAhead 2 = .ok (.invokestatic 88, 3) := by decide +kernel
theorem dX10_isAhead_5 : decode cX10_isAhead 5 = .ok (.iconst 2, 1) := by decide +kernel
theorem dX10_isAhead_6 : decode cX10_isAhead 6 = .ok (.iadd, 1) := by decide +kernel
theorem dX10_isAhead_7 : decode cX10_isAhead 7 = .ok (.iaload, 1) := by decide +kernel
theorem dX10_isAhead_8 : decode cX10_isAhead 8 = .ok (.aload_n 0, 1) := by decide +kernel
theorem dX10_isAhead_9 : decode cX10_isAhead 9 = .ok (.iload_n 2, 1) := by decide +kernel
theorem dX10_isAhead_10 : decode cX10_isAhead 10 = .ok (.invokestatic 88, 3) := by decide +kernel
theorem dX10_isAhead_13 : decode cX10_isAhead 13 = .ok (.iconst 2, 1) := by decide +kernel
theorem dX10_isAhead_14 : decode cX10_isAhead 14 = .ok (.iadd, 1) := by decide +kernel
theorem dX10_isAhead_15 : decode cX10_isAhead 15 = .ok (.iaload, 1) := by decide +kernel
theorem dX10_isAhead_16 : decode cX10_isAhead 16 = .ok (.isub, 1) := by decide +kernel
theorem dX10_isAhead_17 : decode cX10_isAhead 17 = .ok (.istore_n 3, 1) := by decide +kernel
theorem dX10_isAhead_18 : decode cX10_isAhead 18 = .ok (.iload_n 3, 1) := by decide +kernel
theorem dX10_isAhead_19 : decode cX10_isAhead 19 = .ok (.ifCond .gt 12, 3) := by decide +kernel
theorem dX10_isAhead_22 : decode cX10_isAhead 22 = .ok (.iload_n 3, 1) := by decide +kernel
theorem dX10_isAhead_23 : decode cX10_isAhead 23 = .ok (.ifCond .ne 12, 3) := by decide +kernel
theorem dX10_isAhead_26 : decode cX10_isAhead 26 = .ok (.iload_n 1, 1) := by decide +kernel
theorem dX10_isAhead_27 : decode cX10_isAhead 27 = .ok (.iload_n 2, 1) := by decide +kernel
theorem dX10_isAhead_28 : decode cX10_isAhead 28 = .ok (.if_icmp .ge 7, 3) := by decide +kernel
theorem dX10_isAhead_31 : decode cX10_isAhead 31 = .ok (.iconst 1, 1) := by decide +kernel
theorem dX10_isAhead_32 : decode cX10_isAhead 32 = .ok (.goto 4, 3) := by decide +kernel
theorem dX10_isAhead_35 : decode cX10_isAhead 35 = .ok (.iconst 0, 1) := by decide +kernel
theorem dX10_isAhead_36 : decode cX10_isAhead 36 = .ok (.ireturn, 1) := by decide +kernel
theorem dX10_considered_0 : decode cX10_considered 0 = .ok (.iconst 0, 1) := by decide +kernel
theorem dX10_considered_1 : decode cX10_considered 1 = .ok (.istore_n 3, 1) := by decide +kernel
theorem dX10_considered_2 : decode cX10_considered 2 = .ok (.iload_n 3, 1) := by decide +kernel
theorem dX10_considered_3 : decode cX10_considered 3 = .ok (.aload_n 0, 1) := by decide +kernel
theorem dX10_considered_4 : decode cX10_considered 4 = .ok (.iconst 4, 1) := by decide +kernel
theorem dX10_considered_5 : decode cX10_considered 5 = .ok (.iaload, 1) := by decide +kernel
theorem dX10_considered_6 : decode cX10_considered 6 = .ok (.if_icmp .ge 76, 3) := by decide +kernel
theorem dX10_considered_9 : decode cX10_considered 9 = .ok (.iconst 0, 1) := by decide +kernel
theorem dX10_considered_10 : decode cX10_considered 10 = .ok (.istore 4, 2) := by decide +kernel
theorem dX10_considered_12 : decode cX10_considered 12 = .ok (.iconst 0, 1) := by decide +kernel
theorem dX10_considered_13 : decode cX10_considered 13 = .ok (.istore 5, 2) := by decide +kernel
theorem dX10_considered_15 : decode cX10_considered 15 = .ok (.iload 5, 2) := by decide +kernel
theorem dX10_considered_17 : decode cX10_considered 17 = .ok (.aload_n 0, 1) := by decide +kernel
theorem dX10_considered_18 : decode cX10_considered 18 = .ok (.iconst 4, 1) := by decide +kernel
theorem dX10_considered_19 : decode cX10_considered 19 = .ok (.iaload, 1) := by decide +kernel
theorem dX10_considered_20 : decode cX10_considered 20 = .ok (.if_icmp .ge 39, 3) := by decide +kernel
theorem dX10_considered_23 : decode cX10_considered 23 = .ok (.iload 4, 2) := by decide +kernel
theorem dX10_considered_25 : decode cX10_considered 25 = .ok (.aload_n 0, 1) := by decide +kernel
theorem dX10_considered_26 : decode cX10_considered 26 = .ok (.iload 5, 2) := by decide +kernel
theorem dX10_considered_28 : decode cX10_considered 28 = .ok (.iload_n 1, 1) := by decide +kernel
theorem dX10_considered_29 : decode cX10_considered 29 = .ok (.invokestatic 102, 3) := by decide +kernel
theorem dX10_considered_32 : decode cX10_considered 32 = .ok (.ifCond .eq 17, 3) := by decide +kernel
theorem dX10_considered_35 : decode cX10_considered 35 = .ok (.aload_n 0, 1) := by decide +kernel
theorem dX10_considered_36 : decode cX10_considered 36 = .ok (.iload 5, 2) := by decide +kernel
theorem dX10_considered_38 : decode cX10_considered 38 = .ok (.iload_n 3, 1) := by decide +kernel
theorem dX10_considered_39 : decode cX10_considered 39 = .ok (.invokestatic 106, 3) := by decide +kernel
theorem dX10_considered_42 : decode cX10_considered 42 = .ok (.ifCond .eq 7, 3) := by decide +kernel
theorem dX10_considered_45 : decode cX10_considered 45 = .ok (.iconst 1, 1) := by decide +kernel
theorem dX10_considered_46 : decode cX10_considered 46 = .ok (.goto 4, 3) := by decide +kernel
theorem dX10_considered_49 : decode cX10_considered 49 = .ok (.iconst 0, 1) := by decide +kernel
theorem dX10_considered_50 : decode cX10_considered 50 = .ok (.iadd, 1) := by decide +kernel
theorem dX10_considered_51 : decode cX10_considered 51 = .ok (.istore 4, 2) := by decide +kernel
theorem dX10_considered_53 : decode cX10_considered 53 = .ok (.iinc 5 1, 3) := by decide +kernel
theorem dX10_considered_56 : decode cX10_considered 56 = .ok (.goto (-41), 3) := by decide +kernel
theorem dX10_considered_59 : decode cX10_considered 59 = .ok (.aload_n 0, 1) := by decide +kernel
theorem dX10_considered_60 : decode cX10_considered 60 = .ok (.iload_n 3, 1) := by decide +kernel
theorem dX10_considered_61 : decode cX10_considered 61 = .ok (.iload_n 1, 1) := by decide +kernel
theorem dX10_considered_62 : decode cX10_considered 62 = .ok (.invokestatic 102, 3) := by decide +kernel
theorem dX10_considered_65 : decode cX10_considered 65 = .ok (.ifCond .eq 11, 3) := by decide +kernel
theorem dX10_considered_68 : decode cX10_considered 68 = .ok (.iload 4, 2) := by decide +kernel
theorem dX10_considered_70 : decode cX10_considered 70 = .ok (.iload_n 2, 1) := by decide +kernel
theorem dX10_considered_71 : decode cX10_considered 71 = .ok (.if_icmp .ne 5, 3) := by decide +kernel
theorem dX10_considered_74 : decode cX10_considered 74 = .ok (.iload_n 3, 1) := by decide +kernel
theorem dX10_considered_75 : decode cX10_considered 75 = .ok (.ireturn, 1) := by decide +kernel
theorem dX10_considered_76 : decode cX10_considered 76 = .ok (.iinc 3 1, 3) := by decide +kernel
theorem dX10_considered_79 : decode cX10_considered 79 = .ok (.goto (-77), 3) := by decide +kernel
theorem dX10_considered_82 : decode cX10_considered 82 = .ok (.iconst (-1), 1) := by decide +kernel
theorem dX10_considered_83 : decode cX10_considered 83 = .ok (.ireturn, 1) := by decide +kernel
theorem dX10_waitingAt_0 : decode cX10_waitingAt 0 = .ok (.iconst 0, 1) := by decide +kernel
theorem dX10_waitingAt_1 : decode cX10_waitingAt 1 = .ok (.istore_n 2, 1) := by decide +kernel
theorem dX10_waitingAt_2 : decode cX10_waitingAt 2 = .ok (.iconst 0, 1) := by decide +kernel
theorem dX10_waitingAt_3 : decode cX10_waitingAt 3 = .ok (.istore_n 3, 1) := by decide +kernel
theorem dX10_waitingAt_4 : decode cX10_waitingAt 4 = .ok (.iload_n 3, 1) := by decide +kernel
theorem dX10_waitingAt_5 : decode cX10_waitingAt 5 = .ok (.aload_n 0, 1) := by decide +kernel
theorem dX10_waitingAt_6 : decode cX10_waitingAt 6 = .ok (.iconst 4, 1) := by decide +kernel
theorem dX10_waitingAt_7 : decode cX10_waitingAt 7 = .ok (.iaload, 1) := by decide +kernel
theorem dX10_waitingAt_8 : decode cX10_waitingAt 8 = .ok (.if_icmp .ge 26, 3) := by decide +kernel
theorem dX10_waitingAt_11 : decode cX10_waitingAt 11 = .ok (.iload_n 2, 1) := by decide +kernel
theorem dX10_waitingAt_12 : decode cX10_waitingAt 12 = .ok (.aload_n 0, 1) := by decide +kernel
theorem dX10_waitingAt_13 : decode cX10_waitingAt 13 = .ok (.iload_n 3, 1) := by decide +kernel
theorem dX10_waitingAt_14 : decode cX10_waitingAt 14 = .ok (.iload_n 1, 1) := by decide +kernel
theorem dX10_waitingAt_15 : decode cX10_waitingAt 15 = .ok (.invokestatic 102, 3) := by decide +kernel
theorem dX10_waitingAt_18 : decode cX10_waitingAt 18 = .ok (.ifCond .eq 7, 3) := by decide +kernel
theorem dX10_waitingAt_21 : decode cX10_waitingAt 21 = .ok (.iconst 1, 1) := by decide +kernel
theorem dX10_waitingAt_22 : decode cX10_waitingAt 22 = .ok (.goto 4, 3) := by decide +kernel
theorem dX10_waitingAt_25 : decode cX10_waitingAt 25 = .ok (.iconst 0, 1) := by decide +kernel
theorem dX10_waitingAt_26 : decode cX10_waitingAt 26 = .ok (.iadd, 1) := by decide +kernel
theorem dX10_waitingAt_27 : decode cX10_waitingAt 27 = .ok (.istore_n 2, 1) := by decide +kernel
theorem dX10_waitingAt_28 : decode cX10_waitingAt 28 = .ok (.iinc 3 1, 3) := by decide +kernel
theorem dX10_waitingAt_31 : decode cX10_waitingAt 31 = .ok (.goto (-27), 3) := by decide +kernel
theorem dX10_waitingAt_34 : decode cX10_waitingAt 34 = .ok (.iload_n 2, 1) := by decide +kernel
theorem dX10_waitingAt_35 : decode cX10_waitingAt 35 = .ok (.ireturn, 1) := by decide +kernel
theorem dX10_canLoad_0 : decode cX10_canLoad 0 = .ok (.aload_n 1, 1) := by decide +kernel
theorem dX10_canLoad_1 : decode cX10_canLoad 1 = .ok (.iload_n 3, 1) := by decide +kernel
theorem dX10_canLoad_2 : decode cX10_canLoad 2 = .ok (.invokestatic 109, 3) := by decide +kernel
theorem dX10_canLoad_5 : decode cX10_canLoad 5 = .ok (.ifCond .ne 18, 3) := by decide +kernel
theorem dX10_canLoad_8 : decode cX10_canLoad 8 = .ok (.aload_n 0, 1) := by decide +kernel
theorem dX10_canLoad_9 : decode cX10_canLoad 9 = .ok (.aload_n 1, 1) := by decide +kernel
theorem dX10_canLoad_10 : decode cX10_canLoad 10 = .ok (.iload_n 2, 1) := by decide +kernel
theorem dX10_canLoad_11 : decode cX10_canLoad 11 = .ok (.iload_n 3, 1) := by decide +kernel
theorem dX10_canLoad_12 : decode cX10_canLoad 12 = .ok (.invokevirtual 113, 3) := by decide +kernel
theorem dX10_canLoad_15 : decode cX10_canLoad 15 = .ok (.iconst (-1), 1) := by decide +kernel
theorem dX10_canLoad_16 : decode cX10_canLoad 16 = .ok (.if_icmp .eq 7, 3) := by decide +kernel
theorem dX10_canLoad_19 : decode cX10_canLoad 19 = .ok (.iconst 1, 1) := by decide +kernel
theorem dX10_canLoad_20 : decode cX10_canLoad 20 = .ok (.goto 4, 3) := by decide +kernel
theorem dX10_canLoad_23 : decode cX10_canLoad 23 = .ok (.iconst 0, 1) := by decide +kernel
theorem dX10_canLoad_24 : decode cX10_canLoad 24 = .ok (.ireturn, 1) := by decide +kernel
theorem dX10_wouldLoad_0 : decode cX10_wouldLoad 0 = .ok (.aload_n 1, 1) := by decide +kernel
theorem dX10_wouldLoad_1 : decode cX10_wouldLoad 1 = .ok (.iload_n 2, 1) := by decide +kernel
theorem dX10_wouldLoad_2 : decode cX10_wouldLoad 2 = .ok (.invokestatic 95, 3) := by decide +kernel
theorem dX10_wouldLoad_5 : decode cX10_wouldLoad 5 = .ok (.istore_n 3, 1) := by decide +kernel
theorem dX10_wouldLoad_6 : decode cX10_wouldLoad 6 = .ok (.iconst 0, 1) := by decide +kernel
theorem dX10_wouldLoad_7 : decode cX10_wouldLoad 7 = .ok (.istore 4, 2) := by decide +kernel
theorem dX10_wouldLoad_9 : decode cX10_wouldLoad 9 = .ok (.iconst 0, 1) := by decide +kernel
theorem dX10_wouldLoad_10 : decode cX10_wouldLoad 10 = .ok (.istore 5, 2) := by decide +kernel
theorem dX10_wouldLoad_12 : decode cX10_wouldLoad 12 = .ok (.iload 5, 2) := by decide +kernel
theorem dX10_wouldLoad_14 : decode cX10_wouldLoad 14 = .ok (.aload_n 1, 1) := by decide +kernel
theorem dX10_wouldLoad_15 : decode cX10_wouldLoad 15 = .ok (.iconst 4, 1) := by decide +kernel
theorem dX10_wouldLoad_16 : decode cX10_wouldLoad 16 = .ok (.iaload, 1) := by decide +kernel
theorem dX10_wouldLoad_17 : decode cX10_wouldLoad 17 = .ok (.if_icmp .ge 58, 3) := by decide +kernel
theorem dX10_wouldLoad_20 : decode cX10_wouldLoad 20 = .ok (.aload_n 1, 1) := by decide +kernel
theorem dX10_wouldLoad_21 : decode cX10_wouldLoad 21 = .ok (.iload_n 2, 1) := by decide +kernel
theorem dX10_wouldLoad_22 : decode cX10_wouldLoad 22 = .ok (.invokestatic 116, 3) := by decide +kernel
theorem dX10_wouldLoad_25 : decode cX10_wouldLoad 25 = .ok (.aload_n 1, 1) := by decide +kernel
theorem dX10_wouldLoad_26 : decode cX10_wouldLoad 26 = .ok (.iload_n 2, 1) := by decide +kernel
theorem dX10_wouldLoad_27 : decode cX10_wouldLoad 27 = .ok (.invokestatic 81, 3) := by decide +kernel
theorem dX10_wouldLoad_30 : decode cX10_wouldLoad 30 = .ok (.iconst 0, 1) := by decide +kernel
theorem dX10_wouldLoad_31 : decode cX10_wouldLoad 31 = .ok (.iadd, 1) := by decide +kernel
theorem dX10_wouldLoad_32 : decode cX10_wouldLoad 32 = .ok (.iaload, 1) := by decide +kernel
theorem dX10_wouldLoad_33 : decode cX10_wouldLoad 33 = .ok (.if_icmp .ge 42, 3) := by decide +kernel
theorem dX10_wouldLoad_36 : decode cX10_wouldLoad 36 = .ok (.iload 4, 2) := by decide +kernel
theorem dX10_wouldLoad_38 : decode cX10_wouldLoad 38 = .ok (.ifCond .ne 24, 3) := by decide +kernel
theorem dX10_wouldLoad_41 : decode cX10_wouldLoad 41 = .ok (.aload_n 1, 1) := by decide +kernel
theorem dX10_wouldLoad_42 : decode cX10_wouldLoad 42 = .ok (.iload 5, 2) := by decide +kernel
theorem dX10_wouldLoad_44 : decode cX10_wouldLoad 44 = .ok (.iload_n 3, 1) := by decide +kernel
theorem dX10_wouldLoad_45 : decode cX10_wouldLoad 45 = .ok (.invokestatic 102, 3) := by decide +kernel
theorem dX10_wouldLoad_48 : decode cX10_wouldLoad 48 = .ok (.ifCond .eq 18, 3) := by decide +kernel
theorem dX10_wouldLoad_51 : decode cX10_wouldLoad 51 = .ok (.aload_n 0, 1) := by decide +kernel
theorem dX10_wouldLoad_52 : decode cX10_wouldLoad 52 = .ok (.aload_n 1, 1) := by decide +kernel
theorem dX10_wouldLoad_53 : decode cX10_wouldLoad 53 = .ok (.iload_n 2, 1) := by decide +kernel
theorem dX10_wouldLoad_54 : decode cX10_wouldLoad 54 = .ok (.iload 5, 2) := by decide +kernel
theorem dX10_wouldLoad_56 : decode cX10_wouldLoad 56 = .ok (.invokevirtual 119, 3) := by decide +kernel
theorem dX10_wouldLoad_59 : decode cX10_wouldLoad 59 = .ok (.ifCond .eq 7, 3) := by decide +kernel
theorem dX10_wouldLoad_62 : decode cX10_wouldLoad 62 = .ok (.iconst 1, 1) := by decide +kernel
theorem dX10_wouldLoad_63 : decode cX10_wouldLoad 63 = .ok (.goto 4, 3) := by decide +kernel
theorem dX10_wouldLoad_66 : decode cX10_wouldLoad 66 = .ok (.iconst 0, 1) := by decide +kernel
theorem dX10_wouldLoad_67 : decode cX10_wouldLoad 67 = .ok (.istore 4, 2) := by decide +kernel
theorem dX10_wouldLoad_69 : decode cX10_wouldLoad 69 = .ok (.iinc 5 1, 3) := by decide +kernel
theorem dX10_wouldLoad_72 : decode cX10_wouldLoad 72 = .ok (.goto (-60), 3) := by decide +kernel
theorem dX10_wouldLoad_75 : decode cX10_wouldLoad 75 = .ok (.iload 4, 2) := by decide +kernel
theorem dX10_wouldLoad_77 : decode cX10_wouldLoad 77 = .ok (.ireturn, 1) := by decide +kernel
theorem dX10_loadAll_0 : decode cX10_loadAll 0 = .ok (.aload_n 1, 1) := by decide +kernel
theorem dX10_loadAll_1 : decode cX10_loadAll 1 = .ok (.iload_n 2, 1) := by decide +kernel
theorem dX10_loadAll_2 : decode cX10_loadAll 2 = .ok (.invokestatic 95, 3) := by decide +kernel
theorem dX10_loadAll_5 : decode cX10_loadAll 5 = .ok (.istore_n 3, 1) := by decide +kernel
theorem dX10_loadAll_6 : decode cX10_loadAll 6 = .ok (.aload_n 1, 1) := by decide +kernel
theorem dX10_loadAll_7 : decode cX10_loadAll 7 = .ok (.iload_n 2, 1) := by decide +kernel
theorem dX10_loadAll_8 : decode cX10_loadAll 8 = .ok (.invokestatic 81, 3) := by decide +kernel
theorem dX10_loadAll_11 : decode cX10_loadAll 11 = .ok (.iconst 0, 1) := by decide +kernel
theorem dX10_loadAll_12 : decode cX10_loadAll 12 = .ok (.iadd, 1) := by decide +kernel
theorem dX10_loadAll_13 : decode cX10_loadAll 13 = .ok (.iaload, 1) := by decide +kernel
theorem dX10_loadAll_14 : decode cX10_loadAll 14 = .ok (.aload_n 1, 1) := by decide +kernel
theorem dX10_loadAll_15 : decode cX10_loadAll 15 = .ok (.iload_n 2, 1) := by decide +kernel
theorem dX10_loadAll_16 : decode cX10_loadAll 16 = .ok (.invokestatic 116, 3) := by decide +kernel
theorem dX10_loadAll_19 : decode cX10_loadAll 19 = .ok (.isub, 1) := by decide +kernel
theorem dX10_loadAll_20 : decode cX10_loadAll 20 = .ok (.istore 4, 2) := by decide +kernel
theorem dX10_loadAll_22 : decode cX10_loadAll 22 = .ok (.iconst 0, 1) := by decide +kernel
theorem dX10_loadAll_23 : decode cX10_loadAll 23 = .ok (.istore 5, 2) := by decide +kernel
theorem dX10_loadAll_25 : decode cX10_loadAll 25 = .ok (.aload_n 1, 1) := by decide +kernel
theorem dX10_loadAll_26 : decode cX10_loadAll 26 = .ok (.iload_n 3, 1) := by decide +kernel
theorem dX10_loadAll_27 : decode cX10_loadAll 27 = .ok (.iconst 0, 1) := by decide +kernel
theorem dX10_loadAll_28 : decode cX10_loadAll 28 = .ok (.invokestatic 122, 3) := by decide +kernel
theorem dX10_loadAll_31 : decode cX10_loadAll 31 = .ok (.istore 6, 2) := by decide +kernel
theorem dX10_loadAll_33 : decode cX10_loadAll 33 = .ok (.iload 6, 2) := by decide +kernel
theorem dX10_loadAll_35 : decode cX10_loadAll 35 = .ok (.iconst (-1), 1) := by decide +kernel
theorem dX10_loadAll_36 : decode cX10_loadAll 36 = .ok (.if_icmp .eq 82, 3) := by decide +kernel
theorem dX10_loadAll_39 : decode cX10_loadAll 39 = .ok (.iload 4, 2) := by decide +kernel
theorem dX10_loadAll_41 : decode cX10_loadAll 41 = .ok (.ifCond .le 77, 3) := by decide +kernel
theorem dX10_loadAll_44 : decode cX10_loadAll 44 = .ok (.aload_n 0, 1) := by decide +kernel
theorem dX10_loadAll_45 : decode cX10_loadAll 45 = .ok (.aload_n 1, 1) := by decide +kernel
theorem dX10_loadAll_46 : decode cX10_loadAll 46 = .ok (.iload_n 2, 1) := by decide +kernel
theorem dX10_loadAll_47 : decode cX10_loadAll 47 = .ok (.iload 6, 2) := by decide +kernel
theorem dX10_loadAll_49 : decode cX10_loadAll 49 = .ok (.invokevirtual 119, 3) := by decide +kernel
theorem dX10_loadAll_52 : decode cX10_loadAll 52 = .ok (.ifCond .eq 51, 3) := by decide +kernel
theorem dX10_loadAll_55 : decode cX10_loadAll 55 = .ok (.iload 6, 2) := by decide +kernel
theorem dX10_loadAll_57 : decode cX10_loadAll 57 = .ok (.invokestatic 88, 3) := by decide +kernel
theorem dX10_loadAll_60 : decode cX10_loadAll 60 = .ok (.istore 7, 2) := by decide +kernel
theorem dX10_loadAll_62 : decode cX10_loadAll 62 = .ok (.aload_n 1, 1) := by decide +kernel
theorem dX10_loadAll_63 : decode cX10_loadAll 63 = .ok (.iload 7, 2) := by decide +kernel
theorem dX10_loadAll_65 : decode cX10_loadAll 65 = .ok (.iconst 5, 1) := by decide +kernel
theorem dX10_loadAll_66 : decode cX10_loadAll 66 = .ok (.iadd, 1) := by decide +kernel
theorem dX10_loadAll_67 : decode cX10_loadAll 67 = .ok (.aload_n 0, 1) := by decide +kernel
theorem dX10_loadAll_68 : decode cX10_loadAll 68 = .ok (.aload_n 1, 1) := by decide +kernel
theorem dX10_loadAll_69 : decode cX10_loadAll 69 = .ok (.iload_n 2, 1) := by decide +kernel
theorem dX10_loadAll_70 : decode cX10_loadAll 70 = .ok (.iload 6, 2) := by decide +kernel
theorem dX10_loadAll_72 : decode cX10_loadAll 72 = .ok (.invokevirtual 113, 3) := by decide +kernel
theorem dX10_loadAll_75 : decode cX10_loadAll 75 = .ok (.iastore, 1) := by decide +kernel
theorem dX10_loadAll_76 : decode cX10_loadAll 76 = .ok (.aload_n 1, 1) := by decide +kernel
theorem dX10_loadAll_77 : decode cX10_loadAll 77 = .ok (.iload 7, 2) := by decide +kernel
theorem dX10_loadAll_79 : decode cX10_loadAll 79 = .ok (.iconst 3, 1) := by decide +kernel
theorem dX10_loadAll_80 : decode cX10_loadAll 80 = .ok (.iadd, 1) := by decide +kernel
theorem dX10_loadAll_81 : decode cX10_loadAll 81 = .ok (.iconst (-1), 1) := by decide +kernel
theorem dX10_loadAll_82 : decode cX10_loadAll 82 = .ok (.iastore, 1) := by decide +kernel
theorem dX10_loadAll_83 : decode cX10_loadAll 83 = .ok (.aload_n 1, 1) := by decide +kernel
theorem dX10_loadAll_84 : decode cX10_loadAll 84 = .ok (.iload 7, 2) := by decide +kernel
theorem dX10_loadAll_86 : decode cX10_loadAll 86 = .ok (.iconst 4, 1) := by decide +kernel
theorem dX10_loadAll_87 : decode cX10_loadAll 87 = .ok (.iadd, 1) := by decide +kernel
theorem dX10_loadAll_88 : decode cX10_loadAll 88 = .ok (.iload_n 2, 1) := by decide +kernel
theorem dX10_loadAll_89 : decode cX10_loadAll 89 = .ok (.iastore, 1) := by decide +kernel
theorem dX10_loadAll_90 : decode cX10_loadAll 90 = .ok (.aload_n 1, 1) := by decide +kernel
theorem dX10_loadAll_91 : decode cX10_loadAll 91 = .ok (.iconst 5, 1) := by decide +kernel
theorem dX10_loadAll_92 : decode cX10_loadAll 92 = .ok (.dup2, 1) := by decide +kernel
theorem dX10_loadAll_93 : decode cX10_loadAll 93 = .ok (.iaload, 1) := by decide +kernel
theorem dX10_loadAll_94 : decode cX10_loadAll 94 = .ok (.iconst 1, 1) := by decide +kernel
theorem dX10_loadAll_95 : decode cX10_loadAll 95 = .ok (.iadd, 1) := by decide +kernel
theorem dX10_loadAll_96 : decode cX10_loadAll 96 = .ok (.iastore, 1) := by decide +kernel
theorem dX10_loadAll_97 : decode cX10_loadAll 97 = .ok (.iinc 4 (-1), 3) := by decide +kernel
theorem dX10_loadAll_100 : decode cX10_loadAll 100 = .ok (.goto 6, 3) := by decide +kernel
theorem dX10_loadAll_103 : decode cX10_loadAll 103 = .ok (.iinc 5 1, 3) := by decide +kernel
theorem dX10_loadAll_106 : decode cX10_loadAll 106 = .ok (.aload_n 1, 1) := by decide +kernel
theorem dX10_loadAll_107 : decode cX10_loadAll 107 = .ok (.iload_n 3, 1) := by decide +kernel
theorem dX10_loadAll_108 : decode cX10_loadAll 108 = .ok (.iload 5, 2) := by decide +kernel
theorem dX10_loadAll_110 : decode cX10_loadAll 110 = .ok (.invokestatic 122, 3) := by decide +kernel
theorem dX10_loadAll_113 : decode cX10_loadAll 113 = .ok (.istore 6, 2) := by decide +kernel
theorem dX10_loadAll_115 : decode cX10_loadAll 115 = .ok (.goto (-82), 3) := by decide +kernel
theorem dX10_loadAll_118 : decode cX10_loadAll 118 = .ok (.return_, 1) := by decide +kernel
theorem dX10_depart_0 : decode cX10_depart 0 = .ok (.iload_n 1, 1) := by decide +kernel
theorem dX10_depart_1 : decode cX10_depart 1 = .ok (.invokestatic 81, 3) := by decide +kernel
theorem dX10_depart_4 : decode cX10_depart 4 = .ok (.istore_n 2, 1) := by decide +kernel
theorem dX10_depart_5 : decode cX10_depart 5 = .ok (.aload_n 0, 1) := by decide +kernel
theorem dX10_depart_6 : decode cX10_depart 6 = .ok (.aload_n 0, 1) := by decide +kernel
theorem dX10_depart_7 : decode cX10_depart 7 = .ok (.aload_n 0, 1) := by decide +kernel
theorem dX10_depart_8 : decode cX10_depart 8 = .ok (.iload_n 1, 1) := by decide +kernel
theorem dX10_depart_9 : decode cX10_depart 9 = .ok (.invokestatic 95, 3) := by decide +kernel
theorem dX10_depart_12 : decode cX10_depart 12 = .ok (.aload_n 0, 1) := by decide +kernel
theorem dX10_depart_13 : decode cX10_depart 13 = .ok (.iload_n 1, 1) := by decide +kernel
theorem dX10_depart_14 : decode cX10_depart 14 = .ok (.invokestatic 125, 3) := by decide +kernel
theorem dX10_depart_17 : decode cX10_depart 17 = .ok (.invokestatic 128, 3) := by decide +kernel
theorem dX10_depart_20 : decode cX10_depart 20 = .ok (.invokestatic 131, 3) := by decide +kernel
theorem dX10_depart_23 : decode cX10_depart 23 = .ok (.istore_n 3, 1) := by decide +kernel
theorem dX10_depart_24 : decode cX10_depart 24 = .ok (.aload_n 0, 1) := by decide +kernel
theorem dX10_depart_25 : decode cX10_depart 25 = .ok (.iload_n 2, 1) := by decide +kernel
theorem dX10_depart_26 : decode cX10_depart 26 = .ok (.bipush 10, 2) := by decide +kernel
theorem dX10_depart_28 : decode cX10_depart 28 = .ok (.iadd, 1) := by decide +kernel
theorem dX10_depart_29 : decode cX10_depart 29 = .ok (.iload_n 3, 1) := by decide +kernel
theorem dX10_depart_30 : decode cX10_depart 30 = .ok (.ifCond .eq 7, 3) := by decide +kernel
theorem dX10_depart_33 : decode cX10_depart 33 = .ok (.iconst 0, 1) := by decide +kernel
theorem dX10_depart_34 : decode cX10_depart 34 = .ok (.goto 4, 3) := by decide +kernel
theorem dX10_depart_37 : decode cX10_depart 37 = .ok (.iconst (-1), 1) := by decide +kernel
theorem dX10_depart_38 : decode cX10_depart 38 = .ok (.iastore, 1) := by decide +kernel
theorem dX10_depart_39 : decode cX10_depart 39 = .ok (.aload_n 0, 1) := by decide +kernel
theorem dX10_depart_40 : decode cX10_depart 40 = .ok (.iload_n 2, 1) := by decide +kernel
theorem dX10_depart_41 : decode cX10_depart 41 = .ok (.bipush 11, 2) := by decide +kernel
theorem dX10_depart_43 : decode cX10_depart 43 = .ok (.iadd, 1) := by decide +kernel
theorem dX10_depart_44 : decode cX10_depart 44 = .ok (.dup2, 1) := by decide +kernel
theorem dX10_depart_45 : decode cX10_depart 45 = .ok (.iaload, 1) := by decide +kernel
theorem dX10_depart_46 : decode cX10_depart 46 = .ok (.iload_n 3, 1) := by decide +kernel
theorem dX10_depart_47 : decode cX10_depart 47 = .ok (.ifCond .eq 7, 3) := by decide +kernel
theorem dX10_depart_50 : decode cX10_depart 50 = .ok (.iconst 0, 1) := by decide +kernel
theorem dX10_depart_51 : decode cX10_depart 51 = .ok (.goto 4, 3) := by decide +kernel
theorem dX10_depart_54 : decode cX10_depart 54 = .ok (.iconst 1, 1) := by decide +kernel
theorem dX10_depart_55 : decode cX10_depart 55 = .ok (.iadd, 1) := by decide +kernel
theorem dX10_depart_56 : decode cX10_depart 56 = .ok (.iastore, 1) := by decide +kernel
theorem dX10_depart_57 : decode cX10_depart 57 = .ok (.return_, 1) := by decide +kernel
theorem dX10_unload_0 : decode cX10_unload 0 = .ok (.aload_n 0, 1) := by decide +kernel
theorem dX10_unload_1 : decode cX10_unload 1 = .ok (.iload_n 1, 1) := by decide +kernel
theorem dX10_unload_2 : decode cX10_unload 2 = .ok (.invokestatic 95, 3) := by decide +kernel
theorem dX10_unload_5 : decode cX10_unload 5 = .ok (.istore_n 2, 1) := by decide +kernel
theorem dX10_unload_6 : decode cX10_unload 6 = .ok (.iconst 0, 1) := by decide +kernel
theorem dX10_unload_7 : decode cX10_unload 7 = .ok (.istore_n 3, 1) := by decide +kernel
theorem dX10_unload_8 : decode cX10_unload 8 = .ok (.iload_n 3, 1) := by decide +kernel
theorem dX10_unload_9 : decode cX10_unload 9 = .ok (.aload_n 0, 1) := by decide +kernel
theorem dX10_unload_10 : decode cX10_unload 10 = .ok (.iconst 4, 1) := by decide +kernel
theorem dX10_unload_11 : decode cX10_unload 11 = .ok (.iaload, 1) := by decide +kernel
theorem dX10_unload_12 : decode cX10_unload 12 = .ok (.if_icmp .ge 117, 3) := by decide +kernel
theorem dX10_unload_15 : decode cX10_unload 15 = .ok (.iload_n 3, 1) := by decide +kernel
theorem dX10_unload_16 : decode cX10_unload 16 = .ok (.invokestatic 88, 3) := by decide +kernel
theorem dX10_unload_19 : decode cX10_unload 19 = .ok (.istore 4, 2) := by decide +kernel
theorem dX10_unload_21 : decode cX10_unload 21 = .ok (.aload_n 0, 1) := by decide +kernel
theorem dX10_unload_22 : decode cX10_unload 22 = .ok (.iload 4, 2) := by decide +kernel
theorem dX10_unload_24 : decode cX10_unload 24 = .ok (.iconst 4, 1) := by decide +kernel
theorem dX10_unload_25 : decode cX10_unload 25 = .ok (.iadd, 1) := by decide +kernel
theorem dX10_unload_26 : decode cX10_unload 26 = .ok (.iaload, 1) := by decide +kernel
theorem dX10_unload_27 : decode cX10_unload 27 = .ok (.iload_n 1, 1) := by decide +kernel
theorem dX10_unload_28 : decode cX10_unload 28 = .ok (.if_icmp .ne 95, 3) := by decide +kernel
theorem dX10_unload_31 : decode cX10_unload 31 = .ok (.aload_n 0, 1) := by decide +kernel
theorem dX10_unload_32 : decode cX10_unload 32 = .ok (.iload 4, 2) := by decide +kernel
theorem dX10_unload_34 : decode cX10_unload 34 = .ok (.iconst 5, 1) := by decide +kernel
theorem dX10_unload_35 : decode cX10_unload 35 = .ok (.iadd, 1) := by decide +kernel
theorem dX10_unload_36 : decode cX10_unload 36 = .ok (.iaload, 1) := by decide +kernel
theorem dX10_unload_37 : decode cX10_unload 37 = .ok (.iload_n 2, 1) := by decide +kernel
theorem dX10_unload_38 : decode cX10_unload 38 = .ok (.if_icmp .ne 85, 3) := by decide +kernel
theorem dX10_unload_41 : decode cX10_unload 41 = .ok (.aload_n 0, 1) := by decide +kernel
theorem dX10_unload_42 : decode cX10_unload 42 = .ok (.iload 4, 2) := by decide +kernel
theorem dX10_unload_44 : decode cX10_unload 44 = .ok (.iconst 4, 1) := by decide +kernel
theorem dX10_unload_45 : decode cX10_unload 45 = .ok (.iadd, 1) := by decide +kernel
theorem dX10_unload_46 : decode cX10_unload 46 = .ok (.iconst (-1), 1) := by decide +kernel
theorem dX10_unload_47 : decode cX10_unload 47 = .ok (.iastore, 1) := by decide +kernel
theorem dX10_unload_48 : decode cX10_unload 48 = .ok (.aload_n 0, 1) := by decide +kernel
theorem dX10_unload_49 : decode cX10_unload 49 = .ok (.iload 4, 2) := by decide +kernel
theorem dX10_unload_51 : decode cX10_unload 51 = .ok (.iconst 5, 1) := by decide +kernel
theorem dX10_unload_52 : decode cX10_unload 52 = .ok (.iadd, 1) := by decide +kernel
theorem dX10_unload_53 : decode cX10_unload 53 = .ok (.iconst (-1), 1) := by decide +kernel
theorem dX10_unload_54 : decode cX10_unload 54 = .ok (.iastore, 1) := by decide +kernel
theorem dX10_unload_55 : decode cX10_unload 55 = .ok (.aload_n 0, 1) := by decide +kernel
theorem dX10_unload_56 : decode cX10_unload 56 = .ok (.bipush 6, 2) := by decide +kernel
theorem dX10_unload_58 : decode cX10_unload 58 = .ok (.dup2, 1) := by decide +kernel
theorem dX10_unload_59 : decode cX10_unload 59 = .ok (.iaload, 1) := by decide +kernel
theorem dX10_unload_60 : decode cX10_unload 60 = .ok (.iconst 1, 1) := by decide +kernel
theorem dX10_unload_61 : decode cX10_unload 61 = .ok (.iadd, 1) := by decide +kernel
theorem dX10_unload_62 : decode cX10_unload 62 = .ok (.iastore, 1) := by decide +kernel
theorem dX10_unload_63 : decode cX10_unload 63 = .ok (.aload_n 0, 1) := by decide +kernel
theorem dX10_unload_64 : decode cX10_unload 64 = .ok (.iload 4, 2) := by decide +kernel
theorem dX10_unload_66 : decode cX10_unload 66 = .ok (.iconst 1, 1) := by decide +kernel
theorem dX10_unload_67 : decode cX10_unload 67 = .ok (.iadd, 1) := by decide +kernel
theorem dX10_unload_68 : decode cX10_unload 68 = .ok (.iaload, 1) := by decide +kernel
theorem dX10_unload_69 : decode cX10_unload 69 = .ok (.iload_n 2, 1) := by decide +kernel
theorem dX10_unload_70 : decode cX10_unload 70 = .ok (.if_icmp .ne 16, 3) := by decide +kernel
theorem dX10_unload_73 : decode cX10_unload 73 = .ok (.aload_n 0, 1) := by decide +kernel
theorem dX10_unload_74 : decode cX10_unload 74 = .ok (.iload 4, 2) := by decide +kernel
theorem dX10_unload_76 : decode cX10_unload 76 = .ok (.bipush 8, 2) := by decide +kernel
theorem dX10_unload_78 : decode cX10_unload 78 = .ok (.iadd, 1) := by decide +kernel
theorem dX10_unload_79 : decode cX10_unload 79 = .ok (.aload_n 0, 1) := by decide +kernel
theorem dX10_unload_80 : decode cX10_unload 80 = .ok (.iconst 0, 1) := by decide +kernel
theorem dX10_unload_81 : decode cX10_unload 81 = .ok (.iaload, 1) := by decide +kernel
theorem dX10_unload_82 : decode cX10_unload 82 = .ok (.iastore, 1) := by decide +kernel
theorem dX10_unload_83 : decode cX10_unload 83 = .ok (.goto 40, 3) := by decide +kernel
theorem dX10_unload_86 : decode cX10_unload 86 = .ok (.aload_n 0, 1) := by decide +kernel
theorem dX10_unload_87 : decode cX10_unload 87 = .ok (.iload 4, 2) := by decide +kernel
theorem dX10_unload_89 : decode cX10_unload 89 = .ok (.iconst 3, 1) := by decide +kernel
theorem dX10_unload_90 : decode cX10_unload 90 = .ok (.iadd, 1) := by decide +kernel
theorem dX10_unload_91 : decode cX10_unload 91 = .ok (.iload_n 2, 1) := by decide +kernel
theorem dX10_unload_92 : decode cX10_unload 92 = .ok (.iastore, 1) := by decide +kernel
theorem dX10_unload_93 : decode cX10_unload 93 = .ok (.aload_n 0, 1) := by decide +kernel
theorem dX10_unload_94 : decode cX10_unload 94 = .ok (.iload 4, 2) := by decide +kernel
theorem dX10_unload_96 : decode cX10_unload 96 = .ok (.bipush 6, 2) := by decide +kernel
theorem dX10_unload_98 : decode cX10_unload 98 = .ok (.iadd, 1) := by decide +kernel
theorem dX10_unload_99 : decode cX10_unload 99 = .ok (.dup2, 1) := by decide +kernel
theorem dX10_unload_100 : decode cX10_unload 100 = .ok (.iaload, 1) := by decide +kernel
theorem dX10_unload_101 : decode cX10_unload 101 = .ok (.iconst 1, 1) := by decide +kernel
theorem dX10_unload_102 : decode cX10_unload 102 = .ok (.iadd, 1) := by decide +kernel
theorem dX10_unload_103 : decode cX10_unload 103 = .ok (.iastore, 1) := by decide +kernel
theorem dX10_unload_104 : decode cX10_unload 104 = .ok (.aload_n 0, 1) := by decide +kernel
theorem dX10_unload_105 : decode cX10_unload 105 = .ok (.iload 4, 2) := by decide +kernel
theorem dX10_unload_107 : decode cX10_unload 107 = .ok (.bipush 7, 2) := by decide +kernel
theorem dX10_unload_109 : decode cX10_unload 109 = .ok (.iadd, 1) := by decide +kernel
theorem dX10_unload_110 : decode cX10_unload 110 = .ok (.aload_n 0, 1) := by decide +kernel
theorem dX10_unload_111 : decode cX10_unload 111 = .ok (.iconst 0, 1) := by decide +kernel
theorem dX10_unload_112 : decode cX10_unload 112 = .ok (.iaload, 1) := by decide +kernel
theorem dX10_unload_113 : decode cX10_unload 113 = .ok (.aload_n 0, 1) := by decide +kernel
theorem dX10_unload_114 : decode cX10_unload 114 = .ok (.iload_n 2, 1) := by decide +kernel
theorem dX10_unload_115 : decode cX10_unload 115 = .ok (.invokestatic 134, 3) := by decide +kernel
theorem dX10_unload_118 : decode cX10_unload 118 = .ok (.iconst 2, 1) := by decide +kernel
theorem dX10_unload_119 : decode cX10_unload 119 = .ok (.iadd, 1) := by decide +kernel
theorem dX10_unload_120 : decode cX10_unload 120 = .ok (.iaload, 1) := by decide +kernel
theorem dX10_unload_121 : decode cX10_unload 121 = .ok (.iadd, 1) := by decide +kernel
theorem dX10_unload_122 : decode cX10_unload 122 = .ok (.iastore, 1) := by decide +kernel
theorem dX10_unload_123 : decode cX10_unload 123 = .ok (.iinc 3 1, 3) := by decide +kernel
theorem dX10_unload_126 : decode cX10_unload 126 = .ok (.goto (-118), 3) := by decide +kernel
theorem dX10_unload_129 : decode cX10_unload 129 = .ok (.return_, 1) := by decide +kernel
theorem dX10_hasDropHere_0 : decode cX10_hasDropHere 0 = .ok (.aload_n 0, 1) := by decide +kernel
theorem dX10_hasDropHere_1 : decode cX10_hasDropHere 1 = .ok (.iload_n 1, 1) := by decide +kernel
theorem dX10_hasDropHere_2 : decode cX10_hasDropHere 2 = .ok (.invokestatic 95, 3) := by decide +kernel
theorem dX10_hasDropHere_5 : decode cX10_hasDropHere 5 = .ok (.istore_n 2, 1) := by decide +kernel
theorem dX10_hasDropHere_6 : decode cX10_hasDropHere 6 = .ok (.iconst 0, 1) := by decide +kernel
theorem dX10_hasDropHere_7 : decode cX10_hasDropHere 7 = .ok (.istore_n 3, 1) := by decide +kernel
theorem dX10_hasDropHere_8 : decode cX10_hasDropHere 8 = .ok (.iload_n 3, 1) := by decide +kernel
theorem dX10_hasDropHere_9 : decode cX10_hasDropHere 9 = .ok (.aload_n 0, 1) := by decide +kernel
theorem dX10_hasDropHere_10 : decode cX10_hasDropHere 10 = .ok (.iconst 4, 1) := by decide +kernel
theorem dX10_hasDropHere_11 : decode cX10_hasDropHere 11 = .ok (.iaload, 1) := by decide +kernel
theorem dX10_hasDropHere_12 : decode cX10_hasDropHere 12 = .ok (.if_icmp .ge 35, 3) := by decide +kernel
theorem dX10_hasDropHere_15 : decode cX10_hasDropHere 15 = .ok (.aload_n 0, 1) := by decide +kernel
theorem dX10_hasDropHere_16 : decode cX10_hasDropHere 16 = .ok (.iload_n 3, 1) := by decide +kernel
theorem dX10_hasDropHere_17 : decode cX10_hasDropHere 17 = .ok (.invokestatic 88, 3) := by decide +kernel
theorem dX10_hasDropHere_20 : decode cX10_hasDropHere 20 = .ok (.iconst 4, 1) := by decide +kernel
theorem dX10_hasDropHere_21 : decode cX10_hasDropHere 21 = .ok (.iadd, 1) := by decide +kernel
theorem dX10_hasDropHere_22 : decode cX10_hasDropHere 22 = .ok (.iaload, 1) := by decide +kernel
theorem dX10_hasDropHere_23 : decode cX10_hasDropHere 23 = .ok (.iload_n 1, 1) := by decide +kernel
theorem dX10_hasDropHere_24 : decode cX10_hasDropHere 24 = .ok (.if_icmp .ne 17, 3) := by decide +kernel
theorem dX10_hasDropHere_27 : decode cX10_hasDropHere 27 = .ok (.aload_n 0, 1) := by decide +kernel
theorem dX10_hasDropHere_28 : decode cX10_hasDropHere 28 = .ok (.iload_n 3, 1) := by decide +kernel
theorem dX10_hasDropHere_29 : decode cX10_hasDropHere 29 = .ok (.invokestatic 88, 3) := by decide +kernel
theorem dX10_hasDropHere_32 : decode cX10_hasDropHere 32 = .ok (.iconst 5, 1) := by decide +kernel
theorem dX10_hasDropHere_33 : decode cX10_hasDropHere 33 = .ok (.iadd, 1) := by decide +kernel
theorem dX10_hasDropHere_34 : decode cX10_hasDropHere 34 = .ok (.iaload, 1) := by decide +kernel
theorem dX10_hasDropHere_35 : decode cX10_hasDropHere 35 = .ok (.iload_n 2, 1) := by decide +kernel
theorem dX10_hasDropHere_36 : decode cX10_hasDropHere 36 = .ok (.if_icmp .ne 5, 3) := by decide +kernel
theorem dX10_hasDropHere_39 : decode cX10_hasDropHere 39 = .ok (.iconst 1, 1) := by decide +kernel
theorem dX10_hasDropHere_40 : decode cX10_hasDropHere 40 = .ok (.ireturn, 1) := by decide +kernel
theorem dX10_hasDropHere_41 : decode cX10_hasDropHere 41 = .ok (.iinc 3 1, 3) := by decide +kernel
theorem dX10_hasDropHere_44 : decode cX10_hasDropHere 44 = .ok (.goto (-36), 3) := by decide +kernel
theorem dX10_hasDropHere_47 : decode cX10_hasDropHere 47 = .ok (.iconst 0, 1) := by decide +kernel
theorem dX10_hasDropHere_48 : decode cX10_hasDropHere 48 = .ok (.ireturn, 1) := by decide +kernel
theorem dX10_arrive_0 : decode cX10_arrive 0 = .ok (.iload_n 2, 1) := by decide +kernel
theorem dX10_arrive_1 : decode cX10_arrive 1 = .ok (.invokestatic 81, 3) := by decide +kernel
theorem dX10_arrive_4 : decode cX10_arrive 4 = .ok (.istore_n 3, 1) := by decide +kernel
theorem dX10_arrive_5 : decode cX10_arrive 5 = .ok (.aload_n 1, 1) := by decide +kernel
theorem dX10_arrive_6 : decode cX10_arrive 6 = .ok (.iload_n 3, 1) := by decide +kernel
theorem dX10_arrive_7 : decode cX10_arrive 7 = .ok (.bipush 8, 2) := by decide +kernel
theorem dX10_arrive_9 : decode cX10_arrive 9 = .ok (.iadd, 1) := by decide +kernel
theorem dX10_arrive_10 : decode cX10_arrive 10 = .ok (.dup2, 1) := by decide +kernel
theorem dX10_arrive_11 : decode cX10_arrive 11 = .ok (.iaload, 1) := by decide +kernel
theorem dX10_arrive_12 : decode cX10_arrive 12 = .ok (.aload_n 1, 1) := by decide +kernel
theorem dX10_arrive_13 : decode cX10_arrive 13 = .ok (.iload_n 3, 1) := by decide +kernel
theorem dX10_arrive_14 : decode cX10_arrive 14 = .ok (.bipush 9, 2) := by decide +kernel
theorem dX10_arrive_16 : decode cX10_arrive 16 = .ok (.iadd, 1) := by decide +kernel
theorem dX10_arrive_17 : decode cX10_arrive 17 = .ok (.iaload, 1) := by decide +kernel
theorem dX10_arrive_18 : decode cX10_arrive 18 = .ok (.iadd, 1) := by decide +kernel
theorem dX10_arrive_19 : decode cX10_arrive 19 = .ok (.iastore, 1) := by decide +kernel
theorem dX10_arrive_20 : decode cX10_arrive 20 = .ok (.aload_n 1, 1) := by decide +kernel
theorem dX10_arrive_21 : decode cX10_arrive 21 = .ok (.iload_n 3, 1) := by decide +kernel
theorem dX10_arrive_22 : decode cX10_arrive 22 = .ok (.bipush 10, 2) := by decide +kernel
theorem dX10_arrive_24 : decode cX10_arrive 24 = .ok (.iadd, 1) := by decide +kernel
theorem dX10_arrive_25 : decode cX10_arrive 25 = .ok (.iconst (-1), 1) := by decide +kernel
theorem dX10_arrive_26 : decode cX10_arrive 26 = .ok (.iastore, 1) := by decide +kernel
theorem dX10_arrive_27 : decode cX10_arrive 27 = .ok (.aload_n 1, 1) := by decide +kernel
theorem dX10_arrive_28 : decode cX10_arrive 28 = .ok (.iload_n 3, 1) := by decide +kernel
theorem dX10_arrive_29 : decode cX10_arrive 29 = .ok (.bipush 8, 2) := by decide +kernel
theorem dX10_arrive_31 : decode cX10_arrive 31 = .ok (.iadd, 1) := by decide +kernel
theorem dX10_arrive_32 : decode cX10_arrive 32 = .ok (.iaload, 1) := by decide +kernel
theorem dX10_arrive_33 : decode cX10_arrive 33 = .ok (.ifCond .eq 19, 3) := by decide +kernel
theorem dX10_arrive_36 : decode cX10_arrive 36 = .ok (.aload_n 1, 1) := by decide +kernel
theorem dX10_arrive_37 : decode cX10_arrive 37 = .ok (.iload_n 3, 1) := by decide +kernel
theorem dX10_arrive_38 : decode cX10_arrive 38 = .ok (.bipush 8, 2) := by decide +kernel
theorem dX10_arrive_40 : decode cX10_arrive 40 = .ok (.iadd, 1) := by decide +kernel
theorem dX10_arrive_41 : decode cX10_arrive 41 = .ok (.iaload, 1) := by decide +kernel
theorem dX10_arrive_42 : decode cX10_arrive 42 = .ok (.aload_n 1, 1) := by decide +kernel
theorem dX10_arrive_43 : decode cX10_arrive 43 = .ok (.iload_n 3, 1) := by decide +kernel
theorem dX10_arrive_44 : decode cX10_arrive 44 = .ok (.iconst 1, 1) := by decide +kernel
theorem dX10_arrive_45 : decode cX10_arrive 45 = .ok (.iadd, 1) := by decide +kernel
theorem dX10_arrive_46 : decode cX10_arrive 46 = .ok (.iaload, 1) := by decide +kernel
theorem dX10_arrive_47 : decode cX10_arrive 47 = .ok (.iconst 1, 1) := by decide +kernel
theorem dX10_arrive_48 : decode cX10_arrive 48 = .ok (.isub, 1) := by decide +kernel
theorem dX10_arrive_49 : decode cX10_arrive 49 = .ok (.if_icmp .ne 7, 3) := by decide +kernel
theorem dX10_arrive_52 : decode cX10_arrive 52 = .ok (.iconst 1, 1) := by decide +kernel
theorem dX10_arrive_53 : decode cX10_arrive 53 = .ok (.goto 4, 3) := by decide +kernel
theorem dX10_arrive_56 : decode cX10_arrive 56 = .ok (.iconst 0, 1) := by decide +kernel
theorem dX10_arrive_57 : decode cX10_arrive 57 = .ok (.istore 4, 2) := by decide +kernel
theorem dX10_arrive_59 : decode cX10_arrive 59 = .ok (.aload_n 1, 1) := by decide +kernel
theorem dX10_arrive_60 : decode cX10_arrive 60 = .ok (.iload_n 3, 1) := by decide +kernel
theorem dX10_arrive_61 : decode cX10_arrive 61 = .ok (.bipush 9, 2) := by decide +kernel
theorem dX10_arrive_63 : decode cX10_arrive 63 = .ok (.iadd, 1) := by decide +kernel
theorem dX10_arrive_64 : decode cX10_arrive 64 = .ok (.iload 4, 2) := by decide +kernel
theorem dX10_arrive_66 : decode cX10_arrive 66 = .ok (.ifCond .eq 13, 3) := by decide +kernel
theorem dX10_arrive_69 : decode cX10_arrive 69 = .ok (.aload_n 1, 1) := by decide +kernel
theorem dX10_arrive_70 : decode cX10_arrive 70 = .ok (.iload_n 3, 1) := by decide +kernel
theorem dX10_arrive_71 : decode cX10_arrive 71 = .ok (.bipush 9, 2) := by decide +kernel
theorem dX10_arrive_73 : decode cX10_arrive 73 = .ok (.iadd, 1) := by decide +kernel
theorem dX10_arrive_74 : decode cX10_arrive 74 = .ok (.iaload, 1) := by decide +kernel
theorem dX10_arrive_75 : decode cX10_arrive 75 = .ok (.ineg, 1) := by decide +kernel
theorem dX10_arrive_76 : decode cX10_arrive 76 = .ok (.goto 9, 3) := by decide +kernel
theorem dX10_arrive_79 : decode cX10_arrive 79 = .ok (.aload_n 1, 1) := by decide +kernel
theorem dX10_arrive_80 : decode cX10_arrive 80 = .ok (.iload_n 3, 1) := by decide +kernel
theorem dX10_arrive_81 : decode cX10_arrive 81 = .ok (.bipush 9, 2) := by decide +kernel
theorem dX10_arrive_83 : decode cX10_arrive 83 = .ok (.iadd, 1) := by decide +kernel
theorem dX10_arrive_84 : decode cX10_arrive 84 = .ok (.iaload, 1) := by decide +kernel
theorem dX10_arrive_85 : decode cX10_arrive 85 = .ok (.iastore, 1) := by decide +kernel
theorem dX10_arrive_86 : decode cX10_arrive 86 = .ok (.aload_n 1, 1) := by decide +kernel
theorem dX10_arrive_87 : decode cX10_arrive 87 = .ok (.iload_n 2, 1) := by decide +kernel
theorem dX10_arrive_88 : decode cX10_arrive 88 = .ok (.invokestatic 95, 3) := by decide +kernel
theorem dX10_arrive_91 : decode cX10_arrive 91 = .ok (.invokestatic 134, 3) := by decide +kernel
theorem dX10_arrive_94 : decode cX10_arrive 94 = .ok (.istore 5, 2) := by decide +kernel
theorem dX10_arrive_96 : decode cX10_arrive 96 = .ok (.aload_n 1, 1) := by decide +kernel
theorem dX10_arrive_97 : decode cX10_arrive 97 = .ok (.iload 5, 2) := by decide +kernel
theorem dX10_arrive_99 : decode cX10_arrive 99 = .ok (.iconst 1, 1) := by decide +kernel
theorem dX10_arrive_100 : decode cX10_arrive 100 = .ok (.iadd, 1) := by decide +kernel
theorem dX10_arrive_101 : decode cX10_arrive 101 = .ok (.iaload, 1) := by decide +kernel
theorem dX10_arrive_102 : decode cX10_arrive 102 = .ok (.ifCond .eq 25, 3) := by decide +kernel
theorem dX10_arrive_105 : decode cX10_arrive 105 = .ok (.iload 4, 2) := by decide +kernel
theorem dX10_arrive_107 : decode cX10_arrive 107 = .ok (.ifCond .ne 20, 3) := by decide +kernel
theorem dX10_arrive_110 : decode cX10_arrive 110 = .ok (.aload_n 1, 1) := by decide +kernel
theorem dX10_arrive_111 : decode cX10_arrive 111 = .ok (.iload_n 2, 1) := by decide +kernel
theorem dX10_arrive_112 : decode cX10_arrive 112 = .ok (.invokestatic 137, 3) := by decide +kernel
theorem dX10_arrive_115 : decode cX10_arrive 115 = .ok (.ifCond .ne 12, 3) := by decide +kernel
theorem dX10_arrive_118 : decode cX10_arrive 118 = .ok (.aload_n 0, 1) := by decide +kernel
theorem dX10_arrive_119 : decode cX10_arrive 119 = .ok (.aload_n 1, 1) := by decide +kernel
theorem dX10_arrive_120 : decode cX10_arrive 120 = .ok (.iload_n 2, 1) := by decide +kernel
theorem dX10_arrive_121 : decode cX10_arrive 121 = .ok (.invokevirtual 140, 3) := by decide +kernel
theorem dX10_arrive_124 : decode cX10_arrive 124 = .ok (.ifCond .eq 31, 3) := by decide +kernel
theorem dX10_arrive_127 : decode cX10_arrive 127 = .ok (.aload_n 1, 1) := by decide +kernel
theorem dX10_arrive_128 : decode cX10_arrive 128 = .ok (.iload_n 3, 1) := by decide +kernel
theorem dX10_arrive_129 : decode cX10_arrive 129 = .ok (.bipush 12, 2) := by decide +kernel
theorem dX10_arrive_131 : decode cX10_arrive 131 = .ok (.iadd, 1) := by decide +kernel
theorem dX10_arrive_132 : decode cX10_arrive 132 = .ok (.dup2, 1) := by decide +kernel
theorem dX10_arrive_133 : decode cX10_arrive 133 = .ok (.iaload, 1) := by decide +kernel
theorem dX10_arrive_134 : decode cX10_arrive 134 = .ok (.iconst 1, 1) := by decide +kernel
theorem dX10_arrive_135 : decode cX10_arrive 135 = .ok (.iadd, 1) := by decide +kernel
theorem dX10_arrive_136 : decode cX10_arrive 136 = .ok (.iastore, 1) := by decide +kernel
theorem dX10_arrive_137 : decode cX10_arrive 137 = .ok (.aload_n 1, 1) := by decide +kernel
theorem dX10_arrive_138 : decode cX10_arrive 138 = .ok (.iload 5, 2) := by decide +kernel
theorem dX10_arrive_140 : decode cX10_arrive 140 = .ok (.iconst 3, 1) := by decide +kernel
theorem dX10_arrive_141 : decode cX10_arrive 141 = .ok (.iadd, 1) := by decide +kernel
theorem dX10_arrive_142 : decode cX10_arrive 142 = .ok (.dup2, 1) := by decide +kernel
theorem dX10_arrive_143 : decode cX10_arrive 143 = .ok (.iaload, 1) := by decide +kernel
theorem dX10_arrive_144 : decode cX10_arrive 144 = .ok (.iconst 1, 1) := by decide +kernel
theorem dX10_arrive_145 : decode cX10_arrive 145 = .ok (.iadd, 1) := by decide +kernel
theorem dX10_arrive_146 : decode cX10_arrive 146 = .ok (.iastore, 1) := by decide +kernel
theorem dX10_arrive_147 : decode cX10_arrive 147 = .ok (.aload_n 1, 1) := by decide +kernel
theorem dX10_arrive_148 : decode cX10_arrive 148 = .ok (.iload_n 2, 1) := by decide +kernel
theorem dX10_arrive_149 : decode cX10_arrive 149 = .ok (.invokestatic 143, 3) := by decide +kernel
theorem dX10_arrive_152 : decode cX10_arrive 152 = .ok (.goto 18, 3) := by decide +kernel
theorem dX10_arrive_155 : decode cX10_arrive 155 = .ok (.aload_n 1, 1) := by decide +kernel
theorem dX10_arrive_156 : decode cX10_arrive 156 = .ok (.iload_n 3, 1) := by decide +kernel
theorem dX10_arrive_157 : decode cX10_arrive 157 = .ok (.bipush 13, 2) := by decide +kernel
theorem dX10_arrive_159 : decode cX10_arrive 159 = .ok (.iadd, 1) := by decide +kernel
theorem dX10_arrive_160 : decode cX10_arrive 160 = .ok (.dup2, 1) := by decide +kernel
theorem dX10_arrive_161 : decode cX10_arrive 161 = .ok (.iaload, 1) := by decide +kernel
theorem dX10_arrive_162 : decode cX10_arrive 162 = .ok (.iconst 1, 1) := by decide +kernel
theorem dX10_arrive_163 : decode cX10_arrive 163 = .ok (.iadd, 1) := by decide +kernel
theorem dX10_arrive_164 : decode cX10_arrive 164 = .ok (.iastore, 1) := by decide +kernel
theorem dX10_arrive_165 : decode cX10_arrive 165 = .ok (.aload_n 1, 1) := by decide +kernel
theorem dX10_arrive_166 : decode cX10_arrive 166 = .ok (.iload_n 2, 1) := by decide +kernel
theorem dX10_arrive_167 : decode cX10_arrive 167 = .ok (.invokestatic 146, 3) := by decide +kernel
theorem dX10_arrive_170 : decode cX10_arrive 170 = .ok (.return_, 1) := by decide +kernel
theorem dX10_act_0 : decode cX10_act 0 = .ok (.iload_n 2, 1) := by decide +kernel
theorem dX10_act_1 : decode cX10_act 1 = .ok (.invokestatic 81, 3) := by decide +kernel
theorem dX10_act_4 : decode cX10_act 4 = .ok (.istore_n 3, 1) := by decide +kernel
theorem dX10_act_5 : decode cX10_act 5 = .ok (.aload_n 1, 1) := by decide +kernel
theorem dX10_act_6 : decode cX10_act 6 = .ok (.iload_n 2, 1) := by decide +kernel
theorem dX10_act_7 : decode cX10_act 7 = .ok (.invokestatic 149, 3) := by decide +kernel
theorem dX10_act_10 : decode cX10_act 10 = .ok (.ifCond .eq 17, 3) := by decide +kernel
theorem dX10_act_13 : decode cX10_act 13 = .ok (.aload_n 0, 1) := by decide +kernel
theorem dX10_act_14 : decode cX10_act 14 = .ok (.aload_n 1, 1) := by decide +kernel
theorem dX10_act_15 : decode cX10_act 15 = .ok (.iload_n 2, 1) := by decide +kernel
theorem dX10_act_16 : decode cX10_act 16 = .ok (.invokevirtual 152, 3) := by decide +kernel
theorem dX10_act_19 : decode cX10_act 19 = .ok (.aload_n 1, 1) := by decide +kernel
theorem dX10_act_20 : decode cX10_act 20 = .ok (.iload_n 2, 1) := by decide +kernel
theorem dX10_act_21 : decode cX10_act 21 = .ok (.invokestatic 146, 3) := by decide +kernel
theorem dX10_act_24 : decode cX10_act 24 = .ok (.goto 53, 3) := by decide +kernel
theorem dX10_act_27 : decode cX10_act 27 = .ok (.aload_n 1, 1) := by decide +kernel
theorem dX10_act_28 : decode cX10_act 28 = .ok (.iload_n 3, 1) := by decide +kernel
theorem dX10_act_29 : decode cX10_act 29 = .ok (.bipush 10, 2) := by decide +kernel
theorem dX10_act_31 : decode cX10_act 31 = .ok (.iadd, 1) := by decide +kernel
theorem dX10_act_32 : decode cX10_act 32 = .ok (.dup2, 1) := by decide +kernel
theorem dX10_act_33 : decode cX10_act 33 = .ok (.iaload, 1) := by decide +kernel
theorem dX10_act_34 : decode cX10_act 34 = .ok (.iconst 1, 1) := by decide +kernel
theorem dX10_act_35 : decode cX10_act 35 = .ok (.iadd, 1) := by decide +kernel
theorem dX10_act_36 : decode cX10_act 36 = .ok (.iastore, 1) := by decide +kernel
theorem dX10_act_37 : decode cX10_act 37 = .ok (.aload_n 1, 1) := by decide +kernel
theorem dX10_act_38 : decode cX10_act 38 = .ok (.aload_n 1, 1) := by decide +kernel
theorem dX10_act_39 : decode cX10_act 39 = .ok (.iload_n 2, 1) := by decide +kernel
theorem dX10_act_40 : decode cX10_act 40 = .ok (.invokestatic 95, 3) := by decide +kernel
theorem dX10_act_43 : decode cX10_act 43 = .ok (.aload_n 1, 1) := by decide +kernel
theorem dX10_act_44 : decode cX10_act 44 = .ok (.iload_n 2, 1) := by decide +kernel
theorem dX10_act_45 : decode cX10_act 45 = .ok (.invokestatic 125, 3) := by decide +kernel
theorem dX10_act_48 : decode cX10_act 48 = .ok (.invokestatic 128, 3) := by decide +kernel
theorem dX10_act_51 : decode cX10_act 51 = .ok (.istore 4, 2) := by decide +kernel
theorem dX10_act_53 : decode cX10_act 53 = .ok (.aload_n 1, 1) := by decide +kernel
theorem dX10_act_54 : decode cX10_act 54 = .ok (.iload_n 3, 1) := by decide +kernel
theorem dX10_act_55 : decode cX10_act 55 = .ok (.bipush 10, 2) := by decide +kernel
theorem dX10_act_57 : decode cX10_act 57 = .ok (.iadd, 1) := by decide +kernel
theorem dX10_act_58 : decode cX10_act 58 = .ok (.iaload, 1) := by decide +kernel
theorem dX10_act_59 : decode cX10_act 59 = .ok (.aload_n 1, 1) := by decide +kernel
theorem dX10_act_60 : decode cX10_act 60 = .ok (.iload 4, 2) := by decide +kernel
theorem dX10_act_62 : decode cX10_act 62 = .ok (.invokestatic 72, 3) := by decide +kernel
theorem dX10_act_65 : decode cX10_act 65 = .ok (.iconst 2, 1) := by decide +kernel
theorem dX10_act_66 : decode cX10_act 66 = .ok (.iadd, 1) := by decide +kernel
theorem dX10_act_67 : decode cX10_act 67 = .ok (.iaload, 1) := by decide +kernel
theorem dX10_act_68 : decode cX10_act 68 = .ok (.if_icmp .lt 9, 3) := by decide +kernel
theorem dX10_act_71 : decode cX10_act 71 = .ok (.aload_n 0, 1) := by decide +kernel
theorem dX10_act_72 : decode cX10_act 72 = .ok (.aload_n 1, 1) := by decide +kernel
theorem dX10_act_73 : decode cX10_act 73 = .ok (.iload_n 2, 1) := by decide +kernel
theorem dX10_act_74 : decode cX10_act 74 = .ok (.invokevirtual 155, 3) := by decide +kernel
theorem dX10_act_77 : decode cX10_act 77 = .ok (.return_, 1) := by decide +kernel
theorem dX10_minute_0 : decode cX10_minute 0 = .ok (.aload_n 1, 1) := by decide +kernel
theorem dX10_minute_1 : decode cX10_minute 1 = .ok (.iconst 0, 1) := by decide +kernel
theorem dX10_minute_2 : decode cX10_minute 2 = .ok (.dup2, 1) := by decide +kernel
theorem dX10_minute_3 : decode cX10_minute 3 = .ok (.iaload, 1) := by decide +kernel
theorem dX10_minute_4 : decode cX10_minute 4 = .ok (.iconst 1, 1) := by decide +kernel
theorem dX10_minute_5 : decode cX10_minute 5 = .ok (.iadd, 1) := by decide +kernel
theorem dX10_minute_6 : decode cX10_minute 6 = .ok (.iastore, 1) := by decide +kernel
theorem dX10_minute_7 : decode cX10_minute 7 = .ok (.iconst 0, 1) := by decide +kernel
theorem dX10_minute_8 : decode cX10_minute 8 = .ok (.istore_n 2, 1) := by decide +kernel
theorem dX10_minute_9 : decode cX10_minute 9 = .ok (.iload_n 2, 1) := by decide +kernel
theorem dX10_minute_10 : decode cX10_minute 10 = .ok (.aload_n 1, 1) := by decide +kernel
theorem dX10_minute_11 : decode cX10_minute 11 = .ok (.iconst 3, 1) := by decide +kernel
theorem dX10_minute_12 : decode cX10_minute 12 = .ok (.iaload, 1) := by decide +kernel
theorem dX10_minute_13 : decode cX10_minute 13 = .ok (.if_icmp .ge 15, 3) := by decide +kernel
theorem dX10_minute_16 : decode cX10_minute 16 = .ok (.aload_n 0, 1) := by decide +kernel
theorem dX10_minute_17 : decode cX10_minute 17 = .ok (.aload_n 1, 1) := by decide +kernel
theorem dX10_minute_18 : decode cX10_minute 18 = .ok (.iload_n 2, 1) := by decide +kernel
theorem dX10_minute_19 : decode cX10_minute 19 = .ok (.invokevirtual 158, 3) := by decide +kernel
theorem dX10_minute_22 : decode cX10_minute 22 = .ok (.iinc 2 1, 3) := by decide +kernel
theorem dX10_minute_25 : decode cX10_minute 25 = .ok (.goto (-16), 3) := by decide +kernel
theorem dX10_minute_28 : decode cX10_minute 28 = .ok (.return_, 1) := by decide +kernel
theorem dX10_minutes_0 : decode cX10_minutes 0 = .ok (.iconst 0, 1) := by decide +kernel
theorem dX10_minutes_1 : decode cX10_minutes 1 = .ok (.istore_n 3, 1) := by decide +kernel
theorem dX10_minutes_2 : decode cX10_minutes 2 = .ok (.iload_n 3, 1) := by decide +kernel
theorem dX10_minutes_3 : decode cX10_minutes 3 = .ok (.iload_n 2, 1) := by decide +kernel
theorem dX10_minutes_4 : decode cX10_minutes 4 = .ok (.if_icmp .ge 14, 3) := by decide +kernel
theorem dX10_minutes_7 : decode cX10_minutes 7 = .ok (.aload_n 0, 1) := by decide +kernel
theorem dX10_minutes_8 : decode cX10_minutes 8 = .ok (.aload_n 1, 1) := by decide +kernel
theorem dX10_minutes_9 : decode cX10_minutes 9 = .ok (.invokevirtual 161, 3) := by decide +kernel
theorem dX10_minutes_12 : decode cX10_minutes 12 = .ok (.iinc 3 1, 3) := by decide +kernel
theorem dX10_minutes_15 : decode cX10_minutes 15 = .ok (.goto (-13), 3) := by decide +kernel
theorem dX10_minutes_18 : decode cX10_minutes 18 = .ok (.return_, 1) := by decide +kernel
theorem dX10_deliveredIn_0 : decode cX10_deliveredIn 0 = .ok (.iconst 0, 1) := by decide +kernel
theorem dX10_deliveredIn_1 : decode cX10_deliveredIn 1 = .ok (.istore_n 1, 1) := by decide +kernel
theorem dX10_deliveredIn_2 : decode cX10_deliveredIn 2 = .ok (.iconst 0, 1) := by decide +kernel
theorem dX10_deliveredIn_3 : decode cX10_deliveredIn 3 = .ok (.istore_n 2, 1) := by decide +kernel
theorem dX10_deliveredIn_4 : decode cX10_deliveredIn 4 = .ok (.iload_n 2, 1) := by decide +kernel
theorem dX10_deliveredIn_5 : decode cX10_deliveredIn 5 = .ok (.aload_n 0, 1) := by decide +kernel
theorem dX10_deliveredIn_6 : decode cX10_deliveredIn 6 = .ok (.iconst 4, 1) := by decide +kernel
theorem dX10_deliveredIn_7 : decode cX10_deliveredIn 7 = .ok (.iaload, 1) := by decide +kernel
theorem dX10_deliveredIn_8 : decode cX10_deliveredIn 8 = .ok (.if_icmp .ge 30, 3) := by decide +kernel
theorem dX10_deliveredIn_11 : decode cX10_deliveredIn 11 = .ok (.iload_n 1, 1) := by decide +kernel
theorem dX10_deliveredIn_12 : decode cX10_deliveredIn 12 = .ok (.aload_n 0, 1) := by decide +kernel
theorem dX10_deliveredIn_13 : decode cX10_deliveredIn 13 = .ok (.iload_n 2, 1) := by decide +kernel
theorem dX10_deliveredIn_14 : decode cX10_deliveredIn 14 = .ok (.invokestatic 88, 3) := by decide +kernel
theorem dX10_deliveredIn_17 : decode cX10_deliveredIn 17 = .ok (.bipush 8, 2) := by decide +kernel
theorem dX10_deliveredIn_19 : decode cX10_deliveredIn 19 = .ok (.iadd, 1) := by decide +kernel
theorem dX10_deliveredIn_20 : decode cX10_deliveredIn 20 = .ok (.iaload, 1) := by decide +kernel
theorem dX10_deliveredIn_21 : decode cX10_deliveredIn 21 = .ok (.iconst (-1), 1) := by decide +kernel
theorem dX10_deliveredIn_22 : decode cX10_deliveredIn 22 = .ok (.if_icmp .ne 7, 3) := by decide +kernel
theorem dX10_deliveredIn_25 : decode cX10_deliveredIn 25 = .ok (.iconst 0, 1) := by decide +kernel
theorem dX10_deliveredIn_26 : decode cX10_deliveredIn 26 = .ok (.goto 4, 3) := by decide +kernel
theorem dX10_deliveredIn_29 : decode cX10_deliveredIn 29 = .ok (.iconst 1, 1) := by decide +kernel
theorem dX10_deliveredIn_30 : decode cX10_deliveredIn 30 = .ok (.iadd, 1) := by decide +kernel
theorem dX10_deliveredIn_31 : decode cX10_deliveredIn 31 = .ok (.istore_n 1, 1) := by decide +kernel
theorem dX10_deliveredIn_32 : decode cX10_deliveredIn 32 = .ok (.iinc 2 1, 3) := by decide +kernel
theorem dX10_deliveredIn_35 : decode cX10_deliveredIn 35 = .ok (.goto (-31), 3) := by decide +kernel
theorem dX10_deliveredIn_38 : decode cX10_deliveredIn 38 = .ok (.iload_n 1, 1) := by decide +kernel
theorem dX10_deliveredIn_39 : decode cX10_deliveredIn 39 = .ok (.ireturn, 1) := by decide +kernel
theorem dX10_layParcel_0 : decode cX10_layParcel 0 = .ok (.aload_n 0, 1) := by decide +kernel
theorem dX10_layParcel_1 : decode cX10_layParcel 1 = .ok (.iconst 4, 1) := by decide +kernel
theorem dX10_layParcel_2 : decode cX10_layParcel 2 = .ok (.iaload, 1) := by decide +kernel
theorem dX10_layParcel_3 : decode cX10_layParcel 3 = .ok (.invokestatic 88, 3) := by decide +kernel
theorem dX10_layParcel_6 : decode cX10_layParcel 6 = .ok (.istore 4, 2) := by decide +kernel
theorem dX10_layParcel_8 : decode cX10_layParcel 8 = .ok (.aload_n 0, 1) := by decide +kernel
theorem dX10_layParcel_9 : decode cX10_layParcel 9 = .ok (.iload 4, 2) := by decide +kernel
theorem dX10_layParcel_11 : decode cX10_layParcel 11 = .ok (.iconst 0, 1) := by decide +kernel
theorem dX10_layParcel_12 : decode cX10_layParcel 12 = .ok (.iadd, 1) := by decide +kernel
theorem dX10_layParcel_13 : decode cX10_layParcel 13 = .ok (.iload_n 1, 1) := by decide +kernel
theorem dX10_layParcel_14 : decode cX10_layParcel 14 = .ok (.iastore, 1) := by decide +kernel
theorem dX10_layParcel_15 : decode cX10_layParcel 15 = .ok (.aload_n 0, 1) := by decide +kernel
theorem dX10_layParcel_16 : decode cX10_layParcel 16 = .ok (.iload 4, 2) := by decide +kernel
theorem dX10_layParcel_18 : decode cX10_layParcel 18 = .ok (.iconst 1, 1) := by decide +kernel
theorem dX10_layParcel_19 : decode cX10_layParcel 19 = .ok (.iadd, 1) := by decide +kernel
theorem dX10_layParcel_20 : decode cX10_layParcel 20 = .ok (.iload_n 2, 1) := by decide +kernel
theorem dX10_layParcel_21 : decode cX10_layParcel 21 = .ok (.iastore, 1) := by decide +kernel
theorem dX10_layParcel_22 : decode cX10_layParcel 22 = .ok (.aload_n 0, 1) := by decide +kernel
theorem dX10_layParcel_23 : decode cX10_layParcel 23 = .ok (.iload 4, 2) := by decide +kernel
theorem dX10_layParcel_25 : decode cX10_layParcel 25 = .ok (.iconst 2, 1) := by decide +kernel
theorem dX10_layParcel_26 : decode cX10_layParcel 26 = .ok (.iadd, 1) := by decide +kernel
theorem dX10_layParcel_27 : decode cX10_layParcel 27 = .ok (.iload_n 3, 1) := by decide +kernel
theorem dX10_layParcel_28 : decode cX10_layParcel 28 = .ok (.iastore, 1) := by decide +kernel
theorem dX10_layParcel_29 : decode cX10_layParcel 29 = .ok (.aload_n 0, 1) := by decide +kernel
theorem dX10_layParcel_30 : decode cX10_layParcel 30 = .ok (.iload 4, 2) := by decide +kernel
theorem dX10_layParcel_32 : decode cX10_layParcel 32 = .ok (.iconst 3, 1) := by decide +kernel
theorem dX10_layParcel_33 : decode cX10_layParcel 33 = .ok (.iadd, 1) := by decide +kernel
theorem dX10_layParcel_34 : decode cX10_layParcel 34 = .ok (.iload_n 1, 1) := by decide +kernel
theorem dX10_layParcel_35 : decode cX10_layParcel 35 = .ok (.iastore, 1) := by decide +kernel
theorem dX10_layParcel_36 : decode cX10_layParcel 36 = .ok (.aload_n 0, 1) := by decide +kernel
theorem dX10_layParcel_37 : decode cX10_layParcel 37 = .ok (.iload 4, 2) := by decide +kernel
theorem dX10_layParcel_39 : decode cX10_layParcel 39 = .ok (.iconst 4, 1) := by decide +kernel
theorem dX10_layParcel_40 : decode cX10_layParcel 40 = .ok (.iadd, 1) := by decide +kernel
theorem dX10_layParcel_41 : decode cX10_layParcel 41 = .ok (.iconst (-1), 1) := by decide +kernel
theorem dX10_layParcel_42 : decode cX10_layParcel 42 = .ok (.iastore, 1) := by decide +kernel
theorem dX10_layParcel_43 : decode cX10_layParcel 43 = .ok (.aload_n 0, 1) := by decide +kernel
theorem dX10_layParcel_44 : decode cX10_layParcel 44 = .ok (.iload 4, 2) := by decide +kernel
theorem dX10_layParcel_46 : decode cX10_layParcel 46 = .ok (.iconst 5, 1) := by decide +kernel
theorem dX10_layParcel_47 : decode cX10_layParcel 47 = .ok (.iadd, 1) := by decide +kernel
theorem dX10_layParcel_48 : decode cX10_layParcel 48 = .ok (.iconst (-1), 1) := by decide +kernel
theorem dX10_layParcel_49 : decode cX10_layParcel 49 = .ok (.iastore, 1) := by decide +kernel
theorem dX10_layParcel_50 : decode cX10_layParcel 50 = .ok (.aload_n 0, 1) := by decide +kernel
theorem dX10_layParcel_51 : decode cX10_layParcel 51 = .ok (.iload 4, 2) := by decide +kernel
theorem dX10_layParcel_53 : decode cX10_layParcel 53 = .ok (.bipush 6, 2) := by decide +kernel
theorem dX10_layParcel_55 : decode cX10_layParcel 55 = .ok (.iadd, 1) := by decide +kernel
theorem dX10_layParcel_56 : decode cX10_layParcel 56 = .ok (.iconst 0, 1) := by decide +kernel
theorem dX10_layParcel_57 : decode cX10_layParcel 57 = .ok (.iastore, 1) := by decide +kernel
theorem dX10_layParcel_58 : decode cX10_layParcel 58 = .ok (.aload_n 0, 1) := by decide +kernel
theorem dX10_layParcel_59 : decode cX10_layParcel 59 = .ok (.iload 4, 2) := by decide +kernel
theorem dX10_layParcel_61 : decode cX10_layParcel 61 = .ok (.bipush 7, 2) := by decide +kernel
theorem dX10_layParcel_63 : decode cX10_layParcel 63 = .ok (.iadd, 1) := by decide +kernel
theorem dX10_layParcel_64 : decode cX10_layParcel 64 = .ok (.iconst 0, 1) := by decide +kernel
theorem dX10_layParcel_65 : decode cX10_layParcel 65 = .ok (.iastore, 1) := by decide +kernel
theorem dX10_layParcel_66 : decode cX10_layParcel 66 = .ok (.aload_n 0, 1) := by decide +kernel
theorem dX10_layParcel_67 : decode cX10_layParcel 67 = .ok (.iload 4, 2) := by decide +kernel
theorem dX10_layParcel_69 : decode cX10_layParcel 69 = .ok (.bipush 8, 2) := by decide +kernel
theorem dX10_layParcel_71 : decode cX10_layParcel 71 = .ok (.iadd, 1) := by decide +kernel
theorem dX10_layParcel_72 : decode cX10_layParcel 72 = .ok (.iconst (-1), 1) := by decide +kernel
theorem dX10_layParcel_73 : decode cX10_layParcel 73 = .ok (.iastore, 1) := by decide +kernel
theorem dX10_layParcel_74 : decode cX10_layParcel 74 = .ok (.aload_n 0, 1) := by decide +kernel
theorem dX10_layParcel_75 : decode cX10_layParcel 75 = .ok (.iconst 4, 1) := by decide +kernel
theorem dX10_layParcel_76 : decode cX10_layParcel 76 = .ok (.dup2, 1) := by decide +kernel
theorem dX10_layParcel_77 : decode cX10_layParcel 77 = .ok (.iaload, 1) := by decide +kernel
theorem dX10_layParcel_78 : decode cX10_layParcel 78 = .ok (.iconst 1, 1) := by decide +kernel
theorem dX10_layParcel_79 : decode cX10_layParcel 79 = .ok (.iadd, 1) := by decide +kernel
theorem dX10_layParcel_80 : decode cX10_layParcel 80 = .ok (.iastore, 1) := by decide +kernel
theorem dX10_layParcel_81 : decode cX10_layParcel 81 = .ok (.aload_n 0, 1) := by decide +kernel
theorem dX10_layParcel_82 : decode cX10_layParcel 82 = .ok (.iconst 4, 1) := by decide +kernel
theorem dX10_layParcel_83 : decode cX10_layParcel 83 = .ok (.iaload, 1) := by decide +kernel
theorem dX10_layParcel_84 : decode cX10_layParcel 84 = .ok (.iconst 1, 1) := by decide +kernel
theorem dX10_layParcel_85 : decode cX10_layParcel 85 = .ok (.isub, 1) := by decide +kernel
theorem dX10_layParcel_86 : decode cX10_layParcel 86 = .ok (.ireturn, 1) := by decide +kernel
theorem dX10_appendWord_0 : decode cX10_appendWord 0 = .ok (.bipush 24, 2) := by decide +kernel
theorem dX10_appendWord_2 : decode cX10_appendWord 2 = .ok (.istore_n 2, 1) := by decide +kernel
theorem dX10_appendWord_3 : decode cX10_appendWord 3 = .ok (.iload_n 2, 1) := by decide +kernel
theorem dX10_appendWord_4 : decode cX10_appendWord 4 = .ok (.ifCond .lt 35, 3) := by decide +kernel
theorem dX10_appendWord_7 : decode cX10_appendWord 7 = .ok (.aload_n 0, 1) := by decide +kernel
theorem dX10_appendWord_8 : decode cX10_appendWord 8 = .ok (.getfield 32, 3) := by decide +kernel
theorem dX10_appendWord_11 : decode cX10_appendWord 11 = .ok (.aload_n 0, 1) := by decide +kernel
theorem dX10_appendWord_12 : decode cX10_appendWord 12 = .ok (.getfield 52, 3) := by decide +kernel
theorem dX10_appendWord_15 : decode cX10_appendWord 15 = .ok (.iload_n 1, 1) := by decide +kernel
theorem dX10_appendWord_16 : decode cX10_appendWord 16 = .ok (.iload_n 2, 1) := by decide +kernel
theorem dX10_appendWord_17 : decode cX10_appendWord 17 = .ok (.ishr, 1) := by decide +kernel
theorem dX10_appendWord_18 : decode cX10_appendWord 18 = .ok (.sipush 255, 3) := by decide +kernel
theorem dX10_appendWord_21 : decode cX10_appendWord 21 = .ok (.iand, 1) := by decide +kernel
theorem dX10_appendWord_22 : decode cX10_appendWord 22 = .ok (.iastore, 1) := by decide +kernel
theorem dX10_appendWord_23 : decode cX10_appendWord 23 = .ok (.aload_n 0, 1) := by decide +kernel
theorem dX10_appendWord_24 : decode cX10_appendWord 24 = .ok (.dup, 1) := by decide +kernel
theorem dX10_appendWord_25 : decode cX10_appendWord 25 = .ok (.getfield 52, 3) := by decide +kernel
theorem dX10_appendWord_28 : decode cX10_appendWord 28 = .ok (.iconst 1, 1) := by decide +kernel
theorem dX10_appendWord_29 : decode cX10_appendWord 29 = .ok (.iadd, 1) := by decide +kernel
theorem dX10_appendWord_30 : decode cX10_appendWord 30 = .ok (.putfield 52, 3) := by decide +kernel
theorem dX10_appendWord_33 : decode cX10_appendWord 33 = .ok (.iinc 2 (-8), 3) := by decide +kernel
theorem dX10_appendWord_36 : decode cX10_appendWord 36 = .ok (.goto (-33), 3) := by decide +kernel
theorem dX10_appendWord_39 : decode cX10_appendWord 39 = .ok (.return_, 1) := by decide +kernel
theorem dX10_appendInput_0 : decode cX10_appendInput 0 = .ok (.aload_n 0, 1) := by decide +kernel
theorem dX10_appendInput_1 : decode cX10_appendInput 1 = .ok (.iconst 0, 1) := by decide +kernel
theorem dX10_appendInput_2 : decode cX10_appendInput 2 = .ok (.putfield 69, 3) := by decide +kernel
theorem dX10_appendInput_5 : decode cX10_appendInput 5 = .ok (.aload_n 0, 1) := by decide +kernel
theorem dX10_appendInput_6 : decode cX10_appendInput 6 = .ok (.aload_n 0, 1) := by decide +kernel
theorem dX10_appendInput_7 : decode cX10_appendInput 7 = .ok (.getfield 52, 3) := by decide +kernel
theorem dX10_appendInput_10 : decode cX10_appendInput 10 = .ok (.bipush 20, 2) := by decide +kernel
theorem dX10_appendInput_12 : decode cX10_appendInput 12 = .ok (.iadd, 1) := by decide +kernel
theorem dX10_appendInput_13 : decode cX10_appendInput 13 = .ok (.sipush 600, 3) := by decide +kernel
theorem dX10_appendInput_16 : decode cX10_appendInput 16 = .ok (.if_icmp .le 7, 3) := by decide +kernel
theorem dX10_appendInput_19 : decode cX10_appendInput 19 = .ok (.iconst 1, 1) := by decide +kernel
theorem dX10_appendInput_20 : decode cX10_appendInput 20 = .ok (.goto 4, 3) := by decide +kernel
theorem dX10_appendInput_23 : decode cX10_appendInput 23 = .ok (.iconst 0, 1) := by decide +kernel
theorem dX10_appendInput_24 : decode cX10_appendInput 24 = .ok (.iconst 1, 1) := by decide +kernel
theorem dX10_appendInput_25 : decode cX10_appendInput 25 = .ok (.invokevirtual 165, 3) := by decide +kernel
theorem dX10_appendInput_28 : decode cX10_appendInput 28 = .ok (.ifCond .eq 5, 3) := by decide +kernel
theorem dX10_appendInput_31 : decode cX10_appendInput 31 = .ok (.iconst 0, 1) := by decide +kernel
theorem dX10_appendInput_32 : decode cX10_appendInput 32 = .ok (.ireturn, 1) := by decide +kernel
theorem dX10_appendInput_33 : decode cX10_appendInput 33 = .ok (.aload_n 0, 1) := by decide +kernel
theorem dX10_appendInput_34 : decode cX10_appendInput 34 = .ok (.iload_n 1, 1) := by decide +kernel
theorem dX10_appendInput_35 : decode cX10_appendInput 35 = .ok (.invokevirtual 169, 3) := by decide +kernel
theorem dX10_appendInput_38 : decode cX10_appendInput 38 = .ok (.aload_n 0, 1) := by decide +kernel
theorem dX10_appendInput_39 : decode cX10_appendInput 39 = .ok (.iload_n 2, 1) := by decide +kernel
theorem dX10_appendInput_40 : decode cX10_appendInput 40 = .ok (.invokevirtual 169, 3) := by decide +kernel
theorem dX10_appendInput_43 : decode cX10_appendInput 43 = .ok (.aload_n 0, 1) := by decide +kernel
theorem dX10_appendInput_44 : decode cX10_appendInput 44 = .ok (.iload_n 3, 1) := by decide +kernel
theorem dX10_appendInput_45 : decode cX10_appendInput 45 = .ok (.invokevirtual 169, 3) := by decide +kernel
theorem dX10_appendInput_48 : decode cX10_appendInput 48 = .ok (.aload_n 0, 1) := by decide +kernel
theorem dX10_appendInput_49 : decode cX10_appendInput 49 = .ok (.iload 4, 2) := by decide +kernel
theorem dX10_appendInput_51 : decode cX10_appendInput 51 = .ok (.invokevirtual 169, 3) := by decide +kernel
theorem dX10_appendInput_54 : decode cX10_appendInput 54 = .ok (.aload_n 0, 1) := by decide +kernel
theorem dX10_appendInput_55 : decode cX10_appendInput 55 = .ok (.iload 5, 2) := by decide +kernel
theorem dX10_appendInput_57 : decode cX10_appendInput 57 = .ok (.invokevirtual 169, 3) := by decide +kernel
theorem dX10_appendInput_60 : decode cX10_appendInput 60 = .ok (.aload_n 0, 1) := by decide +kernel
theorem dX10_appendInput_61 : decode cX10_appendInput 61 = .ok (.getfield 52, 3) := by decide +kernel
theorem dX10_appendInput_64 : decode cX10_appendInput 64 = .ok (.ireturn, 1) := by decide +kernel
theorem dX10_truncateInput_0 : decode cX10_truncateInput 0 = .ok (.aload_n 0, 1) := by decide +kernel
theorem dX10_truncateInput_1 : decode cX10_truncateInput 1 = .ok (.iload_n 1, 1) := by decide +kernel
theorem dX10_truncateInput_2 : decode cX10_truncateInput 2 = .ok (.iconst 0, 1) := by decide +kernel
theorem dX10_truncateInput_3 : decode cX10_truncateInput 3 = .ok (.aload_n 0, 1) := by decide +kernel
theorem dX10_truncateInput_4 : decode cX10_truncateInput 4 = .ok (.getfield 52, 3) := by decide +kernel
theorem dX10_truncateInput_7 : decode cX10_truncateInput 7 = .ok (.invokevirtual 173, 3) := by decide +kernel
theorem dX10_truncateInput_10 : decode cX10_truncateInput 10 = .ok (.ifCond .eq 5, 3) := by decide +kernel
theorem dX10_truncateInput_13 : decode cX10_truncateInput 13 = .ok (.iconst 0, 1) := by decide +kernel
theorem dX10_truncateInput_14 : decode cX10_truncateInput 14 = .ok (.ireturn, 1) := by decide +kernel
theorem dX10_truncateInput_15 : decode cX10_truncateInput 15 = .ok (.aload_n 0, 1) := by decide +kernel
theorem dX10_truncateInput_16 : decode cX10_truncateInput 16 = .ok (.iload_n 1, 1) := by decide +kernel
theorem dX10_truncateInput_17 : decode cX10_truncateInput 17 = .ok (.putfield 52, 3) := by decide +kernel
theorem dX10_truncateInput_20 : decode cX10_truncateInput 20 = .ok (.iload_n 1, 1) := by decide +kernel
theorem dX10_truncateInput_21 : decode cX10_truncateInput 21 = .ok (.ireturn, 1) := by decide +kernel
theorem dX10_errorCode_0 : decode cX10_errorCode 0 = .ok (.aload_n 0, 1) := by decide +kernel
theorem dX10_errorCode_1 : decode cX10_errorCode 1 = .ok (.iconst 0, 1) := by decide +kernel
theorem dX10_errorCode_2 : decode cX10_errorCode 2 = .ok (.putfield 69, 3) := by decide +kernel
theorem dX10_errorCode_5 : decode cX10_errorCode 5 = .ok (.aload_n 0, 1) := by decide +kernel
theorem dX10_errorCode_6 : decode cX10_errorCode 6 = .ok (.getfield 176, 3) := by decide +kernel
theorem dX10_errorCode_9 : decode cX10_errorCode 9 = .ok (.ireturn, 1) := by decide +kernel
theorem dX10_errorPosition_0 : decode cX10_errorPosition 0 = .ok (.aload_n 0, 1) := by decide +kernel
theorem dX10_errorPosition_1 : decode cX10_errorPosition 1 = .ok (.iconst 0, 1) := by decide +kernel
theorem dX10_errorPosition_2 : decode cX10_errorPosition 2 = .ok (.putfield 69, 3) := by decide +kernel
theorem dX10_errorPosition_5 : decode cX10_errorPosition 5 = .ok (.aload_n 0, 1) := by decide +kernel
theorem dX10_errorPosition_6 : decode cX10_errorPosition 6 = .ok (.getfield 35, 3) := by decide +kernel
theorem dX10_errorPosition_9 : decode cX10_errorPosition 9 = .ok (.ireturn, 1) := by decide +kernel
theorem dX10_byteAt_0 : decode cX10_byteAt 0 = .ok (.iload_n 1, 1) := by decide +kernel
theorem dX10_byteAt_1 : decode cX10_byteAt 1 = .ok (.aload_n 0, 1) := by decide +kernel
theorem dX10_byteAt_2 : decode cX10_byteAt 2 = .ok (.getfield 52, 3) := by decide +kernel
theorem dX10_byteAt_5 : decode cX10_byteAt 5 = .ok (.if_icmp .ge 12, 3) := by decide +kernel
theorem dX10_byteAt_8 : decode cX10_byteAt 8 = .ok (.aload_n 0, 1) := by decide +kernel
theorem dX10_byteAt_9 : decode cX10_byteAt 9 = .ok (.getfield 32, 3) := by decide +kernel
theorem dX10_byteAt_12 : decode cX10_byteAt 12 = .ok (.iload_n 1, 1) := by decide +kernel
theorem dX10_byteAt_13 : decode cX10_byteAt 13 = .ok (.iaload, 1) := by decide +kernel
theorem dX10_byteAt_14 : decode cX10_byteAt 14 = .ok (.goto 4, 3) := by decide +kernel
theorem dX10_byteAt_17 : decode cX10_byteAt 17 = .ok (.iconst (-1), 1) := by decide +kernel
theorem dX10_byteAt_18 : decode cX10_byteAt 18 = .ok (.ireturn, 1) := by decide +kernel
theorem dX10_advance_0 : decode cX10_advance 0 = .ok (.aload_n 0, 1) := by decide +kernel
theorem dX10_advance_1 : decode cX10_advance 1 = .ok (.aload_n 0, 1) := by decide +kernel
theorem dX10_advance_2 : decode cX10_advance 2 = .ok (.getfield 179, 3) := by decide +kernel
theorem dX10_advance_5 : decode cX10_advance 5 = .ok (.invokevirtual 182, 3) := by decide +kernel
theorem dX10_advance_8 : decode cX10_advance 8 = .ok (.bipush 32, 2) := by decide +kernel
theorem dX10_advance_10 : decode cX10_advance 10 = .ok (.if_icmp .eq 16, 3) := by decide +kernel
theorem dX10_advance_13 : decode cX10_advance 13 = .ok (.aload_n 0, 1) := by decide +kernel
theorem dX10_advance_14 : decode cX10_advance 14 = .ok (.aload_n 0, 1) := by decide +kernel
theorem dX10_advance_15 : decode cX10_advance 15 = .ok (.getfield 179, 3) := by decide +kernel
theorem dX10_advance_18 : decode cX10_advance 18 = .ok (.invokevirtual 182, 3) := by decide +kernel
theorem dX10_advance_21 : decode cX10_advance 21 = .ok (.bipush 10, 2) := by decide +kernel
theorem dX10_advance_23 : decode cX10_advance 23 = .ok (.if_icmp .ne 16, 3) := by decide +kernel
theorem dX10_advance_26 : decode cX10_advance 26 = .ok (.aload_n 0, 1) := by decide +kernel
theorem dX10_advance_27 : decode cX10_advance 27 = .ok (.dup, 1) := by decide +kernel
theorem dX10_advance_28 : decode cX10_advance 28 = .ok (.getfield 179, 3) := by decide +kernel
theorem dX10_advance_31 : decode cX10_advance 31 = .ok (.iconst 1, 1) := by decide +kernel
theorem dX10_advance_32 : decode cX10_advance 32 = .ok (.iadd, 1) := by decide +kernel
theorem dX10_advance_33 : decode cX10_advance 33 = .ok (.putfield 179, 3) := by decide +kernel
theorem dX10_advance_36 : decode cX10_advance 36 = .ok (.goto (-36), 3) := by decide +kernel
theorem dX10_advance_39 : decode cX10_advance 39 = .ok (.aload_n 0, 1) := by decide +kernel
theorem dX10_advance_40 : decode cX10_advance 40 = .ok (.aload_n 0, 1) := by decide +kernel
theorem dX10_advance_41 : decode cX10_advance 41 = .ok (.getfield 179, 3) := by decide +kernel
theorem dX10_advance_44 : decode cX10_advance 44 = .ok (.putfield 185, 3) := by decide +kernel
theorem dX10_advance_47 : decode cX10_advance 47 = .ok (.aload_n 0, 1) := by decide +kernel
theorem dX10_advance_48 : decode cX10_advance 48 = .ok (.iconst 0, 1) := by decide +kernel
theorem dX10_advance_49 : decode cX10_advance 49 = .ok (.putfield 188, 3) := by decide +kernel
theorem dX10_advance_52 : decode cX10_advance 52 = .ok (.aload_n 0, 1) := by decide +kernel
theorem dX10_advance_53 : decode cX10_advance 53 = .ok (.iconst 0, 1) := by decide +kernel
theorem dX10_advance_54 : decode cX10_advance 54 = .ok (.putfield 191, 3) := by decide +kernel
theorem dX10_advance_57 : decode cX10_advance 57 = .ok (.aload_n 0, 1) := by decide +kernel
theorem dX10_advance_58 : decode cX10_advance 58 = .ok (.aload_n 0, 1) := by decide +kernel
theorem dX10_advance_59 : decode cX10_advance 59 = .ok (.getfield 179, 3) := by decide +kernel
theorem dX10_advance_62 : decode cX10_advance 62 = .ok (.invokevirtual 182, 3) := by decide +kernel
theorem dX10_advance_65 : decode cX10_advance 65 = .ok (.istore_n 1, 1) := by decide +kernel
theorem dX10_advance_66 : decode cX10_advance 66 = .ok (.iload_n 1, 1) := by decide +kernel
theorem dX10_advance_67 : decode cX10_advance 67 = .ok (.iconst (-1), 1) := by decide +kernel
theorem dX10_advance_68 : decode cX10_advance 68 = .ok (.if_icmp .ne 11, 3) := by decide +kernel
theorem dX10_advance_71 : decode cX10_advance 71 = .ok (.aload_n 0, 1) := by decide +kernel
theorem dX10_advance_72 : decode cX10_advance 72 = .ok (.iconst 0, 1) := by decide +kernel
theorem dX10_advance_73 : decode cX10_advance 73 = .ok (.putfield 194, 3) := by decide +kernel
theorem dX10_advance_76 : decode cX10_advance 76 = .ok (.goto 161, 3) := by decide +kernel
theorem dX10_advance_79 : decode cX10_advance 79 = .ok (.iload_n 1, 1) := by decide +kernel
theorem dX10_advance_80 : decode cX10_advance 80 = .ok (.bipush 97, 2) := by decide +kernel
theorem dX10_advance_82 : decode cX10_advance 82 = .ok (.bipush 122, 2) := by decide +kernel
theorem dX10_advance_84 : decode cX10_advance 84 = .ok (.invokestatic 99, 3) := by decide +kernel
theorem dX10_advance_87 : decode cX10_advance 87 = .ok (.ifCond .eq 49, 3) := by decide +kernel
theorem dX10_advance_90 : decode cX10_advance 90 = .ok (.aload_n 0, 1) := by decide +kernel
theorem dX10_advance_91 : decode cX10_advance 91 = .ok (.iconst 3, 1) := by decide +kernel
theorem dX10_advance_92 : decode cX10_advance 92 = .ok (.putfield 194, 3) := by decide +kernel
theorem dX10_advance_95 : decode cX10_advance 95 = .ok (.aload_n 0, 1) := by decide +kernel
theorem dX10_advance_96 : decode cX10_advance 96 = .ok (.aload_n 0, 1) := by decide +kernel
theorem dX10_advance_97 : decode cX10_advance 97 = .ok (.getfield 179, 3) := by decide +kernel
theorem dX10_advance_100 : decode cX10_advance 100 = .ok (.invokevirtual 182, 3) := by decide +kernel
theorem dX10_advance_103 : decode cX10_advance 103 = .ok (.bipush 97, 2) := by decide +kernel
theorem dX10_advance_105 : decode cX10_advance 105 = .ok (.bipush 122, 2) := by decide +kernel
theorem dX10_advance_107 : decode cX10_advance 107 = .ok (.invokestatic 99, 3) := by decide +kernel
theorem dX10_advance_110 : decode cX10_advance 110 = .ok (.ifCond .eq 127, 3) := by decide +kernel
theorem dX10_advance_113 : decode cX10_advance 113 = .ok (.aload_n 0, 1) := by decide +kernel
theorem dX10_advance_114 : decode cX10_advance 114 = .ok (.dup, 1) := by decide +kernel
theorem dX10_advance_115 : decode cX10_advance 115 = .ok (.getfield 188, 3) := by decide +kernel
theorem dX10_advance_118 : decode cX10_advance 118 = .ok (.iconst 1, 1) := by decide +kernel
theorem dX10_advance_119 : decode cX10_advance 119 = .ok (.iadd, 1) := by decide +kernel
theorem dX10_advance_120 : decode cX10_advance 120 = .ok (.putfield 188, 3) := by decide +kernel
theorem dX10_advance_123 : decode cX10_advance 123 = .ok (.aload_n 0, 1) := by decide +kernel
theorem dX10_advance_124 : decode cX10_advance 124 = .ok (.dup, 1) := by decide +kernel
theorem dX10_advance_125 : decode cX10_advance 125 = .ok (.getfield 179, 3) := by decide +kernel
theorem dX10_advance_128 : decode cX10_advance 128 = .ok (.iconst 1, 1) := by decide +kernel
theorem dX10_advance_129 : decode cX10_advance 129 = .ok (.iadd, 1) := by decide +kernel
theorem dX10_advance_130 : decode cX10_advance 130 = .ok (.putfield 179, 3) := by decide +kernel
theorem dX10_advance_133 : decode cX10_advance 133 = .ok (.goto (-38), 3) := by decide +kernel
theorem dX10_advance_136 : decode cX10_advance 136 = .ok (.iload_n 1, 1) := by decide +kernel
theorem dX10_advance_137 : decode cX10_advance 137 = .ok (.bipush 48, 2) := by decide +kernel
theorem dX10_advance_139 : decode cX10_advance 139 = .ok (.bipush 57, 2) := by decide +kernel
theorem dX10_advance_141 : decode cX10_advance 141 = .ok (.invokestatic 99, 3) := by decide +kernel
theorem dX10_advance_144 : decode cX10_advance 144 = .ok (.ifCond .eq 78, 3) := by decide +kernel
theorem dX10_advance_147 : decode cX10_advance 147 = .ok (.aload_n 0, 1) := by decide +kernel
theorem dX10_advance_148 : decode cX10_advance 148 = .ok (.iconst 2, 1) := by decide +kernel
theorem dX10_advance_149 : decode cX10_advance 149 = .ok (.putfield 194, 3) := by decide +kernel
theorem dX10_advance_152 : decode cX10_advance 152 = .ok (.aload_n 0, 1) := by decide +kernel
theorem dX10_advance_153 : decode cX10_advance 153 = .ok (.aload_n 0, 1) := by decide +kernel
theorem dX10_advance_154 : decode cX10_advance 154 = .ok (.getfield 179, 3) := by decide +kernel
theorem dX10_advance_157 : decode cX10_advance 157 = .ok (.invokevirtual 182, 3) := by decide +kernel
theorem dX10_advance_160 : decode cX10_advance 160 = .ok (.bipush 48, 2) := by decide +kernel
theorem dX10_advance_162 : decode cX10_advance 162 = .ok (.bipush 57, 2) := by decide +kernel
theorem dX10_advance_164 : decode cX10_advance 164 = .ok (.invokestatic 99, 3) := by decide +kernel
theorem dX10_advance_167 : decode cX10_advance 167 = .ok (.ifCond .eq 70, 3) := by decide +kernel
theorem dX10_advance_170 : decode cX10_advance 170 = .ok (.aload_n 0, 1) := by decide +kernel
theorem dX10_advance_171 : decode cX10_advance 171 = .ok (.aload_n 0, 1) := by decide +kernel
theorem dX10_advance_172 : decode cX10_advance 172 = .ok (.getfield 191, 3) := by decide +kernel
theorem dX10_advance_175 : decode cX10_advance 175 = .ok (.ldc 197, 2) := by decide +kernel
theorem dX10_advance_177 : decode cX10_advance 177 = .ok (.if_icmp .le 10, 3) := by decide +kernel
theorem dX10_advance_180 : decode cX10_advance 180 = .ok (.aload_n 0, 1) := by decide +kernel
theorem dX10_advance_181 : decode cX10_advance 181 = .ok (.getfield 191, 3) := by decide +kernel
theorem dX10_advance_184 : decode cX10_advance 184 = .ok (.goto 22, 3) := by decide +kernel
theorem dX10_advance_187 : decode cX10_advance 187 = .ok (.bipush 10, 2) := by decide +kernel
theorem dX10_advance_189 : decode cX10_advance 189 = .ok (.aload_n 0, 1) := by decide +kernel
theorem dX10_advance_190 : decode cX10_advance 190 = .ok (.getfield 191, 3) := by decide +kernel
theorem dX10_advance_193 : decode cX10_advance 193 = .ok (.imul, 1) := by decide +kernel
theorem dX10_advance_194 : decode cX10_advance 194 = .ok (.aload_n 0, 1) := by decide +kernel
theorem dX10_advance_195 : decode cX10_advance 195 = .ok (.aload_n 0, 1) := by decide +kernel
theorem dX10_advance_196 : decode cX10_advance 196 = .ok (.getfield 179, 3) := by decide +kernel
theorem dX10_advance_199 : decode cX10_advance 199 = .ok (.invokevirtual 182, 3) := by decide +kernel
theorem dX10_advance_202 : decode cX10_advance 202 = .ok (.iadd, 1) := by decide +kernel
theorem dX10_advance_203 : decode cX10_advance 203 = .ok (.bipush 48, 2) := by decide +kernel
theorem dX10_advance_205 : decode cX10_advance 205 = .ok (.isub, 1) := by decide +kernel
theorem dX10_advance_206 : decode cX10_advance 206 = .ok (.putfield 191, 3) := by decide +kernel
theorem dX10_advance_209 : decode cX10_advance 209 = .ok (.aload_n 0, 1) := by decide +kernel
theorem dX10_advance_210 : decode cX10_advance 210 = .ok (.dup, 1) := by decide +kernel
theorem dX10_advance_211 : decode cX10_advance 211 = .ok (.getfield 179, 3) := by decide +kernel
theorem dX10_advance_214 : decode cX10_advance 214 = .ok (.iconst 1, 1) := by decide +kernel
theorem dX10_advance_215 : decode cX10_advance 215 = .ok (.iadd, 1) := by decide +kernel
theorem dX10_advance_216 : decode cX10_advance 216 = .ok (.putfield 179, 3) := by decide +kernel
theorem dX10_advance_219 : decode cX10_advance 219 = .ok (.goto (-67), 3) := by decide +kernel
theorem dX10_advance_222 : decode cX10_advance 222 = .ok (.aload_n 0, 1) := by decide +kernel
theorem dX10_advance_223 : decode cX10_advance 223 = .ok (.iconst 1, 1) := by decide +kernel
theorem dX10_advance_224 : decode cX10_advance 224 = .ok (.putfield 194, 3) := by decide +kernel
theorem dX10_advance_227 : decode cX10_advance 227 = .ok (.aload_n 0, 1) := by decide +kernel
theorem dX10_advance_228 : decode cX10_advance 228 = .ok (.dup, 1) := by decide +kernel
theorem dX10_advance_229 : decode cX10_advance 229 = .ok (.getfield 179, 3) := by decide +kernel
theorem dX10_advance_232 : decode cX10_advance 232 = .ok (.iconst 1, 1) := by decide +kernel
theorem dX10_advance_233 : decode cX10_advance 233 = .ok (.iadd, 1) := by decide +kernel
theorem dX10_advance_234 : decode cX10_advance 234 = .ok (.putfield 179, 3) := by decide +kernel
theorem dX10_advance_237 : decode cX10_advance 237 = .ok (.return_, 1) := by decide +kernel
theorem dX10_is_0 : decode cX10_is 0 = .ok (.aload_n 0, 1) := by decide +kernel
theorem dX10_is_1 : decode cX10_is 1 = .ok (.getfield 194, 3) := by decide +kernel
theorem dX10_is_4 : decode cX10_is 4 = .ok (.iconst 3, 1) := by decide +kernel
theorem dX10_is_5 : decode cX10_is 5 = .ok (.if_icmp .ne 14, 3) := by decide +kernel
theorem dX10_is_8 : decode cX10_is 8 = .ok (.aload_n 0, 1) := by decide +kernel
theorem dX10_is_9 : decode cX10_is 9 = .ok (.getfield 188, 3) := by decide +kernel
theorem dX10_is_12 : decode cX10_is 12 = .ok (.aload_n 1, 1) := by decide +kernel
theorem dX10_is_13 : decode cX10_is 13 = .ok (.invokevirtual 59, 3) := by decide +kernel
theorem dX10_is_16 : decode cX10_is 16 = .ok (.if_icmp .eq 5, 3) := by decide +kernel
theorem dX10_is_19 : decode cX10_is 19 = .ok (.iconst 0, 1) := by decide +kernel
theorem dX10_is_20 : decode cX10_is 20 = .ok (.ireturn, 1) := by decide +kernel
theorem dX10_is_21 : decode cX10_is 21 = .ok (.iconst 0, 1) := by decide +kernel
theorem dX10_is_22 : decode cX10_is 22 = .ok (.istore_n 2, 1) := by decide +kernel
theorem dX10_is_23 : decode cX10_is 23 = .ok (.iload_n 2, 1) := by decide +kernel
theorem dX10_is_24 : decode cX10_is 24 = .ok (.aload_n 0, 1) := by decide +kernel
theorem dX10_is_25 : decode cX10_is 25 = .ok (.getfield 188, 3) := by decide +kernel
theorem dX10_is_28 : decode cX10_is 28 = .ok (.if_icmp .ge 30, 3) := by decide +kernel
theorem dX10_is_31 : decode cX10_is 31 = .ok (.aload_n 0, 1) := by decide +kernel
theorem dX10_is_32 : decode cX10_is 32 = .ok (.getfield 32, 3) := by decide +kernel
theorem dX10_is_35 : decode cX10_is 35 = .ok (.aload_n 0, 1) := by decide +kernel
theorem dX10_is_36 : decode cX10_is 36 = .ok (.getfield 185, 3) := by decide +kernel
theorem dX10_is_39 : decode cX10_is 39 = .ok (.iload_n 2, 1) := by decide +kernel
theorem dX10_is_40 : decode cX10_is 40 = .ok (.iadd, 1) := by decide +kernel
theorem dX10_is_41 : decode cX10_is 41 = .ok (.iaload, 1) := by decide +kernel
theorem dX10_is_42 : decode cX10_is 42 = .ok (.aload_n 1, 1) := by decide +kernel
theorem dX10_is_43 : decode cX10_is 43 = .ok (.iload_n 2, 1) := by decide +kernel
theorem dX10_is_44 : decode cX10_is 44 = .ok (.invokevirtual 65, 3) := by decide +kernel
theorem dX10_is_47 : decode cX10_is 47 = .ok (.if_icmp .eq 5, 3) := by decide +kernel
theorem dX10_is_50 : decode cX10_is 50 = .ok (.iconst 0, 1) := by decide +kernel
theorem dX10_is_51 : decode cX10_is 51 = .ok (.ireturn, 1) := by decide +kernel
theorem dX10_is_52 : decode cX10_is 52 = .ok (.iinc 2 1, 3) := by decide +kernel
theorem dX10_is_55 : decode cX10_is 55 = .ok (.goto (-32), 3) := by decide +kernel
theorem dX10_is_58 : decode cX10_is 58 = .ok (.iconst 1, 1) := by decide +kernel
theorem dX10_is_59 : decode cX10_is 59 = .ok (.ireturn, 1) := by decide +kernel
theorem dX10_check_0 : decode cX10_check 0 = .ok (.aload_n 0, 1) := by decide +kernel
theorem dX10_check_1 : decode cX10_check 1 = .ok (.getfield 176, 3) := by decide +kernel
theorem dX10_check_4 : decode cX10_check 4 = .ok (.ifCond .ne 20, 3) := by decide +kernel
theorem dX10_check_7 : decode cX10_check 7 = .ok (.iload_n 1, 1) := by decide +kernel
theorem dX10_check_8 : decode cX10_check 8 = .ok (.ifCond .ne 16, 3) := by decide +kernel
theorem dX10_check_11 : decode cX10_check 11 = .ok (.aload_n 0, 1) := by decide +kernel
theorem dX10_check_12 : decode cX10_check 12 = .ok (.iload_n 2, 1) := by decide +kernel
theorem dX10_check_13 : decode cX10_check 13 = .ok (.putfield 176, 3) := by decide +kernel
theorem dX10_check_16 : decode cX10_check 16 = .ok (.aload_n 0, 1) := by decide +kernel
theorem dX10_check_17 : decode cX10_check 17 = .ok (.aload_n 0, 1) := by decide +kernel
theorem dX10_check_18 : decode cX10_check 18 = .ok (.getfield 185, 3) := by decide +kernel
theorem dX10_check_21 : decode cX10_check 21 = .ok (.putfield 35, 3) := by decide +kernel
theorem dX10_check_24 : decode cX10_check 24 = .ok (.aload_n 0, 1) := by decide +kernel
theorem dX10_check_25 : decode cX10_check 25 = .ok (.getfield 176, 3) := by decide +kernel
theorem dX10_check_28 : decode cX10_check 28 = .ok (.ifCond .ne 7, 3) := by decide +kernel
theorem dX10_check_31 : decode cX10_check 31 = .ok (.iconst 1, 1) := by decide +kernel
theorem dX10_check_32 : decode cX10_check 32 = .ok (.goto 4, 3) := by decide +kernel
theorem dX10_check_35 : decode cX10_check 35 = .ok (.iconst 0, 1) := by decide +kernel
theorem dX10_check_36 : decode cX10_check 36 = .ok (.ireturn, 1) := by decide +kernel
theorem dX10_next_0 : decode cX10_next 0 = .ok (.aload_n 0, 1) := by decide +kernel
theorem dX10_next_1 : decode cX10_next 1 = .ok (.getfield 176, 3) := by decide +kernel
theorem dX10_next_4 : decode cX10_next 4 = .ok (.ifCond .ne 7, 3) := by decide +kernel
theorem dX10_next_7 : decode cX10_next 7 = .ok (.aload_n 0, 1) := by decide +kernel
theorem dX10_next_8 : decode cX10_next 8 = .ok (.invokevirtual 198, 3) := by decide +kernel
theorem dX10_next_11 : decode cX10_next 11 = .ok (.return_, 1) := by decide +kernel
theorem dX10_number_0 : decode cX10_number 0 = .ok (.aload_n 0, 1) := by decide +kernel
theorem dX10_number_1 : decode cX10_number 1 = .ok (.aload_n 0, 1) := by decide +kernel
theorem dX10_number_2 : decode cX10_number 2 = .ok (.getfield 194, 3) := by decide +kernel
theorem dX10_number_5 : decode cX10_number 5 = .ok (.iconst 2, 1) := by decide +kernel
theorem dX10_number_6 : decode cX10_number 6 = .ok (.if_icmp .ne 7, 3) := by decide +kernel
theorem dX10_number_9 : decode cX10_number 9 = .ok (.iconst 1, 1) := by decide +kernel
theorem dX10_number_10 : decode cX10_number 10 = .ok (.goto 4, 3) := by decide +kernel
theorem dX10_number_13 : decode cX10_number 13 = .ok (.iconst 0, 1) := by decide +kernel
theorem dX10_number_14 : decode cX10_number 14 = .ok (.iconst 1, 1) := by decide +kernel
theorem dX10_number_15 : decode cX10_number 15 = .ok (.invokevirtual 201, 3) := by decide +kernel
theorem dX10_number_18 : decode cX10_number 18 = .ok (.pop, 1) := by decide +kernel
theorem dX10_number_19 : decode cX10_number 19 = .ok (.aload_n 0, 1) := by decide +kernel
theorem dX10_number_20 : decode cX10_number 20 = .ok (.aload_n 0, 1) := by decide +kernel
theorem dX10_number_21 : decode cX10_number 21 = .ok (.getfield 191, 3) := by decide +kernel
theorem dX10_number_24 : decode cX10_number 24 = .ok (.iload_n 1, 1) := by decide +kernel
theorem dX10_number_25 : decode cX10_number 25 = .ok (.iload_n 2, 1) := by decide +kernel
theorem dX10_number_26 : decode cX10_number 26 = .ok (.invokestatic 99, 3) := by decide +kernel
theorem dX10_number_29 : decode cX10_number 29 = .ok (.iconst 2, 1) := by decide +kernel
theorem dX10_number_30 : decode cX10_number 30 = .ok (.invokevirtual 201, 3) := by decide +kernel
theorem dX10_number_33 : decode cX10_number 33 = .ok (.pop, 1) := by decide +kernel
theorem dX10_number_34 : decode cX10_number 34 = .ok (.aload_n 0, 1) := by decide +kernel
theorem dX10_number_35 : decode cX10_number 35 = .ok (.getfield 176, 3) := by decide +kernel
theorem dX10_number_38 : decode cX10_number 38 = .ok (.ifCond .ne 10, 3) := by decide +kernel
theorem dX10_number_41 : decode cX10_number 41 = .ok (.aload_n 0, 1) := by decide +kernel
theorem dX10_number_42 : decode cX10_number 42 = .ok (.getfield 191, 3) := by decide +kernel
theorem dX10_number_45 : decode cX10_number 45 = .ok (.goto 4, 3) := by decide +kernel
theorem dX10_number_48 : decode cX10_number 48 = .ok (.iload_n 1, 1) := by decide +kernel
theorem dX10_number_49 : decode cX10_number 49 = .ok (.istore_n 3, 1) := by decide +kernel
theorem dX10_number_50 : decode cX10_number 50 = .ok (.aload_n 0, 1) := by decide +kernel
theorem dX10_number_51 : decode cX10_number 51 = .ok (.invokevirtual 204, 3) := by decide +kernel
theorem dX10_number_54 : decode cX10_number 54 = .ok (.iload_n 3, 1) := by decide +kernel
theorem dX10_number_55 : decode cX10_number 55 = .ok (.ireturn, 1) := by decide +kernel
theorem dX10_finish_0 : decode cX10_finish 0 = .ok (.aload_n 0, 1) := by decide +kernel
theorem dX10_finish_1 : decode cX10_finish 1 = .ok (.aload_n 0, 1) := by decide +kernel
theorem dX10_finish_2 : decode cX10_finish 2 = .ok (.getfield 194, 3) := by decide +kernel
theorem dX10_finish_5 : decode cX10_finish 5 = .ok (.iconst 1, 1) := by decide +kernel
theorem dX10_finish_6 : decode cX10_finish 6 = .ok (.if_icmp .ne 21, 3) := by decide +kernel
theorem dX10_finish_9 : decode cX10_finish 9 = .ok (.aload_n 0, 1) := by decide +kernel
theorem dX10_finish_10 : decode cX10_finish 10 = .ok (.getfield 32, 3) := by decide +kernel
theorem dX10_finish_13 : decode cX10_finish 13 = .ok (.aload_n 0, 1) := by decide +kernel
theorem dX10_finish_14 : decode cX10_finish 14 = .ok (.getfield 185, 3) := by decide +kernel
theorem dX10_finish_17 : decode cX10_finish 17 = .ok (.iaload, 1) := by decide +kernel
theorem dX10_finish_18 : decode cX10_finish 18 = .ok (.bipush 59, 2) := by decide +kernel
theorem dX10_finish_20 : decode cX10_finish 20 = .ok (.if_icmp .ne 7, 3) := by decide +kernel
theorem dX10_finish_23 : decode cX10_finish 23 = .ok (.iconst 1, 1) := by decide +kernel
theorem dX10_finish_24 : decode cX10_finish 24 = .ok (.goto 4, 3) := by decide +kernel
theorem dX10_finish_27 : decode cX10_finish 27 = .ok (.iconst 0, 1) := by decide +kernel
theorem dX10_finish_28 : decode cX10_finish 28 = .ok (.iconst 1, 1) := by decide +kernel
theorem dX10_finish_29 : decode cX10_finish 29 = .ok (.invokevirtual 201, 3) := by decide +kernel
theorem dX10_finish_32 : decode cX10_finish 32 = .ok (.pop, 1) := by decide +kernel
theorem dX10_finish_33 : decode cX10_finish 33 = .ok (.aload_n 0, 1) := by decide +kernel
theorem dX10_finish_34 : decode cX10_finish 34 = .ok (.invokevirtual 204, 3) := by decide +kernel
theorem dX10_finish_37 : decode cX10_finish 37 = .ok (.return_, 1) := by decide +kernel
theorem dX10_nameHere_0 : decode cX10_nameHere 0 = .ok (.iconst 0, 1) := by decide +kernel
theorem dX10_nameHere_1 : decode cX10_nameHere 1 = .ok (.istore_n 1, 1) := by decide +kernel
theorem dX10_nameHere_2 : decode cX10_nameHere 2 = .ok (.iconst 0, 1) := by decide +kernel
theorem dX10_nameHere_3 : decode cX10_nameHere 3 = .ok (.istore_n 2, 1) := by decide +kernel
theorem dX10_nameHere_4 : decode cX10_nameHere 4 = .ok (.iload_n 2, 1) := by decide +kernel
theorem dX10_nameHere_5 : decode cX10_nameHere 5 = .ok (.iconst 4, 1) := by decide +kernel
theorem dX10_nameHere_6 : decode cX10_nameHere 6 = .ok (.if_icmp .ge 41, 3) := by decide +kernel
theorem dX10_nameHere_9 : decode cX10_nameHere 9 = .ok (.iload_n 1, 1) := by decide +kernel
theorem dX10_nameHere_10 : decode cX10_nameHere 10 = .ok (.bipush 27, 2) := by decide +kernel
theorem dX10_nameHere_12 : decode cX10_nameHere 12 = .ok (.imul, 1) := by decide +kernel
theorem dX10_nameHere_13 : decode cX10_nameHere 13 = .ok (.iload_n 2, 1) := by decide +kernel
theorem dX10_nameHere_14 : decode cX10_nameHere 14 = .ok (.aload_n 0, 1) := by decide +kernel
theorem dX10_nameHere_15 : decode cX10_nameHere 15 = .ok (.getfield 188, 3) := by decide +kernel
theorem dX10_nameHere_18 : decode cX10_nameHere 18 = .ok (.if_icmp .ge 20, 3) := by decide +kernel
theorem dX10_nameHere_21 : decode cX10_nameHere 21 = .ok (.aload_n 0, 1) := by decide +kernel
theorem dX10_nameHere_22 : decode cX10_nameHere 22 = .ok (.getfield 32, 3) := by decide +kernel
theorem dX10_nameHere_25 : decode cX10_nameHere 25 = .ok (.aload_n 0, 1) := by decide +kernel
theorem dX10_nameHere_26 : decode cX10_nameHere 26 = .ok (.getfield 185, 3) := by decide +kernel
theorem dX10_nameHere_29 : decode cX10_nameHere 29 = .ok (.iload_n 2, 1) := by decide +kernel
theorem dX10_nameHere_30 : decode cX10_nameHere 30 = .ok (.iadd, 1) := by decide +kernel
theorem dX10_nameHere_31 : decode cX10_nameHere 31 = .ok (.iaload, 1) := by decide +kernel
theorem dX10_nameHere_32 : decode cX10_nameHere 32 = .ok (.bipush 96, 2) := by decide +kernel
theorem dX10_nameHere_34 : decode cX10_nameHere 34 = .ok (.isub, 1) := by decide +kernel
theorem dX10_nameHere_35 : decode cX10_nameHere 35 = .ok (.goto 4, 3) := by decide +kernel
theorem dX10_nameHere_38 : decode cX10_nameHere 38 = .ok (.iconst 0, 1) := by decide +kernel
theorem dX10_nameHere_39 : decode cX10_nameHere 39 = .ok (.iadd, 1) := by decide +kernel
theorem dX10_nameHere_40 : decode cX10_nameHere 40 = .ok (.istore_n 1, 1) := by decide +kernel
theorem dX10_nameHere_41 : decode cX10_nameHere 41 = .ok (.iinc 2 1, 3) := by decide +kernel
theorem dX10_nameHere_44 : decode cX10_nameHere 44 = .ok (.goto (-40), 3) := by decide +kernel
theorem dX10_nameHere_47 : decode cX10_nameHere 47 = .ok (.iload_n 1, 1) := by decide +kernel
theorem dX10_nameHere_48 : decode cX10_nameHere 48 = .ok (.ireturn, 1) := by decide +kernel
theorem dX10_named_0 : decode cX10_named 0 = .ok (.aload_n 0, 1) := by decide +kernel
theorem dX10_named_1 : decode cX10_named 1 = .ok (.getfield 188, 3) := by decide +kernel
theorem dX10_named_4 : decode cX10_named 4 = .ok (.iconst 4, 1) := by decide +kernel
theorem dX10_named_5 : decode cX10_named 5 = .ok (.if_icmp .le 7, 3) := by decide +kernel
theorem dX10_named_8 : decode cX10_named 8 = .ok (.iconst (-1), 1) := by decide +kernel
theorem dX10_named_9 : decode cX10_named 9 = .ok (.goto 7, 3) := by decide +kernel
theorem dX10_named_12 : decode cX10_named 12 = .ok (.aload_n 0, 1) := by decide +kernel
theorem dX10_named_13 : decode cX10_named 13 = .ok (.invokevirtual 207, 3) := by decide +kernel
theorem dX10_named_16 : decode cX10_named 16 = .ok (.istore_n 1, 1) := by decide +kernel
theorem dX10_named_17 : decode cX10_named 17 = .ok (.iconst 0, 1) := by decide +kernel
theorem dX10_named_18 : decode cX10_named 18 = .ok (.istore_n 2, 1) := by decide +kernel
theorem dX10_named_19 : decode cX10_named 19 = .ok (.iload_n 2, 1) := by decide +kernel
theorem dX10_named_20 : decode cX10_named 20 = .ok (.aload_n 0, 1) := by decide +kernel
theorem dX10_named_21 : decode cX10_named 21 = .ok (.getfield 13, 3) := by decide +kernel
theorem dX10_named_24 : decode cX10_named 24 = .ok (.iconst 1, 1) := by decide +kernel
theorem dX10_named_25 : decode cX10_named 25 = .ok (.iaload, 1) := by decide +kernel
theorem dX10_named_26 : decode cX10_named 26 = .ok (.if_icmp .ge 26, 3) := by decide +kernel
theorem dX10_named_29 : decode cX10_named 29 = .ok (.aload_n 0, 1) := by decide +kernel
theorem dX10_named_30 : decode cX10_named 30 = .ok (.getfield 13, 3) := by decide +kernel
theorem dX10_named_33 : decode cX10_named 33 = .ok (.iload_n 2, 1) := by decide +kernel
theorem dX10_named_34 : decode cX10_named 34 = .ok (.invokestatic 134, 3) := by decide +kernel
theorem dX10_named_37 : decode cX10_named 37 = .ok (.iconst 0, 1) := by decide +kernel
theorem dX10_named_38 : decode cX10_named 38 = .ok (.iadd, 1) := by decide +kernel
theorem dX10_named_39 : decode cX10_named 39 = .ok (.iaload, 1) := by decide +kernel
theorem dX10_named_40 : decode cX10_named 40 = .ok (.iload_n 1, 1) := by decide +kernel
theorem dX10_named_41 : decode cX10_named 41 = .ok (.if_icmp .ne 5, 3) := by decide +kernel
theorem dX10_named_44 : decode cX10_named 44 = .ok (.iload_n 2, 1) := by decide +kernel
theorem dX10_named_45 : decode cX10_named 45 = .ok (.ireturn, 1) := by decide +kernel
theorem dX10_named_46 : decode cX10_named 46 = .ok (.iinc 2 1, 3) := by decide +kernel
theorem dX10_named_49 : decode cX10_named 49 = .ok (.goto (-30), 3) := by decide +kernel
theorem dX10_named_52 : decode cX10_named 52 = .ok (.iconst (-1), 1) := by decide +kernel
theorem dX10_named_53 : decode cX10_named 53 = .ok (.ireturn, 1) := by decide +kernel
theorem dX10_look_0 : decode cX10_look 0 = .ok (.aload_n 0, 1) := by decide +kernel
theorem dX10_look_1 : decode cX10_look 1 = .ok (.aload_n 0, 1) := by decide +kernel
theorem dX10_look_2 : decode cX10_look 2 = .ok (.getfield 194, 3) := by decide +kernel
theorem dX10_look_5 : decode cX10_look 5 = .ok (.iconst 3, 1) := by decide +kernel
theorem dX10_look_6 : decode cX10_look 6 = .ok (.if_icmp .ne 7, 3) := by decide +kernel
theorem dX10_look_9 : decode cX10_look 9 = .ok (.iconst 1, 1) := by decide +kernel
theorem dX10_look_10 : decode cX10_look 10 = .ok (.goto 4, 3) := by decide +kernel
theorem dX10_look_13 : decode cX10_look 13 = .ok (.iconst 0, 1) := by decide +kernel
theorem dX10_look_14 : decode cX10_look 14 = .ok (.iconst 1, 1) := by decide +kernel
theorem dX10_look_15 : decode cX10_look 15 = .ok (.invokevirtual 201, 3) := by decide +kernel
theorem dX10_look_18 : decode cX10_look 18 = .ok (.pop, 1) := by decide +kernel
theorem dX10_look_19 : decode cX10_look 19 = .ok (.aload_n 0, 1) := by decide +kernel
theorem dX10_look_20 : decode cX10_look 20 = .ok (.getfield 176, 3) := by decide +kernel
theorem dX10_look_23 : decode cX10_look 23 = .ok (.ifCond .ne 10, 3) := by decide +kernel
theorem dX10_look_26 : decode cX10_look 26 = .ok (.aload_n 0, 1) := by decide +kernel
theorem dX10_look_27 : decode cX10_look 27 = .ok (.invokevirtual 210, 3) := by decide +kernel
theorem dX10_look_30 : decode cX10_look 30 = .ok (.goto 4, 3) := by decide +kernel
theorem dX10_look_33 : decode cX10_look 33 = .ok (.iconst 0, 1) := by decide +kernel
theorem dX10_look_34 : decode cX10_look 34 = .ok (.istore_n 1, 1) := by decide +kernel
theorem dX10_look_35 : decode cX10_look 35 = .ok (.aload_n 0, 1) := by decide +kernel
theorem dX10_look_36 : decode cX10_look 36 = .ok (.aload_n 0, 1) := by decide +kernel
theorem dX10_look_37 : decode cX10_look 37 = .ok (.getfield 176, 3) := by decide +kernel
theorem dX10_look_40 : decode cX10_look 40 = .ok (.ifCond .ne 8, 3) := by decide +kernel
theorem dX10_look_43 : decode cX10_look 43 = .ok (.iload_n 1, 1) := by decide +kernel
theorem dX10_look_44 : decode cX10_look 44 = .ok (.iconst (-1), 1) := by decide +kernel
theorem dX10_look_45 : decode cX10_look 45 = .ok (.if_icmp .eq 7, 3) := by decide +kernel
theorem dX10_look_48 : decode cX10_look 48 = .ok (.iconst 1, 1) := by decide +kernel
theorem dX10_look_49 : decode cX10_look 49 = .ok (.goto 4, 3) := by decide +kernel
theorem dX10_look_52 : decode cX10_look 52 = .ok (.iconst 0, 1) := by decide +kernel
theorem dX10_look_53 : decode cX10_look 53 = .ok (.iconst 4, 1) := by decide +kernel
theorem dX10_look_54 : decode cX10_look 54 = .ok (.invokevirtual 201, 3) := by decide +kernel
theorem dX10_look_57 : decode cX10_look 57 = .ok (.pop, 1) := by decide +kernel
theorem dX10_look_58 : decode cX10_look 58 = .ok (.aload_n 0, 1) := by decide +kernel
theorem dX10_look_59 : decode cX10_look 59 = .ok (.getfield 176, 3) := by decide +kernel
theorem dX10_look_62 : decode cX10_look 62 = .ok (.ifCond .ne 7, 3) := by decide +kernel
theorem dX10_look_65 : decode cX10_look 65 = .ok (.iload_n 1, 1) := by decide +kernel
theorem dX10_look_66 : decode cX10_look 66 = .ok (.goto 4, 3) := by decide +kernel
theorem dX10_look_69 : decode cX10_look 69 = .ok (.iconst 0, 1) := by decide +kernel
theorem dX10_look_70 : decode cX10_look 70 = .ok (.ireturn, 1) := by decide +kernel
theorem dX10_station_0 : decode cX10_station 0 = .ok (.aload_n 0, 1) := by decide +kernel
theorem dX10_station_1 : decode cX10_station 1 = .ok (.invokevirtual 213, 3) := by decide +kernel
theorem dX10_station_4 : decode cX10_station 4 = .ok (.istore_n 1, 1) := by decide +kernel
theorem dX10_station_5 : decode cX10_station 5 = .ok (.aload_n 0, 1) := by decide +kernel
theorem dX10_station_6 : decode cX10_station 6 = .ok (.invokevirtual 204, 3) := by decide +kernel
theorem dX10_station_9 : decode cX10_station 9 = .ok (.iload_n 1, 1) := by decide +kernel
theorem dX10_station_10 : decode cX10_station 10 = .ok (.ireturn, 1) := by decide +kernel
theorem dX10_readStation_0 : decode cX10_readStation 0 = .ok (.aload_n 0, 1) := by decide +kernel
theorem dX10_readStation_1 : decode cX10_readStation 1 = .ok (.aload_n 0, 1) := by decide +kernel
theorem dX10_readStation_2 : decode cX10_readStation 2 = .ok (.getfield 13, 3) := by decide +kernel
theorem dX10_readStation_5 : decode cX10_readStation 5 = .ok (.iconst 1, 1) := by decide +kernel
theorem dX10_readStation_6 : decode cX10_readStation 6 = .ok (.iaload, 1) := by decide +kernel
theorem dX10_readStation_7 : decode cX10_readStation 7 = .ok (.bipush 8, 2) := by decide +kernel
theorem dX10_readStation_9 : decode cX10_readStation 9 = .ok (.if_icmp .ge 7, 3) := by decide +kernel
theorem dX10_readStation_12 : decode cX10_readStation 12 = .ok (.iconst 1, 1) := by decide +kernel
theorem dX10_readStation_13 : decode cX10_readStation 13 = .ok (.goto 4, 3) := by decide +kernel
theorem dX10_readStation_16 : decode cX10_readStation 16 = .ok (.iconst 0, 1) := by decide +kernel
theorem dX10_readStation_17 : decode cX10_readStation 17 = .ok (.bipush 6, 2) := by decide +kernel
theorem dX10_readStation_19 : decode cX10_readStation 19 = .ok (.invokevirtual 201, 3) := by decide +kernel
theorem dX10_readStation_22 : decode cX10_readStation 22 = .ok (.pop, 1) := by decide +kernel
theorem dX10_readStation_23 : decode cX10_readStation 23 = .ok (.aload_n 0, 1) := by decide +kernel
theorem dX10_readStation_24 : decode cX10_readStation 24 = .ok (.invokevirtual 204, 3) := by decide +kernel
theorem dX10_readStation_27 : decode cX10_readStation 27 = .ok (.aload_n 0, 1) := by decide +kernel
theorem dX10_readStation_28 : decode cX10_readStation 28 = .ok (.aload_n 0, 1) := by decide +kernel
theorem dX10_readStation_29 : decode cX10_readStation 29 = .ok (.getfield 194, 3) := by decide +kernel
theorem dX10_readStation_32 : decode cX10_readStation 32 = .ok (.iconst 3, 1) := by decide +kernel
theorem dX10_readStation_33 : decode cX10_readStation 33 = .ok (.if_icmp .ne 7, 3) := by decide +kernel
theorem dX10_readStation_36 : decode cX10_readStation 36 = .ok (.iconst 1, 1) := by decide +kernel
theorem dX10_readStation_37 : decode cX10_readStation 37 = .ok (.goto 4, 3) := by decide +kernel
theorem dX10_readStation_40 : decode cX10_readStation 40 = .ok (.iconst 0, 1) := by decide +kernel
theorem dX10_readStation_41 : decode cX10_readStation 41 = .ok (.iconst 1, 1) := by decide +kernel
theorem dX10_readStation_42 : decode cX10_readStation 42 = .ok (.invokevirtual 201, 3) := by decide +kernel
theorem dX10_readStation_45 : decode cX10_readStation 45 = .ok (.pop, 1) := by decide +kernel
theorem dX10_readStation_46 : decode cX10_readStation 46 = .ok (.aload_n 0, 1) := by decide +kernel
theorem dX10_readStation_47 : decode cX10_readStation 47 = .ok (.aload_n 0, 1) := by decide +kernel
theorem dX10_readStation_48 : decode cX10_readStation 48 = .ok (.getfield 188, 3) := by decide +kernel
theorem dX10_readStation_51 : decode cX10_readStation 51 = .ok (.iconst 4, 1) := by decide +kernel
theorem dX10_readStation_52 : decode cX10_readStation 52 = .ok (.if_icmp .gt 7, 3) := by decide +kernel
theorem dX10_readStation_55 : decode cX10_readStation 55 = .ok (.iconst 1, 1) := by decide +kernel
theorem dX10_readStation_56 : decode cX10_readStation 56 = .ok (.goto 4, 3) := by decide +kernel
theorem dX10_readStation_59 : decode cX10_readStation 59 = .ok (.iconst 0, 1) := by decide +kernel
theorem dX10_readStation_60 : decode cX10_readStation 60 = .ok (.iconst 2, 1) := by decide +kernel
theorem dX10_readStation_61 : decode cX10_readStation 61 = .ok (.invokevirtual 201, 3) := by decide +kernel
theorem dX10_readStation_64 : decode cX10_readStation 64 = .ok (.pop, 1) := by decide +kernel
theorem dX10_readStation_65 : decode cX10_readStation 65 = .ok (.aload_n 0, 1) := by decide +kernel
theorem dX10_readStation_66 : decode cX10_readStation 66 = .ok (.aload_n 0, 1) := by decide +kernel
theorem dX10_readStation_67 : decode cX10_readStation 67 = .ok (.getfield 176, 3) := by decide +kernel
theorem dX10_readStation_70 : decode cX10_readStation 70 = .ok (.ifCond .ne 11, 3) := by decide +kernel
theorem dX10_readStation_73 : decode cX10_readStation 73 = .ok (.aload_n 0, 1) := by decide +kernel
theorem dX10_readStation_74 : decode cX10_readStation 74 = .ok (.invokevirtual 210, 3) := by decide +kernel
theorem dX10_readStation_77 : decode cX10_readStation 77 = .ok (.iconst (-1), 1) := by decide +kernel
theorem dX10_readStation_78 : decode cX10_readStation 78 = .ok (.if_icmp .ne 7, 3) := by decide +kernel
theorem dX10_readStation_81 : decode cX10_readStation 81 = .ok (.iconst 1, 1) := by decide +kernel
theorem dX10_readStation_82 : decode cX10_readStation 82 = .ok (.goto 4, 3) := by decide +kernel
theorem dX10_readStation_85 : decode cX10_readStation 85 = .ok (.iconst 0, 1) := by decide +kernel
theorem dX10_readStation_86 : decode cX10_readStation 86 = .ok (.iconst 3, 1) := by decide +kernel
theorem dX10_readStation_87 : decode cX10_readStation 87 = .ok (.invokevirtual 201, 3) := by decide +kernel
theorem dX10_readStation_90 : decode cX10_readStation 90 = .ok (.pop, 1) := by decide +kernel
theorem dX10_readStation_91 : decode cX10_readStation 91 = .ok (.aload_n 0, 1) := by decide +kernel
theorem dX10_readStation_92 : decode cX10_readStation 92 = .ok (.getfield 176, 3) := by decide +kernel
theorem dX10_readStation_95 : decode cX10_readStation 95 = .ok (.ifCond .ne 10, 3) := by decide +kernel
theorem dX10_readStation_98 : decode cX10_readStation 98 = .ok (.aload_n 0, 1) := by decide +kernel
theorem dX10_readStation_99 : decode cX10_readStation 99 = .ok (.invokevirtual 207, 3) := by decide +kernel
theorem dX10_readStation_102 : decode cX10_readStation 102 = .ok (.goto 4, 3) := by decide +kernel
theorem dX10_readStation_105 : decode cX10_readStation 105 = .ok (.iconst 0, 1) := by decide +kernel
theorem dX10_readStation_106 : decode cX10_readStation 106 = .ok (.istore_n 2, 1) := by decide +kernel
theorem dX10_readStation_107 : decode cX10_readStation 107 = .ok (.aload_n 0, 1) := by decide +kernel
theorem dX10_readStation_108 : decode cX10_readStation 108 = .ok (.invokevirtual 204, 3) := by decide +kernel
theorem dX10_readStation_111 : decode cX10_readStation 111 = .ok (.aload_n 0, 1) := by decide +kernel
theorem dX10_readStation_112 : decode cX10_readStation 112 = .ok (.invokevirtual 216, 3) := by decide +kernel
theorem dX10_readStation_115 : decode cX10_readStation 115 = .ok (.aload_n 0, 1) := by decide +kernel
theorem dX10_readStation_116 : decode cX10_readStation 116 = .ok (.getfield 176, 3) := by decide +kernel
theorem dX10_readStation_119 : decode cX10_readStation 119 = .ok (.ifCond .ne 41, 3) := by decide +kernel
theorem dX10_readStation_122 : decode cX10_readStation 122 = .ok (.aload_n 0, 1) := by decide +kernel
theorem dX10_readStation_123 : decode cX10_readStation 123 = .ok (.getfield 13, 3) := by decide +kernel
theorem dX10_readStation_126 : decode cX10_readStation 126 = .ok (.iconst 1, 1) := by decide +kernel
theorem dX10_readStation_127 : decode cX10_readStation 127 = .ok (.iaload, 1) := by decide +kernel
theorem dX10_readStation_128 : decode cX10_readStation 128 = .ok (.invokestatic 134, 3) := by decide +kernel
theorem dX10_readStation_131 : decode cX10_readStation 131 = .ok (.istore_n 3, 1) := by decide +kernel
theorem dX10_readStation_132 : decode cX10_readStation 132 = .ok (.aload_n 0, 1) := by decide +kernel
theorem dX10_readStation_133 : decode cX10_readStation 133 = .ok (.getfield 13, 3) := by decide +kernel
theorem dX10_readStation_136 : decode cX10_readStation 136 = .ok (.iload_n 3, 1) := by decide +kernel
theorem dX10_readStation_137 : decode cX10_readStation 137 = .ok (.iconst 0, 1) := by decide +kernel
theorem dX10_readStation_138 : decode cX10_readStation 138 = .ok (.iadd, 1) := by decide +kernel
theorem dX10_readStation_139 : decode cX10_readStation 139 = .ok (.iload_n 2, 1) := by decide +kernel
theorem dX10_readStation_140 : decode cX10_readStation 140 = .ok (.iastore, 1) := by decide +kernel
theorem dX10_readStation_141 : decode cX10_readStation 141 = .ok (.aload_n 0, 1) := by decide +kernel
theorem dX10_readStation_142 : decode cX10_readStation 142 = .ok (.getfield 13, 3) := by decide +kernel
theorem dX10_readStation_145 : decode cX10_readStation 145 = .ok (.iload_n 3, 1) := by decide +kernel
theorem dX10_readStation_146 : decode cX10_readStation 146 = .ok (.iconst 1, 1) := by decide +kernel
theorem dX10_readStation_147 : decode cX10_readStation 147 = .ok (.iadd, 1) := by decide +kernel
theorem dX10_readStation_148 : decode cX10_readStation 148 = .ok (.iload_n 1, 1) := by decide +kernel
theorem dX10_readStation_149 : decode cX10_readStation 149 = .ok (.iastore, 1) := by decide +kernel
theorem dX10_readStation_150 : decode cX10_readStation 150 = .ok (.aload_n 0, 1) := by decide +kernel
theorem dX10_readStation_151 : decode cX10_readStation 151 = .ok (.getfield 13, 3) := by decide +kernel
theorem dX10_readStation_154 : decode cX10_readStation 154 = .ok (.iconst 1, 1) := by decide +kernel
theorem dX10_readStation_155 : decode cX10_readStation 155 = .ok (.dup2, 1) := by decide +kernel
theorem dX10_readStation_156 : decode cX10_readStation 156 = .ok (.iaload, 1) := by decide +kernel
theorem dX10_readStation_157 : decode cX10_readStation 157 = .ok (.iconst 1, 1) := by decide +kernel
theorem dX10_readStation_158 : decode cX10_readStation 158 = .ok (.iadd, 1) := by decide +kernel
theorem dX10_readStation_159 : decode cX10_readStation 159 = .ok (.iastore, 1) := by decide +kernel
theorem dX10_readStation_160 : decode cX10_readStation 160 = .ok (.return_, 1) := by decide +kernel
theorem dX10_readTrack_0 : decode cX10_readTrack 0 = .ok (.aload_n 0, 1) := by decide +kernel
theorem dX10_readTrack_1 : decode cX10_readTrack 1 = .ok (.aload_n 0, 1) := by decide +kernel
theorem dX10_readTrack_2 : decode cX10_readTrack 2 = .ok (.getfield 13, 3) := by decide +kernel
theorem dX10_readTrack_5 : decode cX10_readTrack 5 = .ok (.iconst 2, 1) := by decide +kernel
theorem dX10_readTrack_6 : decode cX10_readTrack 6 = .ok (.iaload, 1) := by decide +kernel
theorem dX10_readTrack_7 : decode cX10_readTrack 7 = .ok (.bipush 12, 2) := by decide +kernel
theorem dX10_readTrack_9 : decode cX10_readTrack 9 = .ok (.if_icmp .ge 7, 3) := by decide +kernel
theorem dX10_readTrack_12 : decode cX10_readTrack 12 = .ok (.iconst 1, 1) := by decide +kernel
theorem dX10_readTrack_13 : decode cX10_readTrack 13 = .ok (.goto 4, 3) := by decide +kernel
theorem dX10_readTrack_16 : decode cX10_readTrack 16 = .ok (.iconst 0, 1) := by decide +kernel
theorem dX10_readTrack_17 : decode cX10_readTrack 17 = .ok (.bipush 6, 2) := by decide +kernel
theorem dX10_readTrack_19 : decode cX10_readTrack 19 = .ok (.invokevirtual 201, 3) := by decide +kernel
theorem dX10_readTrack_22 : decode cX10_readTrack 22 = .ok (.pop, 1) := by decide +kernel
theorem dX10_readTrack_23 : decode cX10_readTrack 23 = .ok (.aload_n 0, 1) := by decide +kernel
theorem dX10_readTrack_24 : decode cX10_readTrack 24 = .ok (.invokevirtual 204, 3) := by decide +kernel
theorem dX10_readTrack_27 : decode cX10_readTrack 27 = .ok (.aload_n 0, 1) := by decide +kernel
theorem dX10_readTrack_28 : decode cX10_readTrack 28 = .ok (.invokevirtual 219, 3) := by decide +kernel
theorem dX10_readTrack_31 : decode cX10_readTrack 31 = .ok (.istore_n 1, 1) := by decide +kernel
theorem dX10_readTrack_32 : decode cX10_readTrack 32 = .ok (.aload_n 0, 1) := by decide +kernel
theorem dX10_readTrack_33 : decode cX10_readTrack 33 = .ok (.invokevirtual 213, 3) := by decide +kernel
theorem dX10_readTrack_36 : decode cX10_readTrack 36 = .ok (.istore_n 2, 1) := by decide +kernel
theorem dX10_readTrack_37 : decode cX10_readTrack 37 = .ok (.aload_n 0, 1) := by decide +kernel
theorem dX10_readTrack_38 : decode cX10_readTrack 38 = .ok (.aload_n 0, 1) := by decide +kernel
theorem dX10_readTrack_39 : decode cX10_readTrack 39 = .ok (.getfield 176, 3) := by decide +kernel
theorem dX10_readTrack_42 : decode cX10_readTrack 42 = .ok (.ifCond .ne 21, 3) := by decide +kernel
theorem dX10_readTrack_45 : decode cX10_readTrack 45 = .ok (.iload_n 1, 1) := by decide +kernel
theorem dX10_readTrack_46 : decode cX10_readTrack 46 = .ok (.iload_n 2, 1) := by decide +kernel
theorem dX10_readTrack_47 : decode cX10_readTrack 47 = .ok (.if_icmp .eq 20, 3) := by decide +kernel
theorem dX10_readTrack_50 : decode cX10_readTrack 50 = .ok (.aload_n 0, 1) := by decide +kernel
theorem dX10_readTrack_51 : decode cX10_readTrack 51 = .ok (.getfield 13, 3) := by decide +kernel
theorem dX10_readTrack_54 : decode cX10_readTrack 54 = .ok (.iload_n 1, 1) := by decide +kernel
theorem dX10_readTrack_55 : decode cX10_readTrack 55 = .ok (.iload_n 2, 1) := by decide +kernel
theorem dX10_readTrack_56 : decode cX10_readTrack 56 = .ok (.invokestatic 128, 3) := by decide +kernel
theorem dX10_readTrack_59 : decode cX10_readTrack 59 = .ok (.iconst (-1), 1) := by decide +kernel
theorem dX10_readTrack_60 : decode cX10_readTrack 60 = .ok (.if_icmp .ne 7, 3) := by decide +kernel
theorem dX10_readTrack_63 : decode cX10_readTrack 63 = .ok (.iconst 1, 1) := by decide +kernel
theorem dX10_readTrack_64 : decode cX10_readTrack 64 = .ok (.goto 4, 3) := by decide +kernel
theorem dX10_readTrack_67 : decode cX10_readTrack 67 = .ok (.iconst 0, 1) := by decide +kernel
theorem dX10_readTrack_68 : decode cX10_readTrack 68 = .ok (.iconst 5, 1) := by decide +kernel
theorem dX10_readTrack_69 : decode cX10_readTrack 69 = .ok (.invokevirtual 201, 3) := by decide +kernel
theorem dX10_readTrack_72 : decode cX10_readTrack 72 = .ok (.pop, 1) := by decide +kernel
theorem dX10_readTrack_73 : decode cX10_readTrack 73 = .ok (.aload_n 0, 1) := by decide +kernel
theorem dX10_readTrack_74 : decode cX10_readTrack 74 = .ok (.invokevirtual 204, 3) := by decide +kernel
theorem dX10_readTrack_77 : decode cX10_readTrack 77 = .ok (.aload_n 0, 1) := by decide +kernel
theorem dX10_readTrack_78 : decode cX10_readTrack 78 = .ok (.iconst 1, 1) := by decide +kernel
theorem dX10_readTrack_79 : decode cX10_readTrack 79 = .ok (.bipush 9, 2) := by decide +kernel
theorem dX10_readTrack_81 : decode cX10_readTrack 81 = .ok (.invokevirtual 222, 3) := by decide +kernel
theorem dX10_readTrack_84 : decode cX10_readTrack 84 = .ok (.istore_n 3, 1) := by decide +kernel
theorem dX10_readTrack_85 : decode cX10_readTrack 85 = .ok (.aload_n 0, 1) := by decide +kernel
theorem dX10_readTrack_86 : decode cX10_readTrack 86 = .ok (.invokevirtual 216, 3) := by decide +kernel
theorem dX10_readTrack_89 : decode cX10_readTrack 89 = .ok (.aload_n 0, 1) := by decide +kernel
theorem dX10_readTrack_90 : decode cX10_readTrack 90 = .ok (.getfield 176, 3) := by decide +kernel
theorem dX10_readTrack_93 : decode cX10_readTrack 93 = .ok (.ifCond .ne 64, 3) := by decide +kernel
theorem dX10_readTrack_96 : decode cX10_readTrack 96 = .ok (.aload_n 0, 1) := by decide +kernel
theorem dX10_readTrack_97 : decode cX10_readTrack 97 = .ok (.getfield 13, 3) := by decide +kernel
theorem dX10_readTrack_100 : decode cX10_readTrack 100 = .ok (.iconst 2, 1) := by decide +kernel
theorem dX10_readTrack_101 : decode cX10_readTrack 101 = .ok (.iaload, 1) := by decide +kernel
theorem dX10_readTrack_102 : decode cX10_readTrack 102 = .ok (.invokestatic 72, 3) := by decide +kernel
theorem dX10_readTrack_105 : decode cX10_readTrack 105 = .ok (.istore 4, 2) := by decide +kernel
theorem dX10_readTrack_107 : decode cX10_readTrack 107 = .ok (.aload_n 0, 1) := by decide +kernel
theorem dX10_readTrack_108 : decode cX10_readTrack 108 = .ok (.getfield 13, 3) := by decide +kernel
theorem dX10_readTrack_111 : decode cX10_readTrack 111 = .ok (.iload 4, 2) := by decide +kernel
theorem dX10_readTrack_113 : decode cX10_readTrack 113 = .ok (.iconst 0, 1) := by decide +kernel
theorem dX10_readTrack_114 : decode cX10_readTrack 114 = .ok (.iadd, 1) := by decide +kernel
theorem dX10_readTrack_115 : decode cX10_readTrack 115 = .ok (.iload_n 1, 1) := by decide +kernel
theorem dX10_readTrack_116 : decode cX10_readTrack 116 = .ok (.iastore, 1) := by decide +kernel
theorem dX10_readTrack_117 : decode cX10_readTrack 117 = .ok (.aload_n 0, 1) := by decide +kernel
theorem dX10_readTrack_118 : decode cX10_readTrack 118 = .ok (.getfield 13, 3) := by decide +kernel
theorem dX10_readTrack_121 : decode cX10_readTrack 121 = .ok (.iload 4, 2) := by decide +kernel
theorem dX10_readTrack_123 : decode cX10_readTrack 123 = .ok (.iconst 1, 1) := by decide +kernel
theorem dX10_readTrack_124 : decode cX10_readTrack 124 = .ok (.iadd, 1) := by decide +kernel
theorem dX10_readTrack_125 : decode cX10_readTrack 125 = .ok (.iload_n 2, 1) := by decide +kernel
theorem dX10_readTrack_126 : decode cX10_readTrack 126 = .ok (.iastore, 1) := by decide +kernel
theorem dX10_readTrack_127 : decode cX10_readTrack 127 = .ok (.aload_n 0, 1) := by decide +kernel
theorem dX10_readTrack_128 : decode cX10_readTrack 128 = .ok (.getfield 13, 3) := by decide +kernel
theorem dX10_readTrack_131 : decode cX10_readTrack 131 = .ok (.iload 4, 2) := by decide +kernel
theorem dX10_readTrack_133 : decode cX10_readTrack 133 = .ok (.iconst 2, 1) := by decide +kernel
theorem dX10_readTrack_134 : decode cX10_readTrack 134 = .ok (.iadd, 1) := by decide +kernel
theorem dX10_readTrack_135 : decode cX10_readTrack 135 = .ok (.iload_n 3, 1) := by decide +kernel
theorem dX10_readTrack_136 : decode cX10_readTrack 136 = .ok (.iastore, 1) := by decide +kernel
theorem dX10_readTrack_137 : decode cX10_readTrack 137 = .ok (.aload_n 0, 1) := by decide +kernel
theorem dX10_readTrack_138 : decode cX10_readTrack 138 = .ok (.getfield 13, 3) := by decide +kernel
theorem dX10_readTrack_141 : decode cX10_readTrack 141 = .ok (.iload 4, 2) := by decide +kernel
theorem dX10_readTrack_143 : decode cX10_readTrack 143 = .ok (.iconst 3, 1) := by decide +kernel
theorem dX10_readTrack_144 : decode cX10_readTrack 144 = .ok (.iadd, 1) := by decide +kernel
theorem dX10_readTrack_145 : decode cX10_readTrack 145 = .ok (.iconst 1, 1) := by decide +kernel
theorem dX10_readTrack_146 : decode cX10_readTrack 146 = .ok (.iastore, 1) := by decide +kernel
theorem dX10_readTrack_147 : decode cX10_readTrack 147 = .ok (.aload_n 0, 1) := by decide +kernel
theorem dX10_readTrack_148 : decode cX10_readTrack 148 = .ok (.getfield 13, 3) := by decide +kernel
theorem dX10_readTrack_151 : decode cX10_readTrack 151 = .ok (.iconst 2, 1) := by decide +kernel
theorem dX10_readTrack_152 : decode cX10_readTrack 152 = .ok (.dup2, 1) := by decide +kernel
theorem dX10_readTrack_153 : decode cX10_readTrack 153 = .ok (.iaload, 1) := by decide +kernel
theorem dX10_readTrack_154 : decode cX10_readTrack 154 = .ok (.iconst 1, 1) := by decide +kernel
theorem dX10_readTrack_155 : decode cX10_readTrack 155 = .ok (.iadd, 1) := by decide +kernel
theorem dX10_readTrack_156 : decode cX10_readTrack 156 = .ok (.iastore, 1) := by decide +kernel
theorem dX10_readTrack_157 : decode cX10_readTrack 157 = .ok (.return_, 1) := by decide +kernel
theorem dX10_readTrain_0 : decode cX10_readTrain 0 = .ok (.aload_n 0, 1) := by decide +kernel
theorem dX10_readTrain_1 : decode cX10_readTrain 1 = .ok (.aload_n 0, 1) := by decide +kernel
theorem dX10_readTrain_2 : decode cX10_readTrain 2 = .ok (.getfield 13, 3) := by decide +kernel
theorem dX10_readTrain_5 : decode cX10_readTrain 5 = .ok (.iconst 3, 1) := by decide +kernel
theorem dX10_readTrain_6 : decode cX10_readTrain 6 = .ok (.iaload, 1) := by decide +kernel
theorem dX10_readTrain_7 : decode cX10_readTrain 7 = .ok (.iconst 4, 1) := by decide +kernel
theorem dX10_readTrain_8 : decode cX10_readTrain 8 = .ok (.if_icmp .ge 7, 3) := by decide +kernel
theorem dX10_readTrain_11 : decode cX10_readTrain 11 = .ok (.iconst 1, 1) := by decide +kernel
theorem dX10_readTrain_12 : decode cX10_readTrain 12 = .ok (.goto 4, 3) := by decide +kernel
theorem dX10_readTrain_15 : decode cX10_readTrain 15 = .ok (.iconst 0, 1) := by decide +kernel
theorem dX10_readTrain_16 : decode cX10_readTrain 16 = .ok (.bipush 6, 2) := by decide +kernel
theorem dX10_readTrain_18 : decode cX10_readTrain 18 = .ok (.invokevirtual 201, 3) := by decide +kernel
theorem dX10_readTrain_21 : decode cX10_readTrain 21 = .ok (.pop, 1) := by decide +kernel
theorem dX10_readTrain_22 : decode cX10_readTrain 22 = .ok (.aload_n 0, 1) := by decide +kernel
theorem dX10_readTrain_23 : decode cX10_readTrain 23 = .ok (.invokevirtual 204, 3) := by decide +kernel
theorem dX10_readTrain_26 : decode cX10_readTrain 26 = .ok (.aload_n 0, 1) := by decide +kernel
theorem dX10_readTrain_27 : decode cX10_readTrain 27 = .ok (.getfield 13, 3) := by decide +kernel
theorem dX10_readTrain_30 : decode cX10_readTrain 30 = .ok (.iconst 3, 1) := by decide +kernel
theorem dX10_readTrain_31 : decode cX10_readTrain 31 = .ok (.iaload, 1) := by decide +kernel
theorem dX10_readTrain_32 : decode cX10_readTrain 32 = .ok (.iconst 4, 1) := by decide +kernel
theorem dX10_readTrain_33 : decode cX10_readTrain 33 = .ok (.if_icmp .ge 12, 3) := by decide +kernel
theorem dX10_readTrain_36 : decode cX10_readTrain 36 = .ok (.aload_n 0, 1) := by decide +kernel
theorem dX10_readTrain_37 : decode cX10_readTrain 37 = .ok (.getfield 13, 3) := by decide +kernel
theorem dX10_readTrain_40 : decode cX10_readTrain 40 = .ok (.iconst 3, 1) := by decide +kernel
theorem dX10_readTrain_41 : decode cX10_readTrain 41 = .ok (.iaload, 1) := by decide +kernel
theorem dX10_readTrain_42 : decode cX10_readTrain 42 = .ok (.goto 4, 3) := by decide +kernel
theorem dX10_readTrain_45 : decode cX10_readTrain 45 = .ok (.iconst 0, 1) := by decide +kernel
theorem dX10_readTrain_46 : decode cX10_readTrain 46 = .ok (.invokestatic 81, 3) := by decide +kernel
theorem dX10_readTrain_49 : decode cX10_readTrain 49 = .ok (.istore_n 1, 1) := by decide +kernel
theorem dX10_readTrain_50 : decode cX10_readTrain 50 = .ok (.aload_n 0, 1) := by decide +kernel
theorem dX10_readTrain_51 : decode cX10_readTrain 51 = .ok (.iconst 1, 1) := by decide +kernel
theorem dX10_readTrain_52 : decode cX10_readTrain 52 = .ok (.iconst 4, 1) := by decide +kernel
theorem dX10_readTrain_53 : decode cX10_readTrain 53 = .ok (.invokevirtual 222, 3) := by decide +kernel
theorem dX10_readTrain_56 : decode cX10_readTrain 56 = .ok (.istore_n 2, 1) := by decide +kernel
theorem dX10_readTrain_57 : decode cX10_readTrain 57 = .ok (.iconst 0, 1) := by decide +kernel
theorem dX10_readTrain_58 : decode cX10_readTrain 58 = .ok (.istore_n 3, 1) := by decide +kernel
theorem dX10_readTrain_59 : decode cX10_readTrain 59 = .ok (.aload_n 0, 1) := by decide +kernel
theorem dX10_readTrain_60 : decode cX10_readTrain 60 = .ok (.getfield 176, 3) := by decide +kernel
theorem dX10_readTrain_63 : decode cX10_readTrain 63 = .ok (.ifCond .ne 123, 3) := by decide +kernel
theorem dX10_readTrain_66 : decode cX10_readTrain 66 = .ok (.iload_n 3, 1) := by decide +kernel
theorem dX10_readTrain_67 : decode cX10_readTrain 67 = .ok (.iconst 2, 1) := by decide +kernel
theorem dX10_readTrain_68 : decode cX10_readTrain 68 = .ok (.if_icmp .lt 11, 3) := by decide +kernel
theorem dX10_readTrain_71 : decode cX10_readTrain 71 = .ok (.aload_n 0, 1) := by decide +kernel
theorem dX10_readTrain_72 : decode cX10_readTrain 72 = .ok (.getfield 194, 3) := by decide +kernel
theorem dX10_readTrain_75 : decode cX10_readTrain 75 = .ok (.iconst 3, 1) := by decide +kernel
theorem dX10_readTrain_76 : decode cX10_readTrain 76 = .ok (.if_icmp .ne 110, 3) := by decide +kernel
theorem dX10_readTrain_79 : decode cX10_readTrain 79 = .ok (.aload_n 0, 1) := by decide +kernel
theorem dX10_readTrain_80 : decode cX10_readTrain 80 = .ok (.invokevirtual 213, 3) := by decide +kernel
theorem dX10_readTrain_83 : decode cX10_readTrain 83 = .ok (.istore 4, 2) := by decide +kernel
theorem dX10_readTrain_85 : decode cX10_readTrain 85 = .ok (.aload_n 0, 1) := by decide +kernel
theorem dX10_readTrain_86 : decode cX10_readTrain 86 = .ok (.aload_n 0, 1) := by decide +kernel
theorem dX10_readTrain_87 : decode cX10_readTrain 87 = .ok (.getfield 176, 3) := by decide +kernel
theorem dX10_readTrain_90 : decode cX10_readTrain 90 = .ok (.ifCond .ne 32, 3) := by decide +kernel
theorem dX10_readTrain_93 : decode cX10_readTrain 93 = .ok (.iload_n 3, 1) := by decide +kernel
theorem dX10_readTrain_94 : decode cX10_readTrain 94 = .ok (.ifCond .eq 28, 3) := by decide +kernel
theorem dX10_readTrain_97 : decode cX10_readTrain 97 = .ok (.aload_n 0, 1) := by decide +kernel
theorem dX10_readTrain_98 : decode cX10_readTrain 98 = .ok (.getfield 13, 3) := by decide +kernel
theorem dX10_readTrain_101 : decode cX10_readTrain 101 = .ok (.aload_n 0, 1) := by decide +kernel
theorem dX10_readTrain_102 : decode cX10_readTrain 102 = .ok (.getfield 13, 3) := by decide +kernel
theorem dX10_readTrain_105 : decode cX10_readTrain 105 = .ok (.iload_n 1, 1) := by decide +kernel
theorem dX10_readTrain_106 : decode cX10_readTrain 106 = .ok (.iconst 2, 1) := by decide +kernel
theorem dX10_readTrain_107 : decode cX10_readTrain 107 = .ok (.iadd, 1) := by decide +kernel
theorem dX10_readTrain_108 : decode cX10_readTrain 108 = .ok (.iload_n 3, 1) := by decide +kernel
theorem dX10_readTrain_109 : decode cX10_readTrain 109 = .ok (.iadd, 1) := by decide +kernel
theorem dX10_readTrain_110 : decode cX10_readTrain 110 = .ok (.iconst 1, 1) := by decide +kernel
theorem dX10_readTrain_111 : decode cX10_readTrain 111 = .ok (.isub, 1) := by decide +kernel
theorem dX10_readTrain_112 : decode cX10_readTrain 112 = .ok (.iaload, 1) := by decide +kernel
theorem dX10_readTrain_113 : decode cX10_readTrain 113 = .ok (.iload 4, 2) := by decide +kernel
theorem dX10_readTrain_115 : decode cX10_readTrain 115 = .ok (.invokestatic 128, 3) := by decide +kernel
theorem dX10_readTrain_118 : decode cX10_readTrain 118 = .ok (.iconst (-1), 1) := by decide +kernel
theorem dX10_readTrain_119 : decode cX10_readTrain 119 = .ok (.if_icmp .eq 7, 3) := by decide +kernel
theorem dX10_readTrain_122 : decode cX10_readTrain 122 = .ok (.iconst 1, 1) := by decide +kernel
theorem dX10_readTrain_123 : decode cX10_readTrain 123 = .ok (.goto 4, 3) := by decide +kernel
theorem dX10_readTrain_126 : decode cX10_readTrain 126 = .ok (.iconst 0, 1) := by decide +kernel
theorem dX10_readTrain_127 : decode cX10_readTrain 127 = .ok (.iconst 5, 1) := by decide +kernel
theorem dX10_readTrain_128 : decode cX10_readTrain 128 = .ok (.invokevirtual 201, 3) := by decide +kernel
theorem dX10_readTrain_131 : decode cX10_readTrain 131 = .ok (.pop, 1) := by decide +kernel
theorem dX10_readTrain_132 : decode cX10_readTrain 132 = .ok (.aload_n 0, 1) := by decide +kernel
theorem dX10_readTrain_133 : decode cX10_readTrain 133 = .ok (.aload_n 0, 1) := by decide +kernel
theorem dX10_readTrain_134 : decode cX10_readTrain 134 = .ok (.getfield 176, 3) := by decide +kernel
theorem dX10_readTrain_137 : decode cX10_readTrain 137 = .ok (.ifCond .ne 9, 3) := by decide +kernel
theorem dX10_readTrain_140 : decode cX10_readTrain 140 = .ok (.iload_n 3, 1) := by decide +kernel
theorem dX10_readTrain_141 : decode cX10_readTrain 141 = .ok (.bipush 6, 2) := by decide +kernel
theorem dX10_readTrain_143 : decode cX10_readTrain 143 = .ok (.if_icmp .ge 7, 3) := by decide +kernel
theorem dX10_readTrain_146 : decode cX10_readTrain 146 = .ok (.iconst 1, 1) := by decide +kernel
theorem dX10_readTrain_147 : decode cX10_readTrain 147 = .ok (.goto 4, 3) := by decide +kernel
theorem dX10_readTrain_150 : decode cX10_readTrain 150 = .ok (.iconst 0, 1) := by decide +kernel
theorem dX10_readTrain_151 : decode cX10_readTrain 151 = .ok (.bipush 6, 2) := by decide +kernel
theorem dX10_readTrain_153 : decode cX10_readTrain 153 = .ok (.invokevirtual 201, 3) := by decide +kernel
theorem dX10_readTrain_156 : decode cX10_readTrain 156 = .ok (.pop, 1) := by decide +kernel
theorem dX10_readTrain_157 : decode cX10_readTrain 157 = .ok (.aload_n 0, 1) := by decide +kernel
theorem dX10_readTrain_158 : decode cX10_readTrain 158 = .ok (.getfield 176, 3) := by decide +kernel
theorem dX10_readTrain_161 : decode cX10_readTrain 161 = .ok (.ifCond .ne 18, 3) := by decide +kernel
theorem dX10_readTrain_164 : decode cX10_readTrain 164 = .ok (.aload_n 0, 1) := by decide +kernel
theorem dX10_readTrain_165 : decode cX10_readTrain 165 = .ok (.getfield 13, 3) := by decide +kernel
theorem dX10_readTrain_168 : decode cX10_readTrain 168 = .ok (.iload_n 1, 1) := by decide +kernel
theorem dX10_readTrain_169 : decode cX10_readTrain 169 = .ok (.iconst 2, 1) := by decide +kernel
theorem dX10_readTrain_170 : decode cX10_readTrain 170 = .ok (.iadd, 1) := by decide +kernel
theorem dX10_readTrain_171 : decode cX10_readTrain 171 = .ok (.iload_n 3, 1) := by decide +kernel
theorem dX10_readTrain_172 : decode cX10_readTrain 172 = .ok (.iadd, 1) := by decide +kernel
theorem dX10_readTrain_173 : decode cX10_readTrain 173 = .ok (.iload 4, 2) := by decide +kernel
theorem dX10_readTrain_175 : decode cX10_readTrain 175 = .ok (.iastore, 1) := by decide +kernel
theorem dX10_readTrain_176 : decode cX10_readTrain 176 = .ok (.iinc 3 1, 3) := by decide +kernel
theorem dX10_readTrain_179 : decode cX10_readTrain 179 = .ok (.aload_n 0, 1) := by decide +kernel
theorem dX10_readTrain_180 : decode cX10_readTrain 180 = .ok (.invokevirtual 204, 3) := by decide +kernel
theorem dX10_readTrain_183 : decode cX10_readTrain 183 = .ok (.goto (-124), 3) := by decide +kernel
theorem dX10_readTrain_186 : decode cX10_readTrain 186 = .ok (.aload_n 0, 1) := by decide +kernel
theorem dX10_readTrain_187 : decode cX10_readTrain 187 = .ok (.invokevirtual 216, 3) := by decide +kernel
theorem dX10_readTrain_190 : decode cX10_readTrain 190 = .ok (.aload_n 0, 1) := by decide +kernel
theorem dX10_readTrain_191 : decode cX10_readTrain 191 = .ok (.getfield 176, 3) := by decide +kernel
theorem dX10_readTrain_194 : decode cX10_readTrain 194 = .ok (.ifCond .ne 51, 3) := by decide +kernel
theorem dX10_readTrain_197 : decode cX10_readTrain 197 = .ok (.aload_n 0, 1) := by decide +kernel
theorem dX10_readTrain_198 : decode cX10_readTrain 198 = .ok (.getfield 13, 3) := by decide +kernel
theorem dX10_readTrain_201 : decode cX10_readTrain 201 = .ok (.iload_n 1, 1) := by decide +kernel
theorem dX10_readTrain_202 : decode cX10_readTrain 202 = .ok (.iconst 0, 1) := by decide +kernel
theorem dX10_readTrain_203 : decode cX10_readTrain 203 = .ok (.iadd, 1) := by decide +kernel
theorem dX10_readTrain_204 : decode cX10_readTrain 204 = .ok (.iload_n 2, 1) := by decide +kernel
theorem dX10_readTrain_205 : decode cX10_readTrain 205 = .ok (.iastore, 1) := by decide +kernel
theorem dX10_readTrain_206 : decode cX10_readTrain 206 = .ok (.aload_n 0, 1) := by decide +kernel
theorem dX10_readTrain_207 : decode cX10_readTrain 207 = .ok (.getfield 13, 3) := by decide +kernel
theorem dX10_readTrain_210 : decode cX10_readTrain 210 = .ok (.iload_n 1, 1) := by decide +kernel
theorem dX10_readTrain_211 : decode cX10_readTrain 211 = .ok (.iconst 1, 1) := by decide +kernel
theorem dX10_readTrain_212 : decode cX10_readTrain 212 = .ok (.iadd, 1) := by decide +kernel
theorem dX10_readTrain_213 : decode cX10_readTrain 213 = .ok (.iload_n 3, 1) := by decide +kernel
theorem dX10_readTrain_214 : decode cX10_readTrain 214 = .ok (.iastore, 1) := by decide +kernel
theorem dX10_readTrain_215 : decode cX10_readTrain 215 = .ok (.aload_n 0, 1) := by decide +kernel
theorem dX10_readTrain_216 : decode cX10_readTrain 216 = .ok (.getfield 13, 3) := by decide +kernel
theorem dX10_readTrain_219 : decode cX10_readTrain 219 = .ok (.iload_n 1, 1) := by decide +kernel
theorem dX10_readTrain_220 : decode cX10_readTrain 220 = .ok (.bipush 9, 2) := by decide +kernel
theorem dX10_readTrain_222 : decode cX10_readTrain 222 = .ok (.iadd, 1) := by decide +kernel
theorem dX10_readTrain_223 : decode cX10_readTrain 223 = .ok (.iconst 1, 1) := by decide +kernel
theorem dX10_readTrain_224 : decode cX10_readTrain 224 = .ok (.iastore, 1) := by decide +kernel
theorem dX10_readTrain_225 : decode cX10_readTrain 225 = .ok (.aload_n 0, 1) := by decide +kernel
theorem dX10_readTrain_226 : decode cX10_readTrain 226 = .ok (.getfield 13, 3) := by decide +kernel
theorem dX10_readTrain_229 : decode cX10_readTrain 229 = .ok (.iload_n 1, 1) := by decide +kernel
theorem dX10_readTrain_230 : decode cX10_readTrain 230 = .ok (.bipush 10, 2) := by decide +kernel
theorem dX10_readTrain_232 : decode cX10_readTrain 232 = .ok (.iadd, 1) := by decide +kernel
theorem dX10_readTrain_233 : decode cX10_readTrain 233 = .ok (.iconst (-1), 1) := by decide +kernel
theorem dX10_readTrain_234 : decode cX10_readTrain 234 = .ok (.iastore, 1) := by decide +kernel
theorem dX10_readTrain_235 : decode cX10_readTrain 235 = .ok (.aload_n 0, 1) := by decide +kernel
theorem dX10_readTrain_236 : decode cX10_readTrain 236 = .ok (.getfield 13, 3) := by decide +kernel
theorem dX10_readTrain_239 : decode cX10_readTrain 239 = .ok (.iconst 3, 1) := by decide +kernel
theorem dX10_readTrain_240 : decode cX10_readTrain 240 = .ok (.dup2, 1) := by decide +kernel
theorem dX10_readTrain_241 : decode cX10_readTrain 241 = .ok (.iaload, 1) := by decide +kernel
theorem dX10_readTrain_242 : decode cX10_readTrain 242 = .ok (.iconst 1, 1) := by decide +kernel
theorem dX10_readTrain_243 : decode cX10_readTrain 243 = .ok (.iadd, 1) := by decide +kernel
theorem dX10_readTrain_244 : decode cX10_readTrain 244 = .ok (.iastore, 1) := by decide +kernel
theorem dX10_readTrain_245 : decode cX10_readTrain 245 = .ok (.return_, 1) := by decide +kernel
theorem dX10_readParcel_0 : decode cX10_readParcel 0 = .ok (.aload_n 0, 1) := by decide +kernel
theorem dX10_readParcel_1 : decode cX10_readParcel 1 = .ok (.aload_n 0, 1) := by decide +kernel
theorem dX10_readParcel_2 : decode cX10_readParcel 2 = .ok (.getfield 13, 3) := by decide +kernel
theorem dX10_readParcel_5 : decode cX10_readParcel 5 = .ok (.iconst 4, 1) := by decide +kernel
theorem dX10_readParcel_6 : decode cX10_readParcel 6 = .ok (.iaload, 1) := by decide +kernel
theorem dX10_readParcel_7 : decode cX10_readParcel 7 = .ok (.bipush 12, 2) := by decide +kernel
theorem dX10_readParcel_9 : decode cX10_readParcel 9 = .ok (.if_icmp .ge 7, 3) := by decide +kernel
theorem dX10_readParcel_12 : decode cX10_readParcel 12 = .ok (.iconst 1, 1) := by decide +kernel
theorem dX10_readParcel_13 : decode cX10_readParcel 13 = .ok (.goto 4, 3) := by decide +kernel
theorem dX10_readParcel_16 : decode cX10_readParcel 16 = .ok (.iconst 0, 1) := by decide +kernel
theorem dX10_readParcel_17 : decode cX10_readParcel 17 = .ok (.bipush 6, 2) := by decide +kernel
theorem dX10_readParcel_19 : decode cX10_readParcel 19 = .ok (.invokevirtual 201, 3) := by decide +kernel
theorem dX10_readParcel_22 : decode cX10_readParcel 22 = .ok (.pop, 1) := by decide +kernel
theorem dX10_readParcel_23 : decode cX10_readParcel 23 = .ok (.aload_n 0, 1) := by decide +kernel
theorem dX10_readParcel_24 : decode cX10_readParcel 24 = .ok (.invokevirtual 204, 3) := by decide +kernel
theorem dX10_readParcel_27 : decode cX10_readParcel 27 = .ok (.aload_n 0, 1) := by decide +kernel
theorem dX10_readParcel_28 : decode cX10_readParcel 28 = .ok (.invokevirtual 219, 3) := by decide +kernel
theorem dX10_readParcel_31 : decode cX10_readParcel 31 = .ok (.istore_n 1, 1) := by decide +kernel
theorem dX10_readParcel_32 : decode cX10_readParcel 32 = .ok (.aload_n 0, 1) := by decide +kernel
theorem dX10_readParcel_33 : decode cX10_readParcel 33 = .ok (.invokevirtual 213, 3) := by decide +kernel
theorem dX10_readParcel_36 : decode cX10_readParcel 36 = .ok (.istore_n 2, 1) := by decide +kernel
theorem dX10_readParcel_37 : decode cX10_readParcel 37 = .ok (.aload_n 0, 1) := by decide +kernel
theorem dX10_readParcel_38 : decode cX10_readParcel 38 = .ok (.aload_n 0, 1) := by decide +kernel
theorem dX10_readParcel_39 : decode cX10_readParcel 39 = .ok (.getfield 176, 3) := by decide +kernel
theorem dX10_readParcel_42 : decode cX10_readParcel 42 = .ok (.ifCond .ne 8, 3) := by decide +kernel
theorem dX10_readParcel_45 : decode cX10_readParcel 45 = .ok (.iload_n 1, 1) := by decide +kernel
theorem dX10_readParcel_46 : decode cX10_readParcel 46 = .ok (.iload_n 2, 1) := by decide +kernel
theorem dX10_readParcel_47 : decode cX10_readParcel 47 = .ok (.if_icmp .eq 7, 3) := by decide +kernel
theorem dX10_readParcel_50 : decode cX10_readParcel 50 = .ok (.iconst 1, 1) := by decide +kernel
theorem dX10_readParcel_51 : decode cX10_readParcel 51 = .ok (.goto 4, 3) := by decide +kernel
theorem dX10_readParcel_54 : decode cX10_readParcel 54 = .ok (.iconst 0, 1) := by decide +kernel
theorem dX10_readParcel_55 : decode cX10_readParcel 55 = .ok (.iconst 5, 1) := by decide +kernel
theorem dX10_readParcel_56 : decode cX10_readParcel 56 = .ok (.invokevirtual 201, 3) := by decide +kernel
theorem dX10_readParcel_59 : decode cX10_readParcel 59 = .ok (.pop, 1) := by decide +kernel
theorem dX10_readParcel_60 : decode cX10_readParcel 60 = .ok (.aload_n 0, 1) := by decide +kernel
theorem dX10_readParcel_61 : decode cX10_readParcel 61 = .ok (.invokevirtual 204, 3) := by decide +kernel
theorem dX10_readParcel_64 : decode cX10_readParcel 64 = .ok (.aload_n 0, 1) := by decide +kernel
theorem dX10_readParcel_65 : decode cX10_readParcel 65 = .ok (.iconst 1, 1) := by decide +kernel
theorem dX10_readParcel_66 : decode cX10_readParcel 66 = .ok (.bipush 9, 2) := by decide +kernel
theorem dX10_readParcel_68 : decode cX10_readParcel 68 = .ok (.invokevirtual 222, 3) := by decide +kernel
theorem dX10_readParcel_71 : decode cX10_readParcel 71 = .ok (.istore_n 3, 1) := by decide +kernel
theorem dX10_readParcel_72 : decode cX10_readParcel 72 = .ok (.aload_n 0, 1) := by decide +kernel
theorem dX10_readParcel_73 : decode cX10_readParcel 73 = .ok (.invokevirtual 216, 3) := by decide +kernel
theorem dX10_readParcel_76 : decode cX10_readParcel 76 = .ok (.aload_n 0, 1) := by decide +kernel
theorem dX10_readParcel_77 : decode cX10_readParcel 77 = .ok (.getfield 176, 3) := by decide +kernel
theorem dX10_readParcel_80 : decode cX10_readParcel 80 = .ok (.ifCond .ne 21, 3) := by decide +kernel
theorem dX10_readParcel_83 : decode cX10_readParcel 83 = .ok (.aload_n 0, 1) := by decide +kernel
theorem dX10_readParcel_84 : decode cX10_readParcel 84 = .ok (.getfield 13, 3) := by decide +kernel
theorem dX10_readParcel_87 : decode cX10_readParcel 87 = .ok (.iload_n 1, 1) := by decide +kernel
theorem dX10_readParcel_88 : decode cX10_readParcel 88 = .ok (.iload_n 2, 1) := by decide +kernel
