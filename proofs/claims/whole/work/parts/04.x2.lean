theorem dX4_arrive_42 : decode cX4_arrive 42 = .ok (.aload_n 0, 1) := by decide +kernel
theorem dX4_arrive_43 : decode cX4_arrive 43 = .ok (.aload_n 1, 1) := by decide +kernel
theorem dX4_arrive_44 : decode cX4_arrive 44 = .ok (.iload_n 2, 1) := by decide +kernel
theorem dX4_arrive_45 : decode cX4_arrive 45 = .ok (.invokevirtual 239, 3) := by decide +kernel
theorem dX4_arrive_48 : decode cX4_arrive 48 = .ok (.ifCond .ne 11, 3) := by decide +kernel
theorem dX4_arrive_51 : decode cX4_arrive 51 = .ok (.aload_n 0, 1) := by decide +kernel
theorem dX4_arrive_52 : decode cX4_arrive 52 = .ok (.aload_n 1, 1) := by decide +kernel
theorem dX4_arrive_53 : decode cX4_arrive 53 = .ok (.invokevirtual 222, 3) := by decide +kernel
theorem dX4_arrive_56 : decode cX4_arrive 56 = .ok (.ifnull 35, 3) := by decide +kernel
theorem dX4_arrive_59 : decode cX4_arrive 59 = .ok (.aload_n 1, 1) := by decide +kernel
theorem dX4_arrive_60 : decode cX4_arrive 60 = .ok (.dup, 1) := by decide +kernel
theorem dX4_arrive_61 : decode cX4_arrive 61 = .ok (.getfield 129, 3) := by decide +kernel
theorem dX4_arrive_64 : decode cX4_arrive 64 = .ok (.iconst 1, 1) := by decide +kernel
theorem dX4_arrive_65 : decode cX4_arrive 65 = .ok (.iadd, 1) := by decide +kernel
theorem dX4_arrive_66 : decode cX4_arrive 66 = .ok (.putfield 129, 3) := by decide +kernel
theorem dX4_arrive_69 : decode cX4_arrive 69 = .ok (.aload_n 0, 1) := by decide +kernel
theorem dX4_arrive_70 : decode cX4_arrive 70 = .ok (.getfield 11, 3) := by decide +kernel
theorem dX4_arrive_73 : decode cX4_arrive 73 = .ok (.iload_n 2, 1) := by decide +kernel
theorem dX4_arrive_74 : decode cX4_arrive 74 = .ok (.aaload, 1) := by decide +kernel
theorem dX4_arrive_75 : decode cX4_arrive 75 = .ok (.aload_n 0, 1) := by decide +kernel
theorem dX4_arrive_76 : decode cX4_arrive 76 = .ok (.getfield 71, 3) := by decide +kernel
theorem dX4_arrive_79 : decode cX4_arrive 79 = .ok (.putfield 93, 3) := by decide +kernel
theorem dX4_arrive_82 : decode cX4_arrive 82 = .ok (.aload_n 0, 1) := by decide +kernel
theorem dX4_arrive_83 : decode cX4_arrive 83 = .ok (.aload_n 1, 1) := by decide +kernel
theorem dX4_arrive_84 : decode cX4_arrive 84 = .ok (.iload_n 2, 1) := by decide +kernel
theorem dX4_arrive_85 : decode cX4_arrive 85 = .ok (.invokevirtual 243, 3) := by decide +kernel
theorem dX4_arrive_88 : decode cX4_arrive 88 = .ok (.goto 18, 3) := by decide +kernel
theorem dX4_arrive_91 : decode cX4_arrive 91 = .ok (.aload_n 1, 1) := by decide +kernel
theorem dX4_arrive_92 : decode cX4_arrive 92 = .ok (.dup, 1) := by decide +kernel
theorem dX4_arrive_93 : decode cX4_arrive 93 = .ok (.getfield 132, 3) := by decide +kernel
theorem dX4_arrive_96 : decode cX4_arrive 96 = .ok (.iconst 1, 1) := by decide +kernel
theorem dX4_arrive_97 : decode cX4_arrive 97 = .ok (.iadd, 1) := by decide +kernel
theorem dX4_arrive_98 : decode cX4_arrive 98 = .ok (.putfield 132, 3) := by decide +kernel
theorem dX4_arrive_101 : decode cX4_arrive 101 = .ok (.aload_n 0, 1) := by decide +kernel
theorem dX4_arrive_102 : decode cX4_arrive 102 = .ok (.aload_n 1, 1) := by decide +kernel
theorem dX4_arrive_103 : decode cX4_arrive 103 = .ok (.invokevirtual 216, 3) := by decide +kernel
theorem dX4_arrive_106 : decode cX4_arrive 106 = .ok (.return_, 1) := by decide +kernel
theorem dX4_isDropOf_0 : decode cX4_isDropOf 0 = .ok (.iconst 0, 1) := by decide +kernel
theorem dX4_isDropOf_1 : decode cX4_isDropOf 1 = .ok (.istore_n 3, 1) := by decide +kernel
theorem dX4_isDropOf_2 : decode cX4_isDropOf 2 = .ok (.iload_n 3, 1) := by decide +kernel
theorem dX4_isDropOf_3 : decode cX4_isDropOf 3 = .ok (.aload_n 0, 1) := by decide +kernel
theorem dX4_isDropOf_4 : decode cX4_isDropOf 4 = .ok (.getfield 68, 3) := by decide +kernel
theorem dX4_isDropOf_7 : decode cX4_isDropOf 7 = .ok (.if_icmp .ge 40, 3) := by decide +kernel
theorem dX4_isDropOf_10 : decode cX4_isDropOf 10 = .ok (.aload_n 0, 1) := by decide +kernel
theorem dX4_isDropOf_11 : decode cX4_isDropOf 11 = .ok (.getfield 31, 3) := by decide +kernel
theorem dX4_isDropOf_14 : decode cX4_isDropOf 14 = .ok (.iload_n 3, 1) := by decide +kernel
theorem dX4_isDropOf_15 : decode cX4_isDropOf 15 = .ok (.aaload, 1) := by decide +kernel
theorem dX4_isDropOf_16 : decode cX4_isDropOf 16 = .ok (.getfield 143, 3) := by decide +kernel
theorem dX4_isDropOf_19 : decode cX4_isDropOf 19 = .ok (.aload_n 1, 1) := by decide +kernel
theorem dX4_isDropOf_20 : decode cX4_isDropOf 20 = .ok (.getfield 189, 3) := by decide +kernel
theorem dX4_isDropOf_23 : decode cX4_isDropOf 23 = .ok (.if_icmp .ne 18, 3) := by decide +kernel
theorem dX4_isDropOf_26 : decode cX4_isDropOf 26 = .ok (.aload_n 0, 1) := by decide +kernel
theorem dX4_isDropOf_27 : decode cX4_isDropOf 27 = .ok (.getfield 31, 3) := by decide +kernel
theorem dX4_isDropOf_30 : decode cX4_isDropOf 30 = .ok (.iload_n 3, 1) := by decide +kernel
theorem dX4_isDropOf_31 : decode cX4_isDropOf 31 = .ok (.aaload, 1) := by decide +kernel
theorem dX4_isDropOf_32 : decode cX4_isDropOf 32 = .ok (.getfield 149, 3) := by decide +kernel
theorem dX4_isDropOf_35 : decode cX4_isDropOf 35 = .ok (.iload_n 2, 1) := by decide +kernel
theorem dX4_isDropOf_36 : decode cX4_isDropOf 36 = .ok (.if_icmp .ne 5, 3) := by decide +kernel
theorem dX4_isDropOf_39 : decode cX4_isDropOf 39 = .ok (.iconst 1, 1) := by decide +kernel
theorem dX4_isDropOf_40 : decode cX4_isDropOf 40 = .ok (.ireturn, 1) := by decide +kernel
theorem dX4_isDropOf_41 : decode cX4_isDropOf 41 = .ok (.iinc 3 1, 3) := by decide +kernel
theorem dX4_isDropOf_44 : decode cX4_isDropOf 44 = .ok (.goto (-42), 3) := by decide +kernel
theorem dX4_isDropOf_47 : decode cX4_isDropOf 47 = .ok (.iconst 0, 1) := by decide +kernel
theorem dX4_isDropOf_48 : decode cX4_isDropOf 48 = .ok (.ireturn, 1) := by decide +kernel
theorem dX4_unload_0 : decode cX4_unload 0 = .ok (.iload_n 2, 1) := by decide +kernel
theorem dX4_unload_1 : decode cX4_unload 1 = .ok (.ifCond .lt 11, 3) := by decide +kernel
theorem dX4_unload_4 : decode cX4_unload 4 = .ok (.iload_n 2, 1) := by decide +kernel
theorem dX4_unload_5 : decode cX4_unload 5 = .ok (.aload_n 0, 1) := by decide +kernel
theorem dX4_unload_6 : decode cX4_unload 6 = .ok (.getfield 58, 3) := by decide +kernel
theorem dX4_unload_9 : decode cX4_unload 9 = .ok (.if_icmp .lt 4, 3) := by decide +kernel
theorem dX4_unload_12 : decode cX4_unload 12 = .ok (.return_, 1) := by decide +kernel
theorem dX4_unload_13 : decode cX4_unload 13 = .ok (.aload_n 0, 1) := by decide +kernel
theorem dX4_unload_14 : decode cX4_unload 14 = .ok (.getfield 71, 3) := by decide +kernel
theorem dX4_unload_17 : decode cX4_unload 17 = .ok (.aload_n 0, 1) := by decide +kernel
theorem dX4_unload_18 : decode cX4_unload 18 = .ok (.getfield 11, 3) := by decide +kernel
theorem dX4_unload_21 : decode cX4_unload 21 = .ok (.iload_n 2, 1) := by decide +kernel
theorem dX4_unload_22 : decode cX4_unload 22 = .ok (.aaload, 1) := by decide +kernel
theorem dX4_unload_23 : decode cX4_unload 23 = .ok (.getfield 90, 3) := by decide +kernel
theorem dX4_unload_26 : decode cX4_unload 26 = .ok (.iadd, 1) := by decide +kernel
theorem dX4_unload_27 : decode cX4_unload 27 = .ok (.istore_n 3, 1) := by decide +kernel
theorem dX4_unload_28 : decode cX4_unload 28 = .ok (.iconst 0, 1) := by decide +kernel
theorem dX4_unload_29 : decode cX4_unload 29 = .ok (.istore 4, 2) := by decide +kernel
theorem dX4_unload_31 : decode cX4_unload 31 = .ok (.iload 4, 2) := by decide +kernel
theorem dX4_unload_33 : decode cX4_unload 33 = .ok (.aload_n 0, 1) := by decide +kernel
theorem dX4_unload_34 : decode cX4_unload 34 = .ok (.getfield 68, 3) := by decide +kernel
theorem dX4_unload_37 : decode cX4_unload 37 = .ok (.if_icmp .ge 80, 3) := by decide +kernel
theorem dX4_unload_40 : decode cX4_unload 40 = .ok (.aload_n 0, 1) := by decide +kernel
theorem dX4_unload_41 : decode cX4_unload 41 = .ok (.getfield 31, 3) := by decide +kernel
theorem dX4_unload_44 : decode cX4_unload 44 = .ok (.iload 4, 2) := by decide +kernel
theorem dX4_unload_46 : decode cX4_unload 46 = .ok (.aaload, 1) := by decide +kernel
theorem dX4_unload_47 : decode cX4_unload 47 = .ok (.astore 5, 2) := by decide +kernel
theorem dX4_unload_49 : decode cX4_unload 49 = .ok (.aload 5, 2) := by decide +kernel
theorem dX4_unload_51 : decode cX4_unload 51 = .ok (.getfield 143, 3) := by decide +kernel
theorem dX4_unload_54 : decode cX4_unload 54 = .ok (.aload_n 1, 1) := by decide +kernel
theorem dX4_unload_55 : decode cX4_unload 55 = .ok (.getfield 189, 3) := by decide +kernel
theorem dX4_unload_58 : decode cX4_unload 58 = .ok (.if_icmp .ne 53, 3) := by decide +kernel
theorem dX4_unload_61 : decode cX4_unload 61 = .ok (.aload 5, 2) := by decide +kernel
theorem dX4_unload_63 : decode cX4_unload 63 = .ok (.getfield 149, 3) := by decide +kernel
theorem dX4_unload_66 : decode cX4_unload 66 = .ok (.iload_n 2, 1) := by decide +kernel
theorem dX4_unload_67 : decode cX4_unload 67 = .ok (.if_icmp .eq 6, 3) := by decide +kernel
theorem dX4_unload_70 : decode cX4_unload 70 = .ok (.goto 41, 3) := by decide +kernel
theorem dX4_unload_73 : decode cX4_unload 73 = .ok (.aload_n 0, 1) := by decide +kernel
theorem dX4_unload_74 : decode cX4_unload 74 = .ok (.dup, 1) := by decide +kernel
theorem dX4_unload_75 : decode cX4_unload 75 = .ok (.getfield 77, 3) := by decide +kernel
theorem dX4_unload_78 : decode cX4_unload 78 = .ok (.iconst 1, 1) := by decide +kernel
theorem dX4_unload_79 : decode cX4_unload 79 = .ok (.iadd, 1) := by decide +kernel
theorem dX4_unload_80 : decode cX4_unload 80 = .ok (.putfield 77, 3) := by decide +kernel
theorem dX4_unload_83 : decode cX4_unload 83 = .ok (.aload 5, 2) := by decide +kernel
theorem dX4_unload_85 : decode cX4_unload 85 = .ok (.getfield 136, 3) := by decide +kernel
theorem dX4_unload_88 : decode cX4_unload 88 = .ok (.iload_n 2, 1) := by decide +kernel
theorem dX4_unload_89 : decode cX4_unload 89 = .ok (.if_icmp .ne 15, 3) := by decide +kernel
theorem dX4_unload_92 : decode cX4_unload 92 = .ok (.aload 5, 2) := by decide +kernel
theorem dX4_unload_94 : decode cX4_unload 94 = .ok (.aload_n 0, 1) := by decide +kernel
theorem dX4_unload_95 : decode cX4_unload 95 = .ok (.getfield 71, 3) := by decide +kernel
theorem dX4_unload_98 : decode cX4_unload 98 = .ok (.invokevirtual 247, 3) := by decide +kernel
theorem dX4_unload_101 : decode cX4_unload 101 = .ok (.goto 10, 3) := by decide +kernel
theorem dX4_unload_104 : decode cX4_unload 104 = .ok (.aload 5, 2) := by decide +kernel
theorem dX4_unload_106 : decode cX4_unload 106 = .ok (.iload_n 2, 1) := by decide +kernel
theorem dX4_unload_107 : decode cX4_unload 107 = .ok (.iload_n 3, 1) := by decide +kernel
theorem dX4_unload_108 : decode cX4_unload 108 = .ok (.invokevirtual 250, 3) := by decide +kernel
theorem dX4_unload_111 : decode cX4_unload 111 = .ok (.iinc 4 1, 3) := by decide +kernel
theorem dX4_unload_114 : decode cX4_unload 114 = .ok (.goto (-83), 3) := by decide +kernel
theorem dX4_unload_117 : decode cX4_unload 117 = .ok (.return_, 1) := by decide +kernel
theorem dX5_init_0 : decode cX5_init 0 = .ok (.aload_n 0, 1) := by decide +kernel
theorem dX5_init_1 : decode cX5_init 1 = .ok (.invokespecial 1, 3) := by decide +kernel
theorem dX5_init_4 : decode cX5_init 4 = .ok (.return_, 1) := by decide +kernel
theorem dX5_copyFrom_0 : decode cX5_copyFrom 0 = .ok (.aload_n 0, 1) := by decide +kernel
theorem dX5_copyFrom_1 : decode cX5_copyFrom 1 = .ok (.aload_n 1, 1) := by decide +kernel
theorem dX5_copyFrom_2 : decode cX5_copyFrom 2 = .ok (.getfield 7, 3) := by decide +kernel
theorem dX5_copyFrom_5 : decode cX5_copyFrom 5 = .ok (.putfield 7, 3) := by decide +kernel
theorem dX5_copyFrom_8 : decode cX5_copyFrom 8 = .ok (.aload_n 0, 1) := by decide +kernel
theorem dX5_copyFrom_9 : decode cX5_copyFrom 9 = .ok (.aload_n 1, 1) := by decide +kernel
theorem dX5_copyFrom_10 : decode cX5_copyFrom 10 = .ok (.getfield 13, 3) := by decide +kernel
theorem dX5_copyFrom_13 : decode cX5_copyFrom 13 = .ok (.putfield 13, 3) := by decide +kernel
theorem dX5_copyFrom_16 : decode cX5_copyFrom 16 = .ok (.aload_n 0, 1) := by decide +kernel
theorem dX5_copyFrom_17 : decode cX5_copyFrom 17 = .ok (.aload_n 1, 1) := by decide +kernel
theorem dX5_copyFrom_18 : decode cX5_copyFrom 18 = .ok (.getfield 17, 3) := by decide +kernel
theorem dX5_copyFrom_21 : decode cX5_copyFrom 21 = .ok (.putfield 17, 3) := by decide +kernel
theorem dX5_copyFrom_24 : decode cX5_copyFrom 24 = .ok (.aload_n 0, 1) := by decide +kernel
theorem dX5_copyFrom_25 : decode cX5_copyFrom 25 = .ok (.aload_n 1, 1) := by decide +kernel
theorem dX5_copyFrom_26 : decode cX5_copyFrom 26 = .ok (.getfield 20, 3) := by decide +kernel
theorem dX5_copyFrom_29 : decode cX5_copyFrom 29 = .ok (.putfield 20, 3) := by decide +kernel
theorem dX5_copyFrom_32 : decode cX5_copyFrom 32 = .ok (.return_, 1) := by decide +kernel
theorem dX6_init_0 : decode cX6_init 0 = .ok (.aload_n 0, 1) := by decide +kernel
theorem dX6_init_1 : decode cX6_init 1 = .ok (.invokespecial 3, 3) := by decide +kernel
theorem dX6_init_4 : decode cX6_init 4 = .ok (.aload_n 0, 1) := by decide +kernel
theorem dX6_init_5 : decode cX6_init 5 = .ok (.sipush 600, 3) := by decide +kernel
theorem dX6_init_8 : decode cX6_init 8 = .ok (.newarray .byte, 2) := by decide +kernel
theorem dX6_init_10 : decode cX6_init 10 = .ok (.putfield 9, 3) := by decide +kernel
theorem dX6_init_13 : decode cX6_init 13 = .ok (.return_, 1) := by decide +kernel
theorem dX6_appendByte_0 : decode cX6_appendByte 0 = .ok (.aload_n 0, 1) := by decide +kernel
theorem dX6_appendByte_1 : decode cX6_appendByte 1 = .ok (.getfield 15, 3) := by decide +kernel
theorem dX6_appendByte_4 : decode cX6_appendByte 4 = .ok (.ifCond .lt 36, 3) := by decide +kernel
theorem dX6_appendByte_7 : decode cX6_appendByte 7 = .ok (.aload_n 0, 1) := by decide +kernel
theorem dX6_appendByte_8 : decode cX6_appendByte 8 = .ok (.getfield 15, 3) := by decide +kernel
theorem dX6_appendByte_11 : decode cX6_appendByte 11 = .ok (.aload_n 0, 1) := by decide +kernel
theorem dX6_appendByte_12 : decode cX6_appendByte 12 = .ok (.getfield 9, 3) := by decide +kernel
theorem dX6_appendByte_15 : decode cX6_appendByte 15 = .ok (.arraylength, 1) := by decide +kernel
theorem dX6_appendByte_16 : decode cX6_appendByte 16 = .ok (.if_icmp .ge 24, 3) := by decide +kernel
theorem dX6_appendByte_19 : decode cX6_appendByte 19 = .ok (.aload_n 0, 1) := by decide +kernel
theorem dX6_appendByte_20 : decode cX6_appendByte 20 = .ok (.getfield 9, 3) := by decide +kernel
theorem dX6_appendByte_23 : decode cX6_appendByte 23 = .ok (.aload_n 0, 1) := by decide +kernel
theorem dX6_appendByte_24 : decode cX6_appendByte 24 = .ok (.getfield 15, 3) := by decide +kernel
theorem dX6_appendByte_27 : decode cX6_appendByte 27 = .ok (.iload_n 1, 1) := by decide +kernel
theorem dX6_appendByte_28 : decode cX6_appendByte 28 = .ok (.i2b, 1) := by decide +kernel
theorem dX6_appendByte_29 : decode cX6_appendByte 29 = .ok (.bastore, 1) := by decide +kernel
theorem dX6_appendByte_30 : decode cX6_appendByte 30 = .ok (.aload_n 0, 1) := by decide +kernel
theorem dX6_appendByte_31 : decode cX6_appendByte 31 = .ok (.dup, 1) := by decide +kernel
theorem dX6_appendByte_32 : decode cX6_appendByte 32 = .ok (.getfield 15, 3) := by decide +kernel
theorem dX6_appendByte_35 : decode cX6_appendByte 35 = .ok (.iconst 1, 1) := by decide +kernel
theorem dX6_appendByte_36 : decode cX6_appendByte 36 = .ok (.iadd, 1) := by decide +kernel
theorem dX6_appendByte_37 : decode cX6_appendByte 37 = .ok (.putfield 15, 3) := by decide +kernel
theorem dX6_appendByte_40 : decode cX6_appendByte 40 = .ok (.return_, 1) := by decide +kernel
theorem dX6_appendFourBytes_0 : decode cX6_appendFourBytes 0 = .ok (.aload_n 0, 1) := by decide +kernel
theorem dX6_appendFourBytes_1 : decode cX6_appendFourBytes 1 = .ok (.iload_n 1, 1) := by decide +kernel
theorem dX6_appendFourBytes_2 : decode cX6_appendFourBytes 2 = .ok (.bipush 24, 2) := by decide +kernel
theorem dX6_appendFourBytes_4 : decode cX6_appendFourBytes 4 = .ok (.iushr, 1) := by decide +kernel
theorem dX6_appendFourBytes_5 : decode cX6_appendFourBytes 5 = .ok (.invokevirtual 19, 3) := by decide +kernel
theorem dX6_appendFourBytes_8 : decode cX6_appendFourBytes 8 = .ok (.aload_n 0, 1) := by decide +kernel
theorem dX6_appendFourBytes_9 : decode cX6_appendFourBytes 9 = .ok (.iload_n 1, 1) := by decide +kernel
theorem dX6_appendFourBytes_10 : decode cX6_appendFourBytes 10 = .ok (.bipush 16, 2) := by decide +kernel
theorem dX6_appendFourBytes_12 : decode cX6_appendFourBytes 12 = .ok (.iushr, 1) := by decide +kernel
theorem dX6_appendFourBytes_13 : decode cX6_appendFourBytes 13 = .ok (.invokevirtual 19, 3) := by decide +kernel
theorem dX6_appendFourBytes_16 : decode cX6_appendFourBytes 16 = .ok (.aload_n 0, 1) := by decide +kernel
theorem dX6_appendFourBytes_17 : decode cX6_appendFourBytes 17 = .ok (.iload_n 1, 1) := by decide +kernel
theorem dX6_appendFourBytes_18 : decode cX6_appendFourBytes 18 = .ok (.bipush 8, 2) := by decide +kernel
theorem dX6_appendFourBytes_20 : decode cX6_appendFourBytes 20 = .ok (.iushr, 1) := by decide +kernel
theorem dX6_appendFourBytes_21 : decode cX6_appendFourBytes 21 = .ok (.invokevirtual 19, 3) := by decide +kernel
theorem dX6_appendFourBytes_24 : decode cX6_appendFourBytes 24 = .ok (.aload_n 0, 1) := by decide +kernel
theorem dX6_appendFourBytes_25 : decode cX6_appendFourBytes 25 = .ok (.iload_n 1, 1) := by decide +kernel
theorem dX6_appendFourBytes_26 : decode cX6_appendFourBytes 26 = .ok (.invokevirtual 19, 3) := by decide +kernel
theorem dX6_appendFourBytes_29 : decode cX6_appendFourBytes 29 = .ok (.return_, 1) := by decide +kernel
theorem dX6_appendText_0 : decode cX6_appendText 0 = .ok (.iconst 0, 1) := by decide +kernel
theorem dX6_appendText_1 : decode cX6_appendText 1 = .ok (.istore_n 2, 1) := by decide +kernel
theorem dX6_appendText_2 : decode cX6_appendText 2 = .ok (.iload_n 2, 1) := by decide +kernel
theorem dX6_appendText_3 : decode cX6_appendText 3 = .ok (.aload_n 1, 1) := by decide +kernel
theorem dX6_appendText_4 : decode cX6_appendText 4 = .ok (.invokevirtual 23, 3) := by decide +kernel
theorem dX6_appendText_7 : decode cX6_appendText 7 = .ok (.if_icmp .ge 18, 3) := by decide +kernel
theorem dX6_appendText_10 : decode cX6_appendText 10 = .ok (.aload_n 0, 1) := by decide +kernel
theorem dX6_appendText_11 : decode cX6_appendText 11 = .ok (.aload_n 1, 1) := by decide +kernel
theorem dX6_appendText_12 : decode cX6_appendText 12 = .ok (.iload_n 2, 1) := by decide +kernel
theorem dX6_appendText_13 : decode cX6_appendText 13 = .ok (.invokevirtual 28, 3) := by decide +kernel
theorem dX6_appendText_16 : decode cX6_appendText 16 = .ok (.invokevirtual 19, 3) := by decide +kernel
theorem dX6_appendText_19 : decode cX6_appendText 19 = .ok (.iinc 2 1, 3) := by decide +kernel
theorem dX6_appendText_22 : decode cX6_appendText 22 = .ok (.goto (-20), 3) := by decide +kernel
theorem dX6_appendText_25 : decode cX6_appendText 25 = .ok (.return_, 1) := by decide +kernel
theorem dX6_begin_0 : decode cX6_begin 0 = .ok (.aload_n 0, 1) := by decide +kernel
theorem dX6_begin_1 : decode cX6_begin 1 = .ok (.iconst 0, 1) := by decide +kernel
theorem dX6_begin_2 : decode cX6_begin 2 = .ok (.putfield 32, 3) := by decide +kernel
theorem dX6_begin_5 : decode cX6_begin 5 = .ok (.aload_n 0, 1) := by decide +kernel
theorem dX6_begin_6 : decode cX6_begin 6 = .ok (.invokevirtual 35, 3) := by decide +kernel
theorem dX6_begin_9 : decode cX6_begin 9 = .ok (.return_, 1) := by decide +kernel
theorem dX6_advance_0 : decode cX6_advance 0 = .ok (.aload_n 0, 1) := by decide +kernel
theorem dX6_advance_1 : decode cX6_advance 1 = .ok (.aload_n 0, 1) := by decide +kernel
theorem dX6_advance_2 : decode cX6_advance 2 = .ok (.getfield 32, 3) := by decide +kernel
theorem dX6_advance_5 : decode cX6_advance 5 = .ok (.putfield 38, 3) := by decide +kernel
theorem dX6_advance_8 : decode cX6_advance 8 = .ok (.aload_n 0, 1) := by decide +kernel
theorem dX6_advance_9 : decode cX6_advance 9 = .ok (.getfield 38, 3) := by decide +kernel
theorem dX6_advance_12 : decode cX6_advance 12 = .ok (.aload_n 0, 1) := by decide +kernel
theorem dX6_advance_13 : decode cX6_advance 13 = .ok (.getfield 15, 3) := by decide +kernel
theorem dX6_advance_16 : decode cX6_advance 16 = .ok (.if_icmp .ge 30, 3) := by decide +kernel
theorem dX6_advance_19 : decode cX6_advance 19 = .ok (.aload_n 0, 1) := by decide +kernel
theorem dX6_advance_20 : decode cX6_advance 20 = .ok (.aload_n 0, 1) := by decide +kernel
theorem dX6_advance_21 : decode cX6_advance 21 = .ok (.getfield 38, 3) := by decide +kernel
theorem dX6_advance_24 : decode cX6_advance 24 = .ok (.invokevirtual 41, 3) := by decide +kernel
theorem dX6_advance_27 : decode cX6_advance 27 = .ok (.invokestatic 45, 3) := by decide +kernel
theorem dX6_advance_30 : decode cX6_advance 30 = .ok (.ifCond .eq 16, 3) := by decide +kernel
theorem dX6_advance_33 : decode cX6_advance 33 = .ok (.aload_n 0, 1) := by decide +kernel
theorem dX6_advance_34 : decode cX6_advance 34 = .ok (.dup, 1) := by decide +kernel
theorem dX6_advance_35 : decode cX6_advance 35 = .ok (.getfield 38, 3) := by decide +kernel
theorem dX6_advance_38 : decode cX6_advance 38 = .ok (.iconst 1, 1) := by decide +kernel
theorem dX6_advance_39 : decode cX6_advance 39 = .ok (.iadd, 1) := by decide +kernel
theorem dX6_advance_40 : decode cX6_advance 40 = .ok (.putfield 38, 3) := by decide +kernel
theorem dX6_advance_43 : decode cX6_advance 43 = .ok (.goto (-35), 3) := by decide +kernel
theorem dX6_advance_46 : decode cX6_advance 46 = .ok (.aload_n 0, 1) := by decide +kernel
theorem dX6_advance_47 : decode cX6_advance 47 = .ok (.aload_n 0, 1) := by decide +kernel
theorem dX6_advance_48 : decode cX6_advance 48 = .ok (.getfield 38, 3) := by decide +kernel
theorem dX6_advance_51 : decode cX6_advance 51 = .ok (.invokevirtual 41, 3) := by decide +kernel
theorem dX6_advance_54 : decode cX6_advance 54 = .ok (.istore_n 1, 1) := by decide +kernel
theorem dX6_advance_55 : decode cX6_advance 55 = .ok (.aload_n 0, 1) := by decide +kernel
theorem dX6_advance_56 : decode cX6_advance 56 = .ok (.getfield 38, 3) := by decide +kernel
theorem dX6_advance_59 : decode cX6_advance 59 = .ok (.aload_n 0, 1) := by decide +kernel
theorem dX6_advance_60 : decode cX6_advance 60 = .ok (.getfield 15, 3) := by decide +kernel
theorem dX6_advance_63 : decode cX6_advance 63 = .ok (.if_icmp .lt 19, 3) := by decide +kernel
theorem dX6_advance_66 : decode cX6_advance 66 = .ok (.aload_n 0, 1) := by decide +kernel
theorem dX6_advance_67 : decode cX6_advance 67 = .ok (.iconst 0, 1) := by decide +kernel
theorem dX6_advance_68 : decode cX6_advance 68 = .ok (.putfield 49, 3) := by decide +kernel
theorem dX6_advance_71 : decode cX6_advance 71 = .ok (.aload_n 0, 1) := by decide +kernel
theorem dX6_advance_72 : decode cX6_advance 72 = .ok (.aload_n 0, 1) := by decide +kernel
theorem dX6_advance_73 : decode cX6_advance 73 = .ok (.getfield 15, 3) := by decide +kernel
theorem dX6_advance_76 : decode cX6_advance 76 = .ok (.putfield 32, 3) := by decide +kernel
theorem dX6_advance_79 : decode cX6_advance 79 = .ok (.goto 92, 3) := by decide +kernel
theorem dX6_advance_82 : decode cX6_advance 82 = .ok (.iload_n 1, 1) := by decide +kernel
theorem dX6_advance_83 : decode cX6_advance 83 = .ok (.bipush 97, 2) := by decide +kernel
theorem dX6_advance_85 : decode cX6_advance 85 = .ok (.if_icmp .lt 29, 3) := by decide +kernel
theorem dX6_advance_88 : decode cX6_advance 88 = .ok (.iload_n 1, 1) := by decide +kernel
theorem dX6_advance_89 : decode cX6_advance 89 = .ok (.bipush 122, 2) := by decide +kernel
theorem dX6_advance_91 : decode cX6_advance 91 = .ok (.if_icmp .gt 23, 3) := by decide +kernel
theorem dX6_advance_94 : decode cX6_advance 94 = .ok (.aload_n 0, 1) := by decide +kernel
theorem dX6_advance_95 : decode cX6_advance 95 = .ok (.iconst 1, 1) := by decide +kernel
theorem dX6_advance_96 : decode cX6_advance 96 = .ok (.putfield 49, 3) := by decide +kernel
theorem dX6_advance_99 : decode cX6_advance 99 = .ok (.aload_n 0, 1) := by decide +kernel
theorem dX6_advance_100 : decode cX6_advance 100 = .ok (.aload_n 0, 1) := by decide +kernel
theorem dX6_advance_101 : decode cX6_advance 101 = .ok (.bipush 97, 2) := by decide +kernel
theorem dX6_advance_103 : decode cX6_advance 103 = .ok (.bipush 122, 2) := by decide +kernel
theorem dX6_advance_105 : decode cX6_advance 105 = .ok (.invokevirtual 52, 3) := by decide +kernel
theorem dX6_advance_108 : decode cX6_advance 108 = .ok (.putfield 32, 3) := by decide +kernel
theorem dX6_advance_111 : decode cX6_advance 111 = .ok (.goto 60, 3) := by decide +kernel
theorem dX6_advance_114 : decode cX6_advance 114 = .ok (.iload_n 1, 1) := by decide +kernel
theorem dX6_advance_115 : decode cX6_advance 115 = .ok (.bipush 48, 2) := by decide +kernel
theorem dX6_advance_117 : decode cX6_advance 117 = .ok (.if_icmp .lt 29, 3) := by decide +kernel
theorem dX6_advance_120 : decode cX6_advance 120 = .ok (.iload_n 1, 1) := by decide +kernel
theorem dX6_advance_121 : decode cX6_advance 121 = .ok (.bipush 57, 2) := by decide +kernel
theorem dX6_advance_123 : decode cX6_advance 123 = .ok (.if_icmp .gt 23, 3) := by decide +kernel
theorem dX6_advance_126 : decode cX6_advance 126 = .ok (.aload_n 0, 1) := by decide +kernel
theorem dX6_advance_127 : decode cX6_advance 127 = .ok (.iconst 2, 1) := by decide +kernel
theorem dX6_advance_128 : decode cX6_advance 128 = .ok (.putfield 49, 3) := by decide +kernel
theorem dX6_advance_131 : decode cX6_advance 131 = .ok (.aload_n 0, 1) := by decide +kernel
theorem dX6_advance_132 : decode cX6_advance 132 = .ok (.aload_n 0, 1) := by decide +kernel
theorem dX6_advance_133 : decode cX6_advance 133 = .ok (.bipush 48, 2) := by decide +kernel
theorem dX6_advance_135 : decode cX6_advance 135 = .ok (.bipush 57, 2) := by decide +kernel
theorem dX6_advance_137 : decode cX6_advance 137 = .ok (.invokevirtual 52, 3) := by decide +kernel
theorem dX6_advance_140 : decode cX6_advance 140 = .ok (.putfield 32, 3) := by decide +kernel
theorem dX6_advance_143 : decode cX6_advance 143 = .ok (.goto 28, 3) := by decide +kernel
theorem dX6_advance_146 : decode cX6_advance 146 = .ok (.aload_n 0, 1) := by decide +kernel
theorem dX6_advance_147 : decode cX6_advance 147 = .ok (.iload_n 1, 1) := by decide +kernel
theorem dX6_advance_148 : decode cX6_advance 148 = .ok (.bipush 59, 2) := by decide +kernel
theorem dX6_advance_150 : decode cX6_advance 150 = .ok (.if_icmp .ne 7, 3) := by decide +kernel
theorem dX6_advance_153 : decode cX6_advance 153 = .ok (.iconst 3, 1) := by decide +kernel
theorem dX6_advance_154 : decode cX6_advance 154 = .ok (.goto 4, 3) := by decide +kernel
theorem dX6_advance_157 : decode cX6_advance 157 = .ok (.iconst 4, 1) := by decide +kernel
theorem dX6_advance_158 : decode cX6_advance 158 = .ok (.putfield 49, 3) := by decide +kernel
theorem dX6_advance_161 : decode cX6_advance 161 = .ok (.aload_n 0, 1) := by decide +kernel
theorem dX6_advance_162 : decode cX6_advance 162 = .ok (.aload_n 0, 1) := by decide +kernel
theorem dX6_advance_163 : decode cX6_advance 163 = .ok (.getfield 38, 3) := by decide +kernel
theorem dX6_advance_166 : decode cX6_advance 166 = .ok (.iconst 1, 1) := by decide +kernel
theorem dX6_advance_167 : decode cX6_advance 167 = .ok (.iadd, 1) := by decide +kernel
theorem dX6_advance_168 : decode cX6_advance 168 = .ok (.putfield 32, 3) := by decide +kernel
theorem dX6_advance_171 : decode cX6_advance 171 = .ok (.return_, 1) := by decide +kernel
theorem dX6_isBlank_0 : decode cX6_isBlank 0 = .ok (.iload_n 0, 1) := by decide +kernel
theorem dX6_isBlank_1 : decode cX6_isBlank 1 = .ok (.bipush 32, 2) := by decide +kernel
theorem dX6_isBlank_3 : decode cX6_isBlank 3 = .ok (.if_icmp .eq 9, 3) := by decide +kernel
theorem dX6_isBlank_6 : decode cX6_isBlank 6 = .ok (.iload_n 0, 1) := by decide +kernel
theorem dX6_isBlank_7 : decode cX6_isBlank 7 = .ok (.bipush 10, 2) := by decide +kernel
theorem dX6_isBlank_9 : decode cX6_isBlank 9 = .ok (.if_icmp .ne 7, 3) := by decide +kernel
theorem dX6_isBlank_12 : decode cX6_isBlank 12 = .ok (.iconst 1, 1) := by decide +kernel
theorem dX6_isBlank_13 : decode cX6_isBlank 13 = .ok (.goto 4, 3) := by decide +kernel
theorem dX6_isBlank_16 : decode cX6_isBlank 16 = .ok (.iconst 0, 1) := by decide +kernel
theorem dX6_isBlank_17 : decode cX6_isBlank 17 = .ok (.ireturn, 1) := by decide +kernel
theorem dX6_byteAt_0 : decode cX6_byteAt 0 = .ok (.iload_n 1, 1) := by decide +kernel
theorem dX6_byteAt_1 : decode cX6_byteAt 1 = .ok (.ifCond .lt 25, 3) := by decide +kernel
theorem dX6_byteAt_4 : decode cX6_byteAt 4 = .ok (.iload_n 1, 1) := by decide +kernel
theorem dX6_byteAt_5 : decode cX6_byteAt 5 = .ok (.aload_n 0, 1) := by decide +kernel
theorem dX6_byteAt_6 : decode cX6_byteAt 6 = .ok (.getfield 9, 3) := by decide +kernel
theorem dX6_byteAt_9 : decode cX6_byteAt 9 = .ok (.arraylength, 1) := by decide +kernel
theorem dX6_byteAt_10 : decode cX6_byteAt 10 = .ok (.if_icmp .ge 16, 3) := by decide +kernel
theorem dX6_byteAt_13 : decode cX6_byteAt 13 = .ok (.aload_n 0, 1) := by decide +kernel
theorem dX6_byteAt_14 : decode cX6_byteAt 14 = .ok (.getfield 9, 3) := by decide +kernel
theorem dX6_byteAt_17 : decode cX6_byteAt 17 = .ok (.iload_n 1, 1) := by decide +kernel
theorem dX6_byteAt_18 : decode cX6_byteAt 18 = .ok (.baload, 1) := by decide +kernel
theorem dX6_byteAt_19 : decode cX6_byteAt 19 = .ok (.sipush 255, 3) := by decide +kernel
theorem dX6_byteAt_22 : decode cX6_byteAt 22 = .ok (.iand, 1) := by decide +kernel
theorem dX6_byteAt_23 : decode cX6_byteAt 23 = .ok (.goto 4, 3) := by decide +kernel
theorem dX6_byteAt_26 : decode cX6_byteAt 26 = .ok (.iconst 0, 1) := by decide +kernel
theorem dX6_byteAt_27 : decode cX6_byteAt 27 = .ok (.ireturn, 1) := by decide +kernel
theorem dX6_findRunEnd_0 : decode cX6_findRunEnd 0 = .ok (.aload_n 0, 1) := by decide +kernel
theorem dX6_findRunEnd_1 : decode cX6_findRunEnd 1 = .ok (.getfield 38, 3) := by decide +kernel
theorem dX6_findRunEnd_4 : decode cX6_findRunEnd 4 = .ok (.istore_n 3, 1) := by decide +kernel
theorem dX6_findRunEnd_5 : decode cX6_findRunEnd 5 = .ok (.iload_n 3, 1) := by decide +kernel
theorem dX6_findRunEnd_6 : decode cX6_findRunEnd 6 = .ok (.aload_n 0, 1) := by decide +kernel
theorem dX6_findRunEnd_7 : decode cX6_findRunEnd 7 = .ok (.getfield 15, 3) := by decide +kernel
theorem dX6_findRunEnd_10 : decode cX6_findRunEnd 10 = .ok (.if_icmp .ge 27, 3) := by decide +kernel
theorem dX6_findRunEnd_13 : decode cX6_findRunEnd 13 = .ok (.aload_n 0, 1) := by decide +kernel
theorem dX6_findRunEnd_14 : decode cX6_findRunEnd 14 = .ok (.iload_n 3, 1) := by decide +kernel
theorem dX6_findRunEnd_15 : decode cX6_findRunEnd 15 = .ok (.invokevirtual 41, 3) := by decide +kernel
theorem dX6_findRunEnd_18 : decode cX6_findRunEnd 18 = .ok (.iload_n 1, 1) := by decide +kernel
theorem dX6_findRunEnd_19 : decode cX6_findRunEnd 19 = .ok (.if_icmp .lt 18, 3) := by decide +kernel
theorem dX6_findRunEnd_22 : decode cX6_findRunEnd 22 = .ok (.aload_n 0, 1) := by decide +kernel
theorem dX6_findRunEnd_23 : decode cX6_findRunEnd 23 = .ok (.iload_n 3, 1) := by decide +kernel
theorem dX6_findRunEnd_24 : decode cX6_findRunEnd 24 = .ok (.invokevirtual 41, 3) := by decide +kernel
theorem dX6_findRunEnd_27 : decode cX6_findRunEnd 27 = .ok (.iload_n 2, 1) := by decide +kernel
theorem dX6_findRunEnd_28 : decode cX6_findRunEnd 28 = .ok (.if_icmp .gt 9, 3) := by decide +kernel
theorem dX6_findRunEnd_31 : decode cX6_findRunEnd 31 = .ok (.iinc 3 1, 3) := by decide +kernel
theorem dX6_findRunEnd_34 : decode cX6_findRunEnd 34 = .ok (.goto (-29), 3) := by decide +kernel
theorem dX6_findRunEnd_37 : decode cX6_findRunEnd 37 = .ok (.iload_n 3, 1) := by decide +kernel
theorem dX6_findRunEnd_38 : decode cX6_findRunEnd 38 = .ok (.ireturn, 1) := by decide +kernel
theorem dX6_isText_0 : decode cX6_isText 0 = .ok (.aload_n 0, 1) := by decide +kernel
theorem dX6_isText_1 : decode cX6_isText 1 = .ok (.getfield 32, 3) := by decide +kernel
theorem dX6_isText_4 : decode cX6_isText 4 = .ok (.aload_n 0, 1) := by decide +kernel
theorem dX6_isText_5 : decode cX6_isText 5 = .ok (.getfield 38, 3) := by decide +kernel
theorem dX6_isText_8 : decode cX6_isText 8 = .ok (.isub, 1) := by decide +kernel
theorem dX6_isText_9 : decode cX6_isText 9 = .ok (.aload_n 1, 1) := by decide +kernel
theorem dX6_isText_10 : decode cX6_isText 10 = .ok (.invokevirtual 23, 3) := by decide +kernel
theorem dX6_isText_13 : decode cX6_isText 13 = .ok (.if_icmp .eq 5, 3) := by decide +kernel
theorem dX6_isText_16 : decode cX6_isText 16 = .ok (.iconst 0, 1) := by decide +kernel
theorem dX6_isText_17 : decode cX6_isText 17 = .ok (.ireturn, 1) := by decide +kernel
theorem dX6_isText_18 : decode cX6_isText 18 = .ok (.iconst 0, 1) := by decide +kernel
theorem dX6_isText_19 : decode cX6_isText 19 = .ok (.istore_n 2, 1) := by decide +kernel
theorem dX6_isText_20 : decode cX6_isText 20 = .ok (.iload_n 2, 1) := by decide +kernel
theorem dX6_isText_21 : decode cX6_isText 21 = .ok (.aload_n 1, 1) := by decide +kernel
theorem dX6_isText_22 : decode cX6_isText 22 = .ok (.invokevirtual 23, 3) := by decide +kernel
theorem dX6_isText_25 : decode cX6_isText 25 = .ok (.if_icmp .ge 29, 3) := by decide +kernel
theorem dX6_isText_28 : decode cX6_isText 28 = .ok (.aload_n 0, 1) := by decide +kernel
theorem dX6_isText_29 : decode cX6_isText 29 = .ok (.aload_n 0, 1) := by decide +kernel
theorem dX6_isText_30 : decode cX6_isText 30 = .ok (.getfield 38, 3) := by decide +kernel
theorem dX6_isText_33 : decode cX6_isText 33 = .ok (.iload_n 2, 1) := by decide +kernel
theorem dX6_isText_34 : decode cX6_isText 34 = .ok (.iadd, 1) := by decide +kernel
theorem dX6_isText_35 : decode cX6_isText 35 = .ok (.invokevirtual 41, 3) := by decide +kernel
theorem dX6_isText_38 : decode cX6_isText 38 = .ok (.aload_n 1, 1) := by decide +kernel
theorem dX6_isText_39 : decode cX6_isText 39 = .ok (.iload_n 2, 1) := by decide +kernel
theorem dX6_isText_40 : decode cX6_isText 40 = .ok (.invokevirtual 28, 3) := by decide +kernel
theorem dX6_isText_43 : decode cX6_isText 43 = .ok (.if_icmp .eq 5, 3) := by decide +kernel
theorem dX6_isText_46 : decode cX6_isText 46 = .ok (.iconst 0, 1) := by decide +kernel
theorem dX6_isText_47 : decode cX6_isText 47 = .ok (.ireturn, 1) := by decide +kernel
theorem dX6_isText_48 : decode cX6_isText 48 = .ok (.iinc 2 1, 3) := by decide +kernel
theorem dX6_isText_51 : decode cX6_isText 51 = .ok (.goto (-31), 3) := by decide +kernel
theorem dX6_isText_54 : decode cX6_isText 54 = .ok (.iconst 1, 1) := by decide +kernel
theorem dX6_isText_55 : decode cX6_isText 55 = .ok (.ireturn, 1) := by decide +kernel
theorem dX6_packName_0 : decode cX6_packName 0 = .ok (.aload_n 0, 1) := by decide +kernel
theorem dX6_packName_1 : decode cX6_packName 1 = .ok (.getfield 32, 3) := by decide +kernel
theorem dX6_packName_4 : decode cX6_packName 4 = .ok (.aload_n 0, 1) := by decide +kernel
theorem dX6_packName_5 : decode cX6_packName 5 = .ok (.getfield 38, 3) := by decide +kernel
theorem dX6_packName_8 : decode cX6_packName 8 = .ok (.isub, 1) := by decide +kernel
theorem dX6_packName_9 : decode cX6_packName 9 = .ok (.iconst 4, 1) := by decide +kernel
theorem dX6_packName_10 : decode cX6_packName 10 = .ok (.if_icmp .le 5, 3) := by decide +kernel
theorem dX6_packName_13 : decode cX6_packName 13 = .ok (.iconst 0, 1) := by decide +kernel
theorem dX6_packName_14 : decode cX6_packName 14 = .ok (.ireturn, 1) := by decide +kernel
theorem dX6_packName_15 : decode cX6_packName 15 = .ok (.iconst 0, 1) := by decide +kernel
theorem dX6_packName_16 : decode cX6_packName 16 = .ok (.istore_n 1, 1) := by decide +kernel
theorem dX6_packName_17 : decode cX6_packName 17 = .ok (.aload_n 0, 1) := by decide +kernel
theorem dX6_packName_18 : decode cX6_packName 18 = .ok (.getfield 38, 3) := by decide +kernel
theorem dX6_packName_21 : decode cX6_packName 21 = .ok (.istore_n 2, 1) := by decide +kernel
theorem dX6_packName_22 : decode cX6_packName 22 = .ok (.iload_n 2, 1) := by decide +kernel
theorem dX6_packName_23 : decode cX6_packName 23 = .ok (.aload_n 0, 1) := by decide +kernel
theorem dX6_packName_24 : decode cX6_packName 24 = .ok (.getfield 32, 3) := by decide +kernel
theorem dX6_packName_27 : decode cX6_packName 27 = .ok (.if_icmp .ge 20, 3) := by decide +kernel
theorem dX6_packName_30 : decode cX6_packName 30 = .ok (.iload_n 1, 1) := by decide +kernel
theorem dX6_packName_31 : decode cX6_packName 31 = .ok (.bipush 8, 2) := by decide +kernel
theorem dX6_packName_33 : decode cX6_packName 33 = .ok (.ishl, 1) := by decide +kernel
theorem dX6_packName_34 : decode cX6_packName 34 = .ok (.aload_n 0, 1) := by decide +kernel
theorem dX6_packName_35 : decode cX6_packName 35 = .ok (.iload_n 2, 1) := by decide +kernel
theorem dX6_packName_36 : decode cX6_packName 36 = .ok (.invokevirtual 41, 3) := by decide +kernel
theorem dX6_packName_39 : decode cX6_packName 39 = .ok (.ior, 1) := by decide +kernel
theorem dX6_packName_40 : decode cX6_packName 40 = .ok (.istore_n 1, 1) := by decide +kernel
theorem dX6_packName_41 : decode cX6_packName 41 = .ok (.iinc 2 1, 3) := by decide +kernel
theorem dX6_packName_44 : decode cX6_packName 44 = .ok (.goto (-22), 3) := by decide +kernel
theorem dX6_packName_47 : decode cX6_packName 47 = .ok (.iload_n 1, 1) := by decide +kernel
theorem dX6_packName_48 : decode cX6_packName 48 = .ok (.ireturn, 1) := by decide +kernel
theorem dX6_readNumber_0 : decode cX6_readNumber 0 = .ok (.iconst 0, 1) := by decide +kernel
theorem dX6_readNumber_1 : decode cX6_readNumber 1 = .ok (.istore_n 1, 1) := by decide +kernel
theorem dX6_readNumber_2 : decode cX6_readNumber 2 = .ok (.aload_n 0, 1) := by decide +kernel
theorem dX6_readNumber_3 : decode cX6_readNumber 3 = .ok (.getfield 38, 3) := by decide +kernel
theorem dX6_readNumber_6 : decode cX6_readNumber 6 = .ok (.istore_n 2, 1) := by decide +kernel
theorem dX6_readNumber_7 : decode cX6_readNumber 7 = .ok (.iload_n 2, 1) := by decide +kernel
theorem dX6_readNumber_8 : decode cX6_readNumber 8 = .ok (.aload_n 0, 1) := by decide +kernel
theorem dX6_readNumber_9 : decode cX6_readNumber 9 = .ok (.getfield 32, 3) := by decide +kernel
theorem dX6_readNumber_12 : decode cX6_readNumber 12 = .ok (.if_icmp .ge 29, 3) := by decide +kernel
theorem dX6_readNumber_15 : decode cX6_readNumber 15 = .ok (.sipush 1000, 3) := by decide +kernel
theorem dX6_readNumber_18 : decode cX6_readNumber 18 = .ok (.iload_n 1, 1) := by decide +kernel
theorem dX6_readNumber_19 : decode cX6_readNumber 19 = .ok (.bipush 10, 2) := by decide +kernel
theorem dX6_readNumber_21 : decode cX6_readNumber 21 = .ok (.imul, 1) := by decide +kernel
theorem dX6_readNumber_22 : decode cX6_readNumber 22 = .ok (.aload_n 0, 1) := by decide +kernel
theorem dX6_readNumber_23 : decode cX6_readNumber 23 = .ok (.iload_n 2, 1) := by decide +kernel
theorem dX6_readNumber_24 : decode cX6_readNumber 24 = .ok (.invokevirtual 41, 3) := by decide +kernel
theorem dX6_readNumber_27 : decode cX6_readNumber 27 = .ok (.iadd, 1) := by decide +kernel
theorem dX6_readNumber_28 : decode cX6_readNumber 28 = .ok (.bipush 48, 2) := by decide +kernel
theorem dX6_readNumber_30 : decode cX6_readNumber 30 = .ok (.isub, 1) := by decide +kernel
theorem dX6_readNumber_31 : decode cX6_readNumber 31 = .ok (.invokestatic 56, 3) := by decide +kernel
theorem dX6_readNumber_34 : decode cX6_readNumber 34 = .ok (.istore_n 1, 1) := by decide +kernel
theorem dX6_readNumber_35 : decode cX6_readNumber 35 = .ok (.iinc 2 1, 3) := by decide +kernel
theorem dX6_readNumber_38 : decode cX6_readNumber 38 = .ok (.goto (-31), 3) := by decide +kernel
theorem dX6_readNumber_41 : decode cX6_readNumber 41 = .ok (.iload_n 1, 1) := by decide +kernel
theorem dX6_readNumber_42 : decode cX6_readNumber 42 = .ok (.ireturn, 1) := by decide +kernel
theorem dX7_init_0 : decode cX7_init 0 = .ok (.aload_n 0, 1) := by decide +kernel
theorem dX7_init_1 : decode cX7_init 1 = .ok (.invokespecial 1, 3) := by decide +kernel
theorem dX7_init_4 : decode cX7_init 4 = .ok (.return_, 1) := by decide +kernel
theorem dX7_copyFrom_0 : decode cX7_copyFrom 0 = .ok (.aload_n 0, 1) := by decide +kernel
theorem dX7_copyFrom_1 : decode cX7_copyFrom 1 = .ok (.aload_n 1, 1) := by decide +kernel
theorem dX7_copyFrom_2 : decode cX7_copyFrom 2 = .ok (.getfield 7, 3) := by decide +kernel
theorem dX7_copyFrom_5 : decode cX7_copyFrom 5 = .ok (.putfield 7, 3) := by decide +kernel
theorem dX7_copyFrom_8 : decode cX7_copyFrom 8 = .ok (.aload_n 0, 1) := by decide +kernel
theorem dX7_copyFrom_9 : decode cX7_copyFrom 9 = .ok (.aload_n 1, 1) := by decide +kernel
theorem dX7_copyFrom_10 : decode cX7_copyFrom 10 = .ok (.getfield 13, 3) := by decide +kernel
theorem dX7_copyFrom_13 : decode cX7_copyFrom 13 = .ok (.putfield 13, 3) := by decide +kernel
theorem dX7_copyFrom_16 : decode cX7_copyFrom 16 = .ok (.aload_n 0, 1) := by decide +kernel
theorem dX7_copyFrom_17 : decode cX7_copyFrom 17 = .ok (.aload_n 1, 1) := by decide +kernel
theorem dX7_copyFrom_18 : decode cX7_copyFrom 18 = .ok (.getfield 16, 3) := by decide +kernel
theorem dX7_copyFrom_21 : decode cX7_copyFrom 21 = .ok (.putfield 16, 3) := by decide +kernel
theorem dX7_copyFrom_24 : decode cX7_copyFrom 24 = .ok (.aload_n 0, 1) := by decide +kernel
theorem dX7_copyFrom_25 : decode cX7_copyFrom 25 = .ok (.aload_n 1, 1) := by decide +kernel
theorem dX7_copyFrom_26 : decode cX7_copyFrom 26 = .ok (.getfield 19, 3) := by decide +kernel
theorem dX7_copyFrom_29 : decode cX7_copyFrom 29 = .ok (.putfield 19, 3) := by decide +kernel
theorem dX7_copyFrom_32 : decode cX7_copyFrom 32 = .ok (.return_, 1) := by decide +kernel
theorem dX7_connects_0 : decode cX7_connects 0 = .ok (.aload_n 0, 1) := by decide +kernel
theorem dX7_connects_1 : decode cX7_connects 1 = .ok (.getfield 7, 3) := by decide +kernel
theorem dX7_connects_4 : decode cX7_connects 4 = .ok (.iload_n 1, 1) := by decide +kernel
theorem dX7_connects_5 : decode cX7_connects 5 = .ok (.if_icmp .ne 11, 3) := by decide +kernel
theorem dX7_connects_8 : decode cX7_connects 8 = .ok (.aload_n 0, 1) := by decide +kernel
theorem dX7_connects_9 : decode cX7_connects 9 = .ok (.getfield 13, 3) := by decide +kernel
theorem dX7_connects_12 : decode cX7_connects 12 = .ok (.iload_n 2, 1) := by decide +kernel
theorem dX7_connects_13 : decode cX7_connects 13 = .ok (.if_icmp .eq 19, 3) := by decide +kernel
theorem dX7_connects_16 : decode cX7_connects 16 = .ok (.aload_n 0, 1) := by decide +kernel
theorem dX7_connects_17 : decode cX7_connects 17 = .ok (.getfield 7, 3) := by decide +kernel
theorem dX7_connects_20 : decode cX7_connects 20 = .ok (.iload_n 2, 1) := by decide +kernel
theorem dX7_connects_21 : decode cX7_connects 21 = .ok (.if_icmp .ne 15, 3) := by decide +kernel
theorem dX7_connects_24 : decode cX7_connects 24 = .ok (.aload_n 0, 1) := by decide +kernel
theorem dX7_connects_25 : decode cX7_connects 25 = .ok (.getfield 13, 3) := by decide +kernel
theorem dX7_connects_28 : decode cX7_connects 28 = .ok (.iload_n 1, 1) := by decide +kernel
theorem dX7_connects_29 : decode cX7_connects 29 = .ok (.if_icmp .ne 7, 3) := by decide +kernel
theorem dX7_connects_32 : decode cX7_connects 32 = .ok (.iconst 1, 1) := by decide +kernel
theorem dX7_connects_33 : decode cX7_connects 33 = .ok (.goto 4, 3) := by decide +kernel
theorem dX7_connects_36 : decode cX7_connects 36 = .ok (.iconst 0, 1) := by decide +kernel
theorem dX7_connects_37 : decode cX7_connects 37 = .ok (.ireturn, 1) := by decide +kernel
theorem dX8_init_0 : decode cX8_init 0 = .ok (.aload_n 0, 1) := by decide +kernel
theorem dX8_init_1 : decode cX8_init 1 = .ok (.invokespecial 3, 3) := by decide +kernel
theorem dX8_init_4 : decode cX8_init 4 = .ok (.aload_n 0, 1) := by decide +kernel
theorem dX8_init_5 : decode cX8_init 5 = .ok (.bipush 6, 2) := by decide +kernel
theorem dX8_init_7 : decode cX8_init 7 = .ok (.newarray .int, 2) := by decide +kernel
theorem dX8_init_9 : decode cX8_init 9 = .ok (.putfield 9, 3) := by decide +kernel
theorem dX8_init_12 : decode cX8_init 12 = .ok (.aload_n 0, 1) := by decide +kernel
theorem dX8_init_13 : decode cX8_init 13 = .ok (.iload_n 1, 1) := by decide +kernel
theorem dX8_init_14 : decode cX8_init 14 = .ok (.putfield 15, 3) := by decide +kernel
theorem dX8_init_17 : decode cX8_init 17 = .ok (.return_, 1) := by decide +kernel
theorem dX8_copyFrom_0 : decode cX8_copyFrom 0 = .ok (.aload_n 0, 1) := by decide +kernel
theorem dX8_copyFrom_1 : decode cX8_copyFrom 1 = .ok (.aload_n 1, 1) := by decide +kernel
theorem dX8_copyFrom_2 : decode cX8_copyFrom 2 = .ok (.getfield 19, 3) := by decide +kernel
theorem dX8_copyFrom_5 : decode cX8_copyFrom 5 = .ok (.putfield 19, 3) := by decide +kernel
theorem dX8_copyFrom_8 : decode cX8_copyFrom 8 = .ok (.iconst 0, 1) := by decide +kernel
theorem dX8_copyFrom_9 : decode cX8_copyFrom 9 = .ok (.istore_n 2, 1) := by decide +kernel
theorem dX8_copyFrom_10 : decode cX8_copyFrom 10 = .ok (.iload_n 2, 1) := by decide +kernel
theorem dX8_copyFrom_11 : decode cX8_copyFrom 11 = .ok (.bipush 6, 2) := by decide +kernel
theorem dX8_copyFrom_13 : decode cX8_copyFrom 13 = .ok (.if_icmp .ge 21, 3) := by decide +kernel
theorem dX8_copyFrom_16 : decode cX8_copyFrom 16 = .ok (.aload_n 0, 1) := by decide +kernel
theorem dX8_copyFrom_17 : decode cX8_copyFrom 17 = .ok (.getfield 9, 3) := by decide +kernel
theorem dX8_copyFrom_20 : decode cX8_copyFrom 20 = .ok (.iload_n 2, 1) := by decide +kernel
theorem dX8_copyFrom_21 : decode cX8_copyFrom 21 = .ok (.aload_n 1, 1) := by decide +kernel
theorem dX8_copyFrom_22 : decode cX8_copyFrom 22 = .ok (.getfield 9, 3) := by decide +kernel
theorem dX8_copyFrom_25 : decode cX8_copyFrom 25 = .ok (.iload_n 2, 1) := by decide +kernel
theorem dX8_copyFrom_26 : decode cX8_copyFrom 26 = .ok (.iaload, 1) := by decide +kernel
theorem dX8_copyFrom_27 : decode cX8_copyFrom 27 = .ok (.iastore, 1) := by decide +kernel
theorem dX8_copyFrom_28 : decode cX8_copyFrom 28 = .ok (.iinc 2 1, 3) := by decide +kernel
theorem dX8_copyFrom_31 : decode cX8_copyFrom 31 = .ok (.goto (-21), 3) := by decide +kernel
theorem dX8_copyFrom_34 : decode cX8_copyFrom 34 = .ok (.aload_n 0, 1) := by decide +kernel
theorem dX8_copyFrom_35 : decode cX8_copyFrom 35 = .ok (.aload_n 1, 1) := by decide +kernel
theorem dX8_copyFrom_36 : decode cX8_copyFrom 36 = .ok (.getfield 22, 3) := by decide +kernel
theorem dX8_copyFrom_39 : decode cX8_copyFrom 39 = .ok (.putfield 22, 3) := by decide +kernel
theorem dX8_copyFrom_42 : decode cX8_copyFrom 42 = .ok (.aload_n 0, 1) := by decide +kernel
theorem dX8_copyFrom_43 : decode cX8_copyFrom 43 = .ok (.aload_n 1, 1) := by decide +kernel
theorem dX8_copyFrom_44 : decode cX8_copyFrom 44 = .ok (.getfield 25, 3) := by decide +kernel
theorem dX8_copyFrom_47 : decode cX8_copyFrom 47 = .ok (.putfield 25, 3) := by decide +kernel
theorem dX8_copyFrom_50 : decode cX8_copyFrom 50 = .ok (.aload_n 0, 1) := by decide +kernel
theorem dX8_copyFrom_51 : decode cX8_copyFrom 51 = .ok (.aload_n 1, 1) := by decide +kernel
theorem dX8_copyFrom_52 : decode cX8_copyFrom 52 = .ok (.getfield 28, 3) := by decide +kernel
theorem dX8_copyFrom_55 : decode cX8_copyFrom 55 = .ok (.putfield 28, 3) := by decide +kernel
theorem dX8_copyFrom_58 : decode cX8_copyFrom 58 = .ok (.aload_n 0, 1) := by decide +kernel
theorem dX8_copyFrom_59 : decode cX8_copyFrom 59 = .ok (.aload_n 1, 1) := by decide +kernel
theorem dX8_copyFrom_60 : decode cX8_copyFrom 60 = .ok (.getfield 32, 3) := by decide +kernel
theorem dX8_copyFrom_63 : decode cX8_copyFrom 63 = .ok (.putfield 32, 3) := by decide +kernel
theorem dX8_copyFrom_66 : decode cX8_copyFrom 66 = .ok (.aload_n 0, 1) := by decide +kernel
theorem dX8_copyFrom_67 : decode cX8_copyFrom 67 = .ok (.aload_n 1, 1) := by decide +kernel
theorem dX8_copyFrom_68 : decode cX8_copyFrom 68 = .ok (.getfield 35, 3) := by decide +kernel
theorem dX8_copyFrom_71 : decode cX8_copyFrom 71 = .ok (.putfield 35, 3) := by decide +kernel
theorem dX8_copyFrom_74 : decode cX8_copyFrom 74 = .ok (.aload_n 0, 1) := by decide +kernel
theorem dX8_copyFrom_75 : decode cX8_copyFrom 75 = .ok (.aload_n 1, 1) := by decide +kernel
theorem dX8_copyFrom_76 : decode cX8_copyFrom 76 = .ok (.getfield 38, 3) := by decide +kernel
theorem dX8_copyFrom_79 : decode cX8_copyFrom 79 = .ok (.putfield 38, 3) := by decide +kernel
theorem dX8_copyFrom_82 : decode cX8_copyFrom 82 = .ok (.aload_n 0, 1) := by decide +kernel
theorem dX8_copyFrom_83 : decode cX8_copyFrom 83 = .ok (.aload_n 1, 1) := by decide +kernel
theorem dX8_copyFrom_84 : decode cX8_copyFrom 84 = .ok (.getfield 41, 3) := by decide +kernel
theorem dX8_copyFrom_87 : decode cX8_copyFrom 87 = .ok (.putfield 41, 3) := by decide +kernel
theorem dX8_copyFrom_90 : decode cX8_copyFrom 90 = .ok (.return_, 1) := by decide +kernel
theorem dX8_isStanding_0 : decode cX8_isStanding 0 = .ok (.aload_n 0, 1) := by decide +kernel
theorem dX8_isStanding_1 : decode cX8_isStanding 1 = .ok (.getfield 32, 3) := by decide +kernel
theorem dX8_isStanding_4 : decode cX8_isStanding 4 = .ok (.ifCond .ne 7, 3) := by decide +kernel
theorem dX8_isStanding_7 : decode cX8_isStanding 7 = .ok (.iconst 1, 1) := by decide +kernel
theorem dX8_isStanding_8 : decode cX8_isStanding 8 = .ok (.goto 4, 3) := by decide +kernel
theorem dX8_isStanding_11 : decode cX8_isStanding 11 = .ok (.iconst 0, 1) := by decide +kernel
theorem dX8_isStanding_12 : decode cX8_isStanding 12 = .ok (.ireturn, 1) := by decide +kernel
theorem dX8_stationAt_0 : decode cX8_stationAt 0 = .ok (.iload_n 1, 1) := by decide +kernel
theorem dX8_stationAt_1 : decode cX8_stationAt 1 = .ok (.ifCond .lt 29, 3) := by decide +kernel
theorem dX8_stationAt_4 : decode cX8_stationAt 4 = .ok (.iload_n 1, 1) := by decide +kernel
theorem dX8_stationAt_5 : decode cX8_stationAt 5 = .ok (.aload_n 0, 1) := by decide +kernel
theorem dX8_stationAt_6 : decode cX8_stationAt 6 = .ok (.getfield 22, 3) := by decide +kernel
theorem dX8_stationAt_9 : decode cX8_stationAt 9 = .ok (.if_icmp .ge 21, 3) := by decide +kernel
theorem dX8_stationAt_12 : decode cX8_stationAt 12 = .ok (.iload_n 1, 1) := by decide +kernel
theorem dX8_stationAt_13 : decode cX8_stationAt 13 = .ok (.aload_n 0, 1) := by decide +kernel
theorem dX8_stationAt_14 : decode cX8_stationAt 14 = .ok (.getfield 9, 3) := by decide +kernel
theorem dX8_stationAt_17 : decode cX8_stationAt 17 = .ok (.arraylength, 1) := by decide +kernel
theorem dX8_stationAt_18 : decode cX8_stationAt 18 = .ok (.if_icmp .ge 12, 3) := by decide +kernel
theorem dX8_stationAt_21 : decode cX8_stationAt 21 = .ok (.aload_n 0, 1) := by decide +kernel
theorem dX8_stationAt_22 : decode cX8_stationAt 22 = .ok (.getfield 9, 3) := by decide +kernel
theorem dX8_stationAt_25 : decode cX8_stationAt 25 = .ok (.iload_n 1, 1) := by decide +kernel
theorem dX8_stationAt_26 : decode cX8_stationAt 26 = .ok (.iaload, 1) := by decide +kernel
theorem dX8_stationAt_27 : decode cX8_stationAt 27 = .ok (.goto 4, 3) := by decide +kernel
theorem dX8_stationAt_30 : decode cX8_stationAt 30 = .ok (.iconst (-1), 1) := by decide +kernel
theorem dX8_stationAt_31 : decode cX8_stationAt 31 = .ok (.ireturn, 1) := by decide +kernel
theorem dX8_stationAhead_0 : decode cX8_stationAhead 0 = .ok (.aload_n 0, 1) := by decide +kernel
theorem dX8_stationAhead_1 : decode cX8_stationAhead 1 = .ok (.getfield 28, 3) := by decide +kernel
theorem dX8_stationAhead_4 : decode cX8_stationAhead 4 = .ok (.ifCond .eq 12, 3) := by decide +kernel
theorem dX8_stationAhead_7 : decode cX8_stationAhead 7 = .ok (.aload_n 0, 1) := by decide +kernel
theorem dX8_stationAhead_8 : decode cX8_stationAhead 8 = .ok (.getfield 25, 3) := by decide +kernel
theorem dX8_stationAhead_11 : decode cX8_stationAhead 11 = .ok (.iload_n 1, 1) := by decide +kernel
theorem dX8_stationAhead_12 : decode cX8_stationAhead 12 = .ok (.iadd, 1) := by decide +kernel
theorem dX8_stationAhead_13 : decode cX8_stationAhead 13 = .ok (.goto 9, 3) := by decide +kernel
theorem dX8_stationAhead_16 : decode cX8_stationAhead 16 = .ok (.aload_n 0, 1) := by decide +kernel
theorem dX8_stationAhead_17 : decode cX8_stationAhead 17 = .ok (.getfield 25, 3) := by decide +kernel
theorem dX8_stationAhead_20 : decode cX8_stationAhead 20 = .ok (.iload_n 1, 1) := by decide +kernel
theorem dX8_stationAhead_21 : decode cX8_stationAhead 21 = .ok (.isub, 1) := by decide +kernel
theorem dX8_stationAhead_22 : decode cX8_stationAhead 22 = .ok (.istore_n 2, 1) := by decide +kernel
theorem dX8_stationAhead_23 : decode cX8_stationAhead 23 = .ok (.iload_n 2, 1) := by decide +kernel
theorem dX8_stationAhead_24 : decode cX8_stationAhead 24 = .ok (.ifCond .lt 29, 3) := by decide +kernel
theorem dX8_stationAhead_27 : decode cX8_stationAhead 27 = .ok (.iload_n 2, 1) := by decide +kernel
theorem dX8_stationAhead_28 : decode cX8_stationAhead 28 = .ok (.aload_n 0, 1) := by decide +kernel
theorem dX8_stationAhead_29 : decode cX8_stationAhead 29 = .ok (.getfield 22, 3) := by decide +kernel
theorem dX8_stationAhead_32 : decode cX8_stationAhead 32 = .ok (.if_icmp .ge 21, 3) := by decide +kernel
theorem dX8_stationAhead_35 : decode cX8_stationAhead 35 = .ok (.iload_n 2, 1) := by decide +kernel
theorem dX8_stationAhead_36 : decode cX8_stationAhead 36 = .ok (.aload_n 0, 1) := by decide +kernel
theorem dX8_stationAhead_37 : decode cX8_stationAhead 37 = .ok (.getfield 9, 3) := by decide +kernel
theorem dX8_stationAhead_40 : decode cX8_stationAhead 40 = .ok (.arraylength, 1) := by decide +kernel
theorem dX8_stationAhead_41 : decode cX8_stationAhead 41 = .ok (.if_icmp .ge 12, 3) := by decide +kernel
theorem dX8_stationAhead_44 : decode cX8_stationAhead 44 = .ok (.aload_n 0, 1) := by decide +kernel
theorem dX8_stationAhead_45 : decode cX8_stationAhead 45 = .ok (.getfield 9, 3) := by decide +kernel
theorem dX8_stationAhead_48 : decode cX8_stationAhead 48 = .ok (.iload_n 2, 1) := by decide +kernel
theorem dX8_stationAhead_49 : decode cX8_stationAhead 49 = .ok (.iaload, 1) := by decide +kernel
theorem dX8_stationAhead_50 : decode cX8_stationAhead 50 = .ok (.goto 4, 3) := by decide +kernel
theorem dX8_stationAhead_53 : decode cX8_stationAhead 53 = .ok (.iconst (-1), 1) := by decide +kernel
theorem dX8_stationAhead_54 : decode cX8_stationAhead 54 = .ok (.ireturn, 1) := by decide +kernel
theorem dX8_standsAt_0 : decode cX8_standsAt 0 = .ok (.aload_n 0, 1) := by decide +kernel
theorem dX8_standsAt_1 : decode cX8_standsAt 1 = .ok (.invokevirtual 44, 3) := by decide +kernel
theorem dX8_standsAt_4 : decode cX8_standsAt 4 = .ok (.ifCond .eq 11, 3) := by decide +kernel
theorem dX8_standsAt_7 : decode cX8_standsAt 7 = .ok (.aload_n 0, 1) := by decide +kernel
theorem dX8_standsAt_8 : decode cX8_standsAt 8 = .ok (.iconst 0, 1) := by decide +kernel
theorem dX8_standsAt_9 : decode cX8_standsAt 9 = .ok (.invokevirtual 48, 3) := by decide +kernel
theorem dX8_standsAt_12 : decode cX8_standsAt 12 = .ok (.goto 4, 3) := by decide +kernel
theorem dX8_standsAt_15 : decode cX8_standsAt 15 = .ok (.iconst (-1), 1) := by decide +kernel
theorem dX8_standsAt_16 : decode cX8_standsAt 16 = .ok (.ireturn, 1) := by decide +kernel
theorem dX8_isAtEnd_0 : decode cX8_isAtEnd 0 = .ok (.aload_n 0, 1) := by decide +kernel
theorem dX8_isAtEnd_1 : decode cX8_isAtEnd 1 = .ok (.getfield 25, 3) := by decide +kernel
theorem dX8_isAtEnd_4 : decode cX8_isAtEnd 4 = .ok (.ifCond .le 16, 3) := by decide +kernel
theorem dX8_isAtEnd_7 : decode cX8_isAtEnd 7 = .ok (.aload_n 0, 1) := by decide +kernel
theorem dX8_isAtEnd_8 : decode cX8_isAtEnd 8 = .ok (.getfield 25, 3) := by decide +kernel
theorem dX8_isAtEnd_11 : decode cX8_isAtEnd 11 = .ok (.aload_n 0, 1) := by decide +kernel
theorem dX8_isAtEnd_12 : decode cX8_isAtEnd 12 = .ok (.getfield 22, 3) := by decide +kernel
theorem dX8_isAtEnd_15 : decode cX8_isAtEnd 15 = .ok (.iconst 1, 1) := by decide +kernel
theorem dX8_isAtEnd_16 : decode cX8_isAtEnd 16 = .ok (.isub, 1) := by decide +kernel
theorem dX8_isAtEnd_17 : decode cX8_isAtEnd 17 = .ok (.if_icmp .lt 7, 3) := by decide +kernel
theorem dX8_isAtEnd_20 : decode cX8_isAtEnd 20 = .ok (.iconst 1, 1) := by decide +kernel
theorem dX8_isAtEnd_21 : decode cX8_isAtEnd 21 = .ok (.goto 4, 3) := by decide +kernel
theorem dX8_isAtEnd_24 : decode cX8_isAtEnd 24 = .ok (.iconst 0, 1) := by decide +kernel
theorem dX8_isAtEnd_25 : decode cX8_isAtEnd 25 = .ok (.ireturn, 1) := by decide +kernel
theorem dX8_reachNextStop_0 : decode cX8_reachNextStop 0 = .ok (.aload_n 0, 1) := by decide +kernel
theorem dX8_reachNextStop_1 : decode cX8_reachNextStop 1 = .ok (.aload_n 0, 1) := by decide +kernel
theorem dX8_reachNextStop_2 : decode cX8_reachNextStop 2 = .ok (.getfield 28, 3) := by decide +kernel
theorem dX8_reachNextStop_5 : decode cX8_reachNextStop 5 = .ok (.ifCond .eq 12, 3) := by decide +kernel
theorem dX8_reachNextStop_8 : decode cX8_reachNextStop 8 = .ok (.aload_n 0, 1) := by decide +kernel
theorem dX8_reachNextStop_9 : decode cX8_reachNextStop 9 = .ok (.getfield 25, 3) := by decide +kernel
theorem dX8_reachNextStop_12 : decode cX8_reachNextStop 12 = .ok (.iconst 1, 1) := by decide +kernel
theorem dX8_reachNextStop_13 : decode cX8_reachNextStop 13 = .ok (.iadd, 1) := by decide +kernel
theorem dX8_reachNextStop_14 : decode cX8_reachNextStop 14 = .ok (.goto 9, 3) := by decide +kernel
theorem dX8_reachNextStop_17 : decode cX8_reachNextStop 17 = .ok (.aload_n 0, 1) := by decide +kernel
theorem dX8_reachNextStop_18 : decode cX8_reachNextStop 18 = .ok (.getfield 25, 3) := by decide +kernel
theorem dX8_reachNextStop_21 : decode cX8_reachNextStop 21 = .ok (.iconst 1, 1) := by decide +kernel
theorem dX8_reachNextStop_22 : decode cX8_reachNextStop 22 = .ok (.isub, 1) := by decide +kernel
theorem dX8_reachNextStop_23 : decode cX8_reachNextStop 23 = .ok (.putfield 25, 3) := by decide +kernel
theorem dX8_reachNextStop_26 : decode cX8_reachNextStop 26 = .ok (.aload_n 0, 1) := by decide +kernel
theorem dX8_reachNextStop_27 : decode cX8_reachNextStop 27 = .ok (.invokevirtual 52, 3) := by decide +kernel
theorem dX8_reachNextStop_30 : decode cX8_reachNextStop 30 = .ok (.ifCond .eq 19, 3) := by decide +kernel
theorem dX8_reachNextStop_33 : decode cX8_reachNextStop 33 = .ok (.aload_n 0, 1) := by decide +kernel
theorem dX8_reachNextStop_34 : decode cX8_reachNextStop 34 = .ok (.aload_n 0, 1) := by decide +kernel
theorem dX8_reachNextStop_35 : decode cX8_reachNextStop 35 = .ok (.getfield 25, 3) := by decide +kernel
theorem dX8_reachNextStop_38 : decode cX8_reachNextStop 38 = .ok (.ifCond .gt 7, 3) := by decide +kernel
theorem dX8_reachNextStop_41 : decode cX8_reachNextStop 41 = .ok (.iconst 1, 1) := by decide +kernel
theorem dX8_reachNextStop_42 : decode cX8_reachNextStop 42 = .ok (.goto 4, 3) := by decide +kernel
theorem dX8_reachNextStop_45 : decode cX8_reachNextStop 45 = .ok (.iconst 0, 1) := by decide +kernel
theorem dX8_reachNextStop_46 : decode cX8_reachNextStop 46 = .ok (.putfield 28, 3) := by decide +kernel
theorem dX8_reachNextStop_49 : decode cX8_reachNextStop 49 = .ok (.return_, 1) := by decide +kernel
theorem dX9_init_0 : decode cX9_init 0 = .ok (.aload_n 0, 1) := by decide +kernel
theorem dX9_init_1 : decode cX9_init 1 = .ok (.invokespecial 1, 3) := by decide +kernel
theorem dX9_init_4 : decode cX9_init 4 = .ok (.aload_n 0, 1) := by decide +kernel
theorem dX9_init_5 : decode cX9_init 5 = .ok (.new 7, 3) := by decide +kernel
theorem dX9_init_8 : decode cX9_init 8 = .ok (.dup, 1) := by decide +kernel
theorem dX9_init_9 : decode cX9_init 9 = .ok (.invokespecial 9, 3) := by decide +kernel
theorem dX9_init_12 : decode cX9_init 12 = .ok (.putfield 10, 3) := by decide +kernel
theorem dX9_init_15 : decode cX9_init 15 = .ok (.aload_n 0, 1) := by decide +kernel
theorem dX9_init_16 : decode cX9_init 16 = .ok (.new 7, 3) := by decide +kernel
theorem dX9_init_19 : decode cX9_init 19 = .ok (.dup, 1) := by decide +kernel
theorem dX9_init_20 : decode cX9_init 20 = .ok (.invokespecial 9, 3) := by decide +kernel
theorem dX9_init_23 : decode cX9_init 23 = .ok (.putfield 16, 3) := by decide +kernel
theorem dX9_init_26 : decode cX9_init 26 = .ok (.aload_n 0, 1) := by decide +kernel
theorem dX9_init_27 : decode cX9_init 27 = .ok (.new 19, 3) := by decide +kernel
theorem dX9_init_30 : decode cX9_init 30 = .ok (.dup, 1) := by decide +kernel
theorem dX9_init_31 : decode cX9_init 31 = .ok (.invokespecial 21, 3) := by decide +kernel
theorem dX9_init_34 : decode cX9_init 34 = .ok (.putfield 22, 3) := by decide +kernel
theorem dX9_init_37 : decode cX9_init 37 = .ok (.aload_n 0, 1) := by decide +kernel
theorem dX9_init_38 : decode cX9_init 38 = .ok (.new 26, 3) := by decide +kernel
theorem dX9_init_41 : decode cX9_init 41 = .ok (.dup, 1) := by decide +kernel
theorem dX9_init_42 : decode cX9_init 42 = .ok (.invokespecial 28, 3) := by decide +kernel
theorem dX9_init_45 : decode cX9_init 45 = .ok (.putfield 29, 3) := by decide +kernel
theorem dX9_init_48 : decode cX9_init 48 = .ok (.aload_n 0, 1) := by decide +kernel
theorem dX9_init_49 : decode cX9_init 49 = .ok (.new 33, 3) := by decide +kernel
theorem dX9_init_52 : decode cX9_init 52 = .ok (.dup, 1) := by decide +kernel
theorem dX9_init_53 : decode cX9_init 53 = .ok (.invokespecial 35, 3) := by decide +kernel
theorem dX9_init_56 : decode cX9_init 56 = .ok (.putfield 36, 3) := by decide +kernel
theorem dX9_init_59 : decode cX9_init 59 = .ok (.aload_n 0, 1) := by decide +kernel
theorem dX9_init_60 : decode cX9_init 60 = .ok (.iconst 2, 1) := by decide +kernel
theorem dX9_init_61 : decode cX9_init 61 = .ok (.anewarray 7, 3) := by decide +kernel
theorem dX9_init_64 : decode cX9_init 64 = .ok (.putfield 40, 3) := by decide +kernel
theorem dX9_init_67 : decode cX9_init 67 = .ok (.aload_n 0, 1) := by decide +kernel
theorem dX9_init_68 : decode cX9_init 68 = .ok (.iconst 2, 1) := by decide +kernel
theorem dX9_init_69 : decode cX9_init 69 = .ok (.newarray .boolean, 2) := by decide +kernel
theorem dX9_init_71 : decode cX9_init 71 = .ok (.putfield 44, 3) := by decide +kernel
theorem dX9_init_74 : decode cX9_init 74 = .ok (.iconst 0, 1) := by decide +kernel
theorem dX9_init_75 : decode cX9_init 75 = .ok (.istore_n 1, 1) := by decide +kernel
theorem dX9_init_76 : decode cX9_init 76 = .ok (.iload_n 1, 1) := by decide +kernel
theorem dX9_init_77 : decode cX9_init 77 = .ok (.aload_n 0, 1) := by decide +kernel
theorem dX9_init_78 : decode cX9_init 78 = .ok (.getfield 40, 3) := by decide +kernel
theorem dX9_init_81 : decode cX9_init 81 = .ok (.arraylength, 1) := by decide +kernel
theorem dX9_init_82 : decode cX9_init 82 = .ok (.if_icmp .ge 22, 3) := by decide +kernel
theorem dX9_init_85 : decode cX9_init 85 = .ok (.aload_n 0, 1) := by decide +kernel
theorem dX9_init_86 : decode cX9_init 86 = .ok (.getfield 40, 3) := by decide +kernel
theorem dX9_init_89 : decode cX9_init 89 = .ok (.iload_n 1, 1) := by decide +kernel
theorem dX9_init_90 : decode cX9_init 90 = .ok (.new 7, 3) := by decide +kernel
theorem dX9_init_93 : decode cX9_init 93 = .ok (.dup, 1) := by decide +kernel
theorem dX9_init_94 : decode cX9_init 94 = .ok (.invokespecial 9, 3) := by decide +kernel
theorem dX9_init_97 : decode cX9_init 97 = .ok (.aastore, 1) := by decide +kernel
theorem dX9_init_98 : decode cX9_init 98 = .ok (.iinc 1 1, 3) := by decide +kernel
theorem dX9_init_101 : decode cX9_init 101 = .ok (.goto (-25), 3) := by decide +kernel
theorem dX9_init_104 : decode cX9_init 104 = .ok (.aload_n 0, 1) := by decide +kernel
theorem dX9_init_105 : decode cX9_init 105 = .ok (.getfield 22, 3) := by decide +kernel
theorem dX9_init_108 : decode cX9_init 108 = .ok (.getfield 48, 3) := by decide +kernel
theorem dX9_init_111 : decode cX9_init 111 = .ok (.ldc 52, 2) := by decide +kernel
theorem dX9_init_113 : decode cX9_init 113 = .ok (.invokevirtual 54, 3) := by decide +kernel
theorem dX9_init_116 : decode cX9_init 116 = .ok (.aload_n 0, 1) := by decide +kernel
theorem dX9_init_117 : decode cX9_init 117 = .ok (.getfield 22, 3) := by decide +kernel
theorem dX9_init_120 : decode cX9_init 120 = .ok (.invokevirtual 60, 3) := by decide +kernel
theorem dX9_init_123 : decode cX9_init 123 = .ok (.aload_n 0, 1) := by decide +kernel
theorem dX9_init_124 : decode cX9_init 124 = .ok (.getfield 10, 3) := by decide +kernel
theorem dX9_init_127 : decode cX9_init 127 = .ok (.aload_n 0, 1) := by decide +kernel
theorem dX9_init_128 : decode cX9_init 128 = .ok (.getfield 22, 3) := by decide +kernel
theorem dX9_init_131 : decode cX9_init 131 = .ok (.getfield 63, 3) := by decide +kernel
theorem dX9_init_134 : decode cX9_init 134 = .ok (.invokevirtual 66, 3) := by decide +kernel
theorem dX9_init_137 : decode cX9_init 137 = .ok (.return_, 1) := by decide +kernel
theorem dX9_appendInput_0 : decode cX9_appendInput 0 = .ok (.aload_n 0, 1) := by decide +kernel
theorem dX9_appendInput_1 : decode cX9_appendInput 1 = .ok (.getfield 22, 3) := by decide +kernel
theorem dX9_appendInput_4 : decode cX9_appendInput 4 = .ok (.getfield 48, 3) := by decide +kernel
theorem dX9_appendInput_7 : decode cX9_appendInput 7 = .ok (.astore 6, 2) := by decide +kernel
theorem dX9_appendInput_9 : decode cX9_appendInput 9 = .ok (.aload 6, 2) := by decide +kernel
theorem dX9_appendInput_11 : decode cX9_appendInput 11 = .ok (.getfield 70, 3) := by decide +kernel
theorem dX9_appendInput_14 : decode cX9_appendInput 14 = .ok (.bipush 20, 2) := by decide +kernel
theorem dX9_appendInput_16 : decode cX9_appendInput 16 = .ok (.iadd, 1) := by decide +kernel
theorem dX9_appendInput_17 : decode cX9_appendInput 17 = .ok (.sipush 600, 3) := by decide +kernel
theorem dX9_appendInput_20 : decode cX9_appendInput 20 = .ok (.if_icmp .le 13, 3) := by decide +kernel
theorem dX9_appendInput_23 : decode cX9_appendInput 23 = .ok (.new 74, 3) := by decide +kernel
theorem dX9_appendInput_26 : decode cX9_appendInput 26 = .ok (.dup, 1) := by decide +kernel
theorem dX9_appendInput_27 : decode cX9_appendInput 27 = .ok (.ldc 76, 2) := by decide +kernel
theorem dX9_appendInput_29 : decode cX9_appendInput 29 = .ok (.invokespecial 78, 3) := by decide +kernel
theorem dX9_appendInput_32 : decode cX9_appendInput 32 = .ok (.athrow, 1) := by decide +kernel
theorem dX9_appendInput_33 : decode cX9_appendInput 33 = .ok (.aload 6, 2) := by decide +kernel
theorem dX9_appendInput_35 : decode cX9_appendInput 35 = .ok (.iload_n 1, 1) := by decide +kernel
theorem dX9_appendInput_36 : decode cX9_appendInput 36 = .ok (.invokevirtual 80, 3) := by decide +kernel
theorem dX9_appendInput_39 : decode cX9_appendInput 39 = .ok (.aload 6, 2) := by decide +kernel
theorem dX9_appendInput_41 : decode cX9_appendInput 41 = .ok (.iload_n 2, 1) := by decide +kernel
theorem dX9_appendInput_42 : decode cX9_appendInput 42 = .ok (.invokevirtual 80, 3) := by decide +kernel
theorem dX9_appendInput_45 : decode cX9_appendInput 45 = .ok (.aload 6, 2) := by decide +kernel
theorem dX9_appendInput_47 : decode cX9_appendInput 47 = .ok (.iload_n 3, 1) := by decide +kernel
theorem dX9_appendInput_48 : decode cX9_appendInput 48 = .ok (.invokevirtual 80, 3) := by decide +kernel
theorem dX9_appendInput_51 : decode cX9_appendInput 51 = .ok (.aload 6, 2) := by decide +kernel
theorem dX9_appendInput_53 : decode cX9_appendInput 53 = .ok (.iload 4, 2) := by decide +kernel
theorem dX9_appendInput_55 : decode cX9_appendInput 55 = .ok (.invokevirtual 80, 3) := by decide +kernel
theorem dX9_appendInput_58 : decode cX9_appendInput 58 = .ok (.aload 6, 2) := by decide +kernel
theorem dX9_appendInput_60 : decode cX9_appendInput 60 = .ok (.iload 5, 2) := by decide +kernel
theorem dX9_appendInput_62 : decode cX9_appendInput 62 = .ok (.invokevirtual 80, 3) := by decide +kernel
theorem dX9_appendInput_65 : decode cX9_appendInput 65 = .ok (.aload 6, 2) := by decide +kernel
theorem dX9_appendInput_67 : decode cX9_appendInput 67 = .ok (.getfield 70, 3) := by decide +kernel
theorem dX9_appendInput_70 : decode cX9_appendInput 70 = .ok (.ireturn, 1) := by decide +kernel
theorem dX9_truncateInput_0 : decode cX9_truncateInput 0 = .ok (.iload_n 1, 1) := by decide +kernel
theorem dX9_truncateInput_1 : decode cX9_truncateInput 1 = .ok (.ifCond .lt 17, 3) := by decide +kernel
theorem dX9_truncateInput_4 : decode cX9_truncateInput 4 = .ok (.iload_n 1, 1) := by decide +kernel
theorem dX9_truncateInput_5 : decode cX9_truncateInput 5 = .ok (.aload_n 0, 1) := by decide +kernel
theorem dX9_truncateInput_6 : decode cX9_truncateInput 6 = .ok (.getfield 22, 3) := by decide +kernel
theorem dX9_truncateInput_9 : decode cX9_truncateInput 9 = .ok (.getfield 48, 3) := by decide +kernel
theorem dX9_truncateInput_12 : decode cX9_truncateInput 12 = .ok (.getfield 70, 3) := by decide +kernel
theorem dX9_truncateInput_15 : decode cX9_truncateInput 15 = .ok (.if_icmp .le 13, 3) := by decide +kernel
theorem dX9_truncateInput_18 : decode cX9_truncateInput 18 = .ok (.new 84, 3) := by decide +kernel
theorem dX9_truncateInput_21 : decode cX9_truncateInput 21 = .ok (.dup, 1) := by decide +kernel
theorem dX9_truncateInput_22 : decode cX9_truncateInput 22 = .ok (.ldc 86, 2) := by decide +kernel
theorem dX9_truncateInput_24 : decode cX9_truncateInput 24 = .ok (.invokespecial 88, 3) := by decide +kernel
theorem dX9_truncateInput_27 : decode cX9_truncateInput 27 = .ok (.athrow, 1) := by decide +kernel
theorem dX9_truncateInput_28 : decode cX9_truncateInput 28 = .ok (.aload_n 0, 1) := by decide +kernel
theorem dX9_truncateInput_29 : decode cX9_truncateInput 29 = .ok (.getfield 22, 3) := by decide +kernel
theorem dX9_truncateInput_32 : decode cX9_truncateInput 32 = .ok (.getfield 48, 3) := by decide +kernel
theorem dX9_truncateInput_35 : decode cX9_truncateInput 35 = .ok (.iload_n 1, 1) := by decide +kernel
theorem dX9_truncateInput_36 : decode cX9_truncateInput 36 = .ok (.putfield 70, 3) := by decide +kernel
theorem dX9_truncateInput_39 : decode cX9_truncateInput 39 = .ok (.iload_n 1, 1) := by decide +kernel
theorem dX9_truncateInput_40 : decode cX9_truncateInput 40 = .ok (.ireturn, 1) := by decide +kernel
theorem dX9_load_0 : decode cX9_load 0 = .ok (.aload_n 0, 1) := by decide +kernel
theorem dX9_load_1 : decode cX9_load 1 = .ok (.getfield 22, 3) := by decide +kernel
theorem dX9_load_4 : decode cX9_load 4 = .ok (.invokevirtual 60, 3) := by decide +kernel
theorem dX9_load_7 : decode cX9_load 7 = .ok (.aload_n 0, 1) := by decide +kernel
theorem dX9_load_8 : decode cX9_load 8 = .ok (.getfield 22, 3) := by decide +kernel
theorem dX9_load_11 : decode cX9_load 11 = .ok (.getfield 89, 3) := by decide +kernel
theorem dX9_load_14 : decode cX9_load 14 = .ok (.ifCond .eq 13, 3) := by decide +kernel
theorem dX9_load_17 : decode cX9_load 17 = .ok (.new 84, 3) := by decide +kernel
theorem dX9_load_20 : decode cX9_load 20 = .ok (.dup, 1) := by decide +kernel
theorem dX9_load_21 : decode cX9_load 21 = .ok (.ldc 92, 2) := by decide +kernel
theorem dX9_load_23 : decode cX9_load 23 = .ok (.invokespecial 88, 3) := by decide +kernel
theorem dX9_load_26 : decode cX9_load 26 = .ok (.athrow, 1) := by decide +kernel
theorem dX9_load_27 : decode cX9_load 27 = .ok (.aload_n 0, 1) := by decide +kernel
theorem dX9_load_28 : decode cX9_load 28 = .ok (.getfield 29, 3) := by decide +kernel
theorem dX9_load_31 : decode cX9_load 31 = .ok (.aload_n 0, 1) := by decide +kernel
theorem dX9_load_32 : decode cX9_load 32 = .ok (.getfield 10, 3) := by decide +kernel
theorem dX9_load_35 : decode cX9_load 35 = .ok (.invokevirtual 94, 3) := by decide +kernel
theorem dX9_load_38 : decode cX9_load 38 = .ok (.aload_n 0, 1) := by decide +kernel
theorem dX9_load_39 : decode cX9_load 39 = .ok (.getfield 10, 3) := by decide +kernel
theorem dX9_load_42 : decode cX9_load 42 = .ok (.aload_n 0, 1) := by decide +kernel
theorem dX9_load_43 : decode cX9_load 43 = .ok (.getfield 22, 3) := by decide +kernel
theorem dX9_load_46 : decode cX9_load 46 = .ok (.getfield 63, 3) := by decide +kernel
theorem dX9_load_49 : decode cX9_load 49 = .ok (.invokevirtual 66, 3) := by decide +kernel
theorem dX9_load_52 : decode cX9_load 52 = .ok (.aload_n 0, 1) := by decide +kernel
theorem dX9_load_53 : decode cX9_load 53 = .ok (.getfield 10, 3) := by decide +kernel
theorem dX9_load_56 : decode cX9_load 56 = .ok (.getfield 97, 3) := by decide +kernel
theorem dX9_load_59 : decode cX9_load 59 = .ok (.ireturn, 1) := by decide +kernel
theorem dX9_errorCode_0 : decode cX9_errorCode 0 = .ok (.aload_n 0, 1) := by decide +kernel
theorem dX9_errorCode_1 : decode cX9_errorCode 1 = .ok (.getfield 22, 3) := by decide +kernel
theorem dX9_errorCode_4 : decode cX9_errorCode 4 = .ok (.getfield 89, 3) := by decide +kernel
theorem dX9_errorCode_7 : decode cX9_errorCode 7 = .ok (.ireturn, 1) := by decide +kernel
theorem dX9_errorPosition_0 : decode cX9_errorPosition 0 = .ok (.aload_n 0, 1) := by decide +kernel
theorem dX9_errorPosition_1 : decode cX9_errorPosition 1 = .ok (.getfield 22, 3) := by decide +kernel
theorem dX9_errorPosition_4 : decode cX9_errorPosition 4 = .ok (.getfield 100, 3) := by decide +kernel
theorem dX9_errorPosition_7 : decode cX9_errorPosition 7 = .ok (.ireturn, 1) := by decide +kernel
theorem dX9_clock_0 : decode cX9_clock 0 = .ok (.aload_n 0, 1) := by decide +kernel
theorem dX9_clock_1 : decode cX9_clock 1 = .ok (.getfield 10, 3) := by decide +kernel
theorem dX9_clock_4 : decode cX9_clock 4 = .ok (.getfield 103, 3) := by decide +kernel
theorem dX9_clock_7 : decode cX9_clock 7 = .ok (.ireturn, 1) := by decide +kernel
theorem dX9_stationCount_0 : decode cX9_stationCount 0 = .ok (.aload_n 0, 1) := by decide +kernel
theorem dX9_stationCount_1 : decode cX9_stationCount 1 = .ok (.getfield 10, 3) := by decide +kernel
theorem dX9_stationCount_4 : decode cX9_stationCount 4 = .ok (.getfield 97, 3) := by decide +kernel
theorem dX9_stationCount_7 : decode cX9_stationCount 7 = .ok (.ireturn, 1) := by decide +kernel
theorem dX9_trackCount_0 : decode cX9_trackCount 0 = .ok (.aload_n 0, 1) := by decide +kernel
theorem dX9_trackCount_1 : decode cX9_trackCount 1 = .ok (.getfield 10, 3) := by decide +kernel
theorem dX9_trackCount_4 : decode cX9_trackCount 4 = .ok (.getfield 106, 3) := by decide +kernel
theorem dX9_trackCount_7 : decode cX9_trackCount 7 = .ok (.ireturn, 1) := by decide +kernel
theorem dX9_trainCount_0 : decode cX9_trainCount 0 = .ok (.aload_n 0, 1) := by decide +kernel
theorem dX9_trainCount_1 : decode cX9_trainCount 1 = .ok (.getfield 10, 3) := by decide +kernel
theorem dX9_trainCount_4 : decode cX9_trainCount 4 = .ok (.getfield 109, 3) := by decide +kernel
theorem dX9_trainCount_7 : decode cX9_trainCount 7 = .ok (.ireturn, 1) := by decide +kernel
theorem dX9_parcelCount_0 : decode cX9_parcelCount 0 = .ok (.aload_n 0, 1) := by decide +kernel
theorem dX9_parcelCount_1 : decode cX9_parcelCount 1 = .ok (.getfield 10, 3) := by decide +kernel
theorem dX9_parcelCount_4 : decode cX9_parcelCount 4 = .ok (.getfield 112, 3) := by decide +kernel
theorem dX9_parcelCount_7 : decode cX9_parcelCount 7 = .ok (.ireturn, 1) := by decide +kernel
theorem dX9_isRequestStop_0 : decode cX9_isRequestStop 0 = .ok (.aload_n 0, 1) := by decide +kernel
theorem dX9_isRequestStop_1 : decode cX9_isRequestStop 1 = .ok (.iload_n 1, 1) := by decide +kernel
theorem dX9_isRequestStop_2 : decode cX9_isRequestStop 2 = .ok (.invokevirtual 115, 3) := by decide +kernel
theorem dX9_isRequestStop_5 : decode cX9_isRequestStop 5 = .ok (.aload_n 0, 1) := by decide +kernel
theorem dX9_isRequestStop_6 : decode cX9_isRequestStop 6 = .ok (.getfield 10, 3) := by decide +kernel
theorem dX9_isRequestStop_9 : decode cX9_isRequestStop 9 = .ok (.getfield 118, 3) := by decide +kernel
theorem dX9_isRequestStop_12 : decode cX9_isRequestStop 12 = .ok (.iload_n 1, 1) := by decide +kernel
theorem dX9_isRequestStop_13 : decode cX9_isRequestStop 13 = .ok (.aaload, 1) := by decide +kernel
theorem dX9_isRequestStop_14 : decode cX9_isRequestStop 14 = .ok (.getfield 122, 3) := by decide +kernel
theorem dX9_isRequestStop_17 : decode cX9_isRequestStop 17 = .ok (.ireturn, 1) := by decide +kernel
theorem dX9_inspectionTime_0 : decode cX9_inspectionTime 0 = .ok (.aload_n 0, 1) := by decide +kernel
theorem dX9_inspectionTime_1 : decode cX9_inspectionTime 1 = .ok (.iload_n 1, 1) := by decide +kernel
theorem dX9_inspectionTime_2 : decode cX9_inspectionTime 2 = .ok (.invokevirtual 115, 3) := by decide +kernel
theorem dX9_inspectionTime_5 : decode cX9_inspectionTime 5 = .ok (.aload_n 0, 1) := by decide +kernel
theorem dX9_inspectionTime_6 : decode cX9_inspectionTime 6 = .ok (.getfield 10, 3) := by decide +kernel
theorem dX9_inspectionTime_9 : decode cX9_inspectionTime 9 = .ok (.getfield 118, 3) := by decide +kernel
theorem dX9_inspectionTime_12 : decode cX9_inspectionTime 12 = .ok (.iload_n 1, 1) := by decide +kernel
theorem dX9_inspectionTime_13 : decode cX9_inspectionTime 13 = .ok (.aaload, 1) := by decide +kernel
theorem dX9_inspectionTime_14 : decode cX9_inspectionTime 14 = .ok (.getfield 128, 3) := by decide +kernel
theorem dX9_inspectionTime_17 : decode cX9_inspectionTime 17 = .ok (.ireturn, 1) := by decide +kernel
theorem dX9_waitingCount_0 : decode cX9_waitingCount 0 = .ok (.aload_n 0, 1) := by decide +kernel
theorem dX9_waitingCount_1 : decode cX9_waitingCount 1 = .ok (.iload_n 1, 1) := by decide +kernel
theorem dX9_waitingCount_2 : decode cX9_waitingCount 2 = .ok (.invokevirtual 115, 3) := by decide +kernel
theorem dX9_waitingCount_5 : decode cX9_waitingCount 5 = .ok (.aload_n 0, 1) := by decide +kernel
theorem dX9_waitingCount_6 : decode cX9_waitingCount 6 = .ok (.getfield 10, 3) := by decide +kernel
theorem dX9_waitingCount_9 : decode cX9_waitingCount 9 = .ok (.iload_n 1, 1) := by decide +kernel
theorem dX9_waitingCount_10 : decode cX9_waitingCount 10 = .ok (.invokevirtual 131, 3) := by decide +kernel
theorem dX9_waitingCount_13 : decode cX9_waitingCount 13 = .ok (.ireturn, 1) := by decide +kernel
theorem dX9_waitingParcel_0 : decode cX9_waitingParcel 0 = .ok (.aload_n 0, 1) := by decide +kernel
theorem dX9_waitingParcel_1 : decode cX9_waitingParcel 1 = .ok (.iload_n 1, 1) := by decide +kernel
theorem dX9_waitingParcel_2 : decode cX9_waitingParcel 2 = .ok (.invokevirtual 115, 3) := by decide +kernel
theorem dX9_waitingParcel_5 : decode cX9_waitingParcel 5 = .ok (.aload_n 0, 1) := by decide +kernel
theorem dX9_waitingParcel_6 : decode cX9_waitingParcel 6 = .ok (.getfield 10, 3) := by decide +kernel
theorem dX9_waitingParcel_9 : decode cX9_waitingParcel 9 = .ok (.iload_n 1, 1) := by decide +kernel
theorem dX9_waitingParcel_10 : decode cX9_waitingParcel 10 = .ok (.iload_n 2, 1) := by decide +kernel
theorem dX9_waitingParcel_11 : decode cX9_waitingParcel 11 = .ok (.invokevirtual 135, 3) := by decide +kernel
theorem dX9_waitingParcel_14 : decode cX9_waitingParcel 14 = .ok (.istore_n 3, 1) := by decide +kernel
theorem dX9_waitingParcel_15 : decode cX9_waitingParcel 15 = .ok (.iload_n 3, 1) := by decide +kernel
theorem dX9_waitingParcel_16 : decode cX9_waitingParcel 16 = .ok (.iconst (-1), 1) := by decide +kernel
theorem dX9_waitingParcel_17 : decode cX9_waitingParcel 17 = .ok (.if_icmp .ne 13, 3) := by decide +kernel
theorem dX9_waitingParcel_20 : decode cX9_waitingParcel 20 = .ok (.new 139, 3) := by decide +kernel
theorem dX9_waitingParcel_23 : decode cX9_waitingParcel 23 = .ok (.dup, 1) := by decide +kernel
theorem dX9_waitingParcel_24 : decode cX9_waitingParcel 24 = .ok (.ldc 141, 2) := by decide +kernel
theorem dX9_waitingParcel_26 : decode cX9_waitingParcel 26 = .ok (.invokespecial 143, 3) := by decide +kernel
theorem dX9_waitingParcel_29 : decode cX9_waitingParcel 29 = .ok (.athrow, 1) := by decide +kernel
theorem dX9_waitingParcel_30 : decode cX9_waitingParcel 30 = .ok (.iload_n 3, 1) := by decide +kernel
theorem dX9_waitingParcel_31 : decode cX9_waitingParcel 31 = .ok (.ireturn, 1) := by decide +kernel
theorem dX9_travelTime_0 : decode cX9_travelTime 0 = .ok (.aload_n 0, 1) := by decide +kernel
theorem dX9_travelTime_1 : decode cX9_travelTime 1 = .ok (.iload_n 1, 1) := by decide +kernel
theorem dX9_travelTime_2 : decode cX9_travelTime 2 = .ok (.invokevirtual 115, 3) := by decide +kernel
theorem dX9_travelTime_5 : decode cX9_travelTime 5 = .ok (.aload_n 0, 1) := by decide +kernel
theorem dX9_travelTime_6 : decode cX9_travelTime 6 = .ok (.iload_n 2, 1) := by decide +kernel
theorem dX9_travelTime_7 : decode cX9_travelTime 7 = .ok (.invokevirtual 115, 3) := by decide +kernel
theorem dX9_travelTime_10 : decode cX9_travelTime 10 = .ok (.aload_n 0, 1) := by decide +kernel
theorem dX9_travelTime_11 : decode cX9_travelTime 11 = .ok (.getfield 10, 3) := by decide +kernel
theorem dX9_travelTime_14 : decode cX9_travelTime 14 = .ok (.iload_n 1, 1) := by decide +kernel
theorem dX9_travelTime_15 : decode cX9_travelTime 15 = .ok (.iload_n 2, 1) := by decide +kernel
theorem dX9_travelTime_16 : decode cX9_travelTime 16 = .ok (.invokevirtual 144, 3) := by decide +kernel
theorem dX9_travelTime_19 : decode cX9_travelTime 19 = .ok (.istore_n 3, 1) := by decide +kernel
theorem dX9_travelTime_20 : decode cX9_travelTime 20 = .ok (.iload_n 3, 1) := by decide +kernel
theorem dX9_travelTime_21 : decode cX9_travelTime 21 = .ok (.iconst (-1), 1) := by decide +kernel
theorem dX9_travelTime_22 : decode cX9_travelTime 22 = .ok (.if_icmp .ne 7, 3) := by decide +kernel
theorem dX9_travelTime_25 : decode cX9_travelTime 25 = .ok (.iconst (-1), 1) := by decide +kernel
theorem dX9_travelTime_26 : decode cX9_travelTime 26 = .ok (.goto 15, 3) := by decide +kernel
theorem dX9_travelTime_29 : decode cX9_travelTime 29 = .ok (.aload_n 0, 1) := by decide +kernel
theorem dX9_travelTime_30 : decode cX9_travelTime 30 = .ok (.getfield 10, 3) := by decide +kernel
theorem dX9_travelTime_33 : decode cX9_travelTime 33 = .ok (.getfield 147, 3) := by decide +kernel
theorem dX9_travelTime_36 : decode cX9_travelTime 36 = .ok (.iload_n 3, 1) := by decide +kernel
theorem dX9_travelTime_37 : decode cX9_travelTime 37 = .ok (.aaload, 1) := by decide +kernel
theorem dX9_travelTime_38 : decode cX9_travelTime 38 = .ok (.getfield 151, 3) := by decide +kernel
theorem dX9_travelTime_41 : decode cX9_travelTime 41 = .ok (.ireturn, 1) := by decide +kernel
theorem dX9_isTrackOpen_0 : decode cX9_isTrackOpen 0 = .ok (.aload_n 0, 1) := by decide +kernel
theorem dX9_isTrackOpen_1 : decode cX9_isTrackOpen 1 = .ok (.iload_n 1, 1) := by decide +kernel
theorem dX9_isTrackOpen_2 : decode cX9_isTrackOpen 2 = .ok (.invokevirtual 115, 3) := by decide +kernel
theorem dX9_isTrackOpen_5 : decode cX9_isTrackOpen 5 = .ok (.aload_n 0, 1) := by decide +kernel
theorem dX9_isTrackOpen_6 : decode cX9_isTrackOpen 6 = .ok (.iload_n 2, 1) := by decide +kernel
theorem dX9_isTrackOpen_7 : decode cX9_isTrackOpen 7 = .ok (.invokevirtual 115, 3) := by decide +kernel
theorem dX9_isTrackOpen_10 : decode cX9_isTrackOpen 10 = .ok (.aload_n 0, 1) := by decide +kernel
theorem dX9_isTrackOpen_11 : decode cX9_isTrackOpen 11 = .ok (.getfield 10, 3) := by decide +kernel
theorem dX9_isTrackOpen_14 : decode cX9_isTrackOpen 14 = .ok (.iload_n 1, 1) := by decide +kernel
theorem dX9_isTrackOpen_15 : decode cX9_isTrackOpen 15 = .ok (.iload_n 2, 1) := by decide +kernel
theorem dX9_isTrackOpen_16 : decode cX9_isTrackOpen 16 = .ok (.invokevirtual 144, 3) := by decide +kernel
theorem dX9_isTrackOpen_19 : decode cX9_isTrackOpen 19 = .ok (.istore_n 3, 1) := by decide +kernel
theorem dX9_isTrackOpen_20 : decode cX9_isTrackOpen 20 = .ok (.iload_n 3, 1) := by decide +kernel
theorem dX9_isTrackOpen_21 : decode cX9_isTrackOpen 21 = .ok (.iconst (-1), 1) := by decide +kernel
theorem dX9_isTrackOpen_22 : decode cX9_isTrackOpen 22 = .ok (.if_icmp .eq 22, 3) := by decide +kernel
theorem dX9_isTrackOpen_25 : decode cX9_isTrackOpen 25 = .ok (.aload_n 0, 1) := by decide +kernel
theorem dX9_isTrackOpen_26 : decode cX9_isTrackOpen 26 = .ok (.getfield 10, 3) := by decide +kernel
theorem dX9_isTrackOpen_29 : decode cX9_isTrackOpen 29 = .ok (.getfield 147, 3) := by decide +kernel
theorem dX9_isTrackOpen_32 : decode cX9_isTrackOpen 32 = .ok (.iload_n 3, 1) := by decide +kernel
theorem dX9_isTrackOpen_33 : decode cX9_isTrackOpen 33 = .ok (.aaload, 1) := by decide +kernel
theorem dX9_isTrackOpen_34 : decode cX9_isTrackOpen 34 = .ok (.getfield 156, 3) := by decide +kernel
theorem dX9_isTrackOpen_37 : decode cX9_isTrackOpen 37 = .ok (.ifCond .eq 7, 3) := by decide +kernel
theorem dX9_isTrackOpen_40 : decode cX9_isTrackOpen 40 = .ok (.iconst 1, 1) := by decide +kernel
theorem dX9_isTrackOpen_41 : decode cX9_isTrackOpen 41 = .ok (.goto 4, 3) := by decide +kernel
theorem dX9_isTrackOpen_44 : decode cX9_isTrackOpen 44 = .ok (.iconst 0, 1) := by decide +kernel
theorem dX9_isTrackOpen_45 : decode cX9_isTrackOpen 45 = .ok (.ireturn, 1) := by decide +kernel
theorem dX9_distance_0 : decode cX9_distance 0 = .ok (.aload_n 0, 1) := by decide +kernel
theorem dX9_distance_1 : decode cX9_distance 1 = .ok (.iload_n 1, 1) := by decide +kernel
theorem dX9_distance_2 : decode cX9_distance 2 = .ok (.invokevirtual 115, 3) := by decide +kernel
theorem dX9_distance_5 : decode cX9_distance 5 = .ok (.aload_n 0, 1) := by decide +kernel
theorem dX9_distance_6 : decode cX9_distance 6 = .ok (.iload_n 2, 1) := by decide +kernel
theorem dX9_distance_7 : decode cX9_distance 7 = .ok (.invokevirtual 115, 3) := by decide +kernel
theorem dX9_distance_10 : decode cX9_distance 10 = .ok (.aload_n 0, 1) := by decide +kernel
theorem dX9_distance_11 : decode cX9_distance 11 = .ok (.getfield 10, 3) := by decide +kernel
theorem dX9_distance_14 : decode cX9_distance 14 = .ok (.iload_n 1, 1) := by decide +kernel
theorem dX9_distance_15 : decode cX9_distance 15 = .ok (.iload_n 2, 1) := by decide +kernel
theorem dX9_distance_16 : decode cX9_distance 16 = .ok (.invokevirtual 159, 3) := by decide +kernel
theorem dX9_distance_19 : decode cX9_distance 19 = .ok (.istore_n 3, 1) := by decide +kernel
theorem dX9_distance_20 : decode cX9_distance 20 = .ok (.iload_n 3, 1) := by decide +kernel
theorem dX9_distance_21 : decode cX9_distance 21 = .ok (.sipush 1000, 3) := by decide +kernel
theorem dX9_distance_24 : decode cX9_distance 24 = .ok (.if_icmp .ne 7, 3) := by decide +kernel
theorem dX9_distance_27 : decode cX9_distance 27 = .ok (.iconst (-1), 1) := by decide +kernel
theorem dX9_distance_28 : decode cX9_distance 28 = .ok (.goto 4, 3) := by decide +kernel
theorem dX9_distance_31 : decode cX9_distance 31 = .ok (.iload_n 3, 1) := by decide +kernel
theorem dX9_distance_32 : decode cX9_distance 32 = .ok (.ireturn, 1) := by decide +kernel
theorem dX9_capacity_0 : decode cX9_capacity 0 = .ok (.aload_n 0, 1) := by decide +kernel
theorem dX9_capacity_1 : decode cX9_capacity 1 = .ok (.iload_n 1, 1) := by decide +kernel
theorem dX9_capacity_2 : decode cX9_capacity 2 = .ok (.invokevirtual 162, 3) := by decide +kernel
theorem dX9_capacity_5 : decode cX9_capacity 5 = .ok (.aload_n 0, 1) := by decide +kernel
theorem dX9_capacity_6 : decode cX9_capacity 6 = .ok (.getfield 10, 3) := by decide +kernel
theorem dX9_capacity_9 : decode cX9_capacity 9 = .ok (.getfield 165, 3) := by decide +kernel
theorem dX9_capacity_12 : decode cX9_capacity 12 = .ok (.iload_n 1, 1) := by decide +kernel
theorem dX9_capacity_13 : decode cX9_capacity 13 = .ok (.aaload, 1) := by decide +kernel
theorem dX9_capacity_14 : decode cX9_capacity 14 = .ok (.getfield 169, 3) := by decide +kernel
theorem dX9_capacity_17 : decode cX9_capacity 17 = .ok (.ireturn, 1) := by decide +kernel
theorem dX9_routeLength_0 : decode cX9_routeLength 0 = .ok (.aload_n 0, 1) := by decide +kernel
theorem dX9_routeLength_1 : decode cX9_routeLength 1 = .ok (.iload_n 1, 1) := by decide +kernel
theorem dX9_routeLength_2 : decode cX9_routeLength 2 = .ok (.invokevirtual 162, 3) := by decide +kernel
theorem dX9_routeLength_5 : decode cX9_routeLength 5 = .ok (.aload_n 0, 1) := by decide +kernel
theorem dX9_routeLength_6 : decode cX9_routeLength 6 = .ok (.getfield 10, 3) := by decide +kernel
theorem dX9_routeLength_9 : decode cX9_routeLength 9 = .ok (.getfield 165, 3) := by decide +kernel
theorem dX9_routeLength_12 : decode cX9_routeLength 12 = .ok (.iload_n 1, 1) := by decide +kernel
theorem dX9_routeLength_13 : decode cX9_routeLength 13 = .ok (.aaload, 1) := by decide +kernel
theorem dX9_routeLength_14 : decode cX9_routeLength 14 = .ok (.getfield 174, 3) := by decide +kernel
theorem dX9_routeLength_17 : decode cX9_routeLength 17 = .ok (.ireturn, 1) := by decide +kernel
theorem dX9_routeStation_0 : decode cX9_routeStation 0 = .ok (.aload_n 0, 1) := by decide +kernel
theorem dX9_routeStation_1 : decode cX9_routeStation 1 = .ok (.iload_n 1, 1) := by decide +kernel
theorem dX9_routeStation_2 : decode cX9_routeStation 2 = .ok (.invokevirtual 162, 3) := by decide +kernel
theorem dX9_routeStation_5 : decode cX9_routeStation 5 = .ok (.aload_n 0, 1) := by decide +kernel
theorem dX9_routeStation_6 : decode cX9_routeStation 6 = .ok (.getfield 10, 3) := by decide +kernel
theorem dX9_routeStation_9 : decode cX9_routeStation 9 = .ok (.getfield 165, 3) := by decide +kernel
theorem dX9_routeStation_12 : decode cX9_routeStation 12 = .ok (.iload_n 1, 1) := by decide +kernel
theorem dX9_routeStation_13 : decode cX9_routeStation 13 = .ok (.aaload, 1) := by decide +kernel
theorem dX9_routeStation_14 : decode cX9_routeStation 14 = .ok (.iload_n 2, 1) := by decide +kernel
theorem dX9_routeStation_15 : decode cX9_routeStation 15 = .ok (.invokevirtual 177, 3) := by decide +kernel
theorem dX9_routeStation_18 : decode cX9_routeStation 18 = .ok (.istore_n 3, 1) := by decide +kernel
theorem dX9_routeStation_19 : decode cX9_routeStation 19 = .ok (.iload_n 3, 1) := by decide +kernel
theorem dX9_routeStation_20 : decode cX9_routeStation 20 = .ok (.iconst (-1), 1) := by decide +kernel
theorem dX9_routeStation_21 : decode cX9_routeStation 21 = .ok (.if_icmp .ne 13, 3) := by decide +kernel
theorem dX9_routeStation_24 : decode cX9_routeStation 24 = .ok (.new 139, 3) := by decide +kernel
theorem dX9_routeStation_27 : decode cX9_routeStation 27 = .ok (.dup, 1) := by decide +kernel
theorem dX9_routeStation_28 : decode cX9_routeStation 28 = .ok (.ldc 141, 2) := by decide +kernel
theorem dX9_routeStation_30 : decode cX9_routeStation 30 = .ok (.invokespecial 143, 3) := by decide +kernel
theorem dX9_routeStation_33 : decode cX9_routeStation 33 = .ok (.athrow, 1) := by decide +kernel
theorem dX9_routeStation_34 : decode cX9_routeStation 34 = .ok (.iload_n 3, 1) := by decide +kernel
theorem dX9_routeStation_35 : decode cX9_routeStation 35 = .ok (.ireturn, 1) := by decide +kernel
theorem dX9_carriedCount_0 : decode cX9_carriedCount 0 = .ok (.aload_n 0, 1) := by decide +kernel
theorem dX9_carriedCount_1 : decode cX9_carriedCount 1 = .ok (.iload_n 1, 1) := by decide +kernel
theorem dX9_carriedCount_2 : decode cX9_carriedCount 2 = .ok (.invokevirtual 162, 3) := by decide +kernel
theorem dX9_carriedCount_5 : decode cX9_carriedCount 5 = .ok (.aload_n 0, 1) := by decide +kernel
theorem dX9_carriedCount_6 : decode cX9_carriedCount 6 = .ok (.getfield 10, 3) := by decide +kernel
theorem dX9_carriedCount_9 : decode cX9_carriedCount 9 = .ok (.iload_n 1, 1) := by decide +kernel
theorem dX9_carriedCount_10 : decode cX9_carriedCount 10 = .ok (.invokevirtual 180, 3) := by decide +kernel
theorem dX9_carriedCount_13 : decode cX9_carriedCount 13 = .ok (.ireturn, 1) := by decide +kernel
theorem dX9_carriedParcel_0 : decode cX9_carriedParcel 0 = .ok (.aload_n 0, 1) := by decide +kernel
theorem dX9_carriedParcel_1 : decode cX9_carriedParcel 1 = .ok (.iload_n 1, 1) := by decide +kernel
theorem dX9_carriedParcel_2 : decode cX9_carriedParcel 2 = .ok (.invokevirtual 162, 3) := by decide +kernel
theorem dX9_carriedParcel_5 : decode cX9_carriedParcel 5 = .ok (.aload_n 0, 1) := by decide +kernel
theorem dX9_carriedParcel_6 : decode cX9_carriedParcel 6 = .ok (.getfield 10, 3) := by decide +kernel
theorem dX9_carriedParcel_9 : decode cX9_carriedParcel 9 = .ok (.iload_n 1, 1) := by decide +kernel
theorem dX9_carriedParcel_10 : decode cX9_carriedParcel 10 = .ok (.iload_n 2, 1) := by decide +kernel
theorem dX9_carriedParcel_11 : decode cX9_carriedParcel 11 = .ok (.invokevirtual 183, 3) := by decide +kernel
theorem dX9_carriedParcel_14 : decode cX9_carriedParcel 14 = .ok (.istore_n 3, 1) := by decide +kernel
theorem dX9_carriedParcel_15 : decode cX9_carriedParcel 15 = .ok (.iload_n 3, 1) := by decide +kernel
theorem dX9_carriedParcel_16 : decode cX9_carriedParcel 16 = .ok (.iconst (-1), 1) := by decide +kernel
theorem dX9_carriedParcel_17 : decode cX9_carriedParcel 17 = .ok (.if_icmp .ne 13, 3) := by decide +kernel
theorem dX9_carriedParcel_20 : decode cX9_carriedParcel 20 = .ok (.new 139, 3) := by decide +kernel
theorem dX9_carriedParcel_23 : decode cX9_carriedParcel 23 = .ok (.dup, 1) := by decide +kernel
theorem dX9_carriedParcel_24 : decode cX9_carriedParcel 24 = .ok (.ldc 141, 2) := by decide +kernel
theorem dX9_carriedParcel_26 : decode cX9_carriedParcel 26 = .ok (.invokespecial 143, 3) := by decide +kernel
theorem dX9_carriedParcel_29 : decode cX9_carriedParcel 29 = .ok (.athrow, 1) := by decide +kernel
theorem dX9_carriedParcel_30 : decode cX9_carriedParcel 30 = .ok (.iload_n 3, 1) := by decide +kernel
theorem dX9_carriedParcel_31 : decode cX9_carriedParcel 31 = .ok (.ireturn, 1) := by decide +kernel
theorem dX9_trainStation_0 : decode cX9_trainStation 0 = .ok (.aload_n 0, 1) := by decide +kernel
theorem dX9_trainStation_1 : decode cX9_trainStation 1 = .ok (.iload_n 1, 1) := by decide +kernel
theorem dX9_trainStation_2 : decode cX9_trainStation 2 = .ok (.invokevirtual 162, 3) := by decide +kernel
theorem dX9_trainStation_5 : decode cX9_trainStation 5 = .ok (.aload_n 0, 1) := by decide +kernel
theorem dX9_trainStation_6 : decode cX9_trainStation 6 = .ok (.getfield 10, 3) := by decide +kernel
theorem dX9_trainStation_9 : decode cX9_trainStation 9 = .ok (.getfield 165, 3) := by decide +kernel
theorem dX9_trainStation_12 : decode cX9_trainStation 12 = .ok (.iload_n 1, 1) := by decide +kernel
theorem dX9_trainStation_13 : decode cX9_trainStation 13 = .ok (.aaload, 1) := by decide +kernel
theorem dX9_trainStation_14 : decode cX9_trainStation 14 = .ok (.invokevirtual 186, 3) := by decide +kernel
theorem dX9_trainStation_17 : decode cX9_trainStation 17 = .ok (.ireturn, 1) := by decide +kernel
theorem dX9_nextStation_0 : decode cX9_nextStation 0 = .ok (.aload_n 0, 1) := by decide +kernel
theorem dX9_nextStation_1 : decode cX9_nextStation 1 = .ok (.iload_n 1, 1) := by decide +kernel
theorem dX9_nextStation_2 : decode cX9_nextStation 2 = .ok (.invokevirtual 162, 3) := by decide +kernel
theorem dX9_nextStation_5 : decode cX9_nextStation 5 = .ok (.aload_n 0, 1) := by decide +kernel
theorem dX9_nextStation_6 : decode cX9_nextStation 6 = .ok (.getfield 10, 3) := by decide +kernel
theorem dX9_nextStation_9 : decode cX9_nextStation 9 = .ok (.getfield 165, 3) := by decide +kernel
theorem dX9_nextStation_12 : decode cX9_nextStation 12 = .ok (.iload_n 1, 1) := by decide +kernel
theorem dX9_nextStation_13 : decode cX9_nextStation 13 = .ok (.aaload, 1) := by decide +kernel
theorem dX9_nextStation_14 : decode cX9_nextStation 14 = .ok (.iconst 1, 1) := by decide +kernel
theorem dX9_nextStation_15 : decode cX9_nextStation 15 = .ok (.invokevirtual 190, 3) := by decide +kernel
theorem dX9_nextStation_18 : decode cX9_nextStation 18 = .ok (.ireturn, 1) := by decide +kernel
theorem dX9_isForward_0 : decode cX9_isForward 0 = .ok (.aload_n 0, 1) := by decide +kernel
theorem dX9_isForward_1 : decode cX9_isForward 1 = .ok (.iload_n 1, 1) := by decide +kernel
theorem dX9_isForward_2 : decode cX9_isForward 2 = .ok (.invokevirtual 162, 3) := by decide +kernel
theorem dX9_isForward_5 : decode cX9_isForward 5 = .ok (.aload_n 0, 1) := by decide +kernel
theorem dX9_isForward_6 : decode cX9_isForward 6 = .ok (.getfield 10, 3) := by decide +kernel
theorem dX9_isForward_9 : decode cX9_isForward 9 = .ok (.getfield 165, 3) := by decide +kernel
theorem dX9_isForward_12 : decode cX9_isForward 12 = .ok (.iload_n 1, 1) := by decide +kernel
theorem dX9_isForward_13 : decode cX9_isForward 13 = .ok (.aaload, 1) := by decide +kernel
theorem dX9_isForward_14 : decode cX9_isForward 14 = .ok (.getfield 193, 3) := by decide +kernel
theorem dX9_isForward_17 : decode cX9_isForward 17 = .ok (.ireturn, 1) := by decide +kernel
theorem dX9_minutesToNext_0 : decode cX9_minutesToNext 0 = .ok (.aload_n 0, 1) := by decide +kernel
theorem dX9_minutesToNext_1 : decode cX9_minutesToNext 1 = .ok (.iload_n 1, 1) := by decide +kernel
theorem dX9_minutesToNext_2 : decode cX9_minutesToNext 2 = .ok (.invokevirtual 162, 3) := by decide +kernel
theorem dX9_minutesToNext_5 : decode cX9_minutesToNext 5 = .ok (.aload_n 0, 1) := by decide +kernel
theorem dX9_minutesToNext_6 : decode cX9_minutesToNext 6 = .ok (.getfield 10, 3) := by decide +kernel
theorem dX9_minutesToNext_9 : decode cX9_minutesToNext 9 = .ok (.getfield 165, 3) := by decide +kernel
theorem dX9_minutesToNext_12 : decode cX9_minutesToNext 12 = .ok (.iload_n 1, 1) := by decide +kernel
theorem dX9_minutesToNext_13 : decode cX9_minutesToNext 13 = .ok (.aaload, 1) := by decide +kernel
theorem dX9_minutesToNext_14 : decode cX9_minutesToNext 14 = .ok (.getfield 196, 3) := by decide +kernel
theorem dX9_minutesToNext_17 : decode cX9_minutesToNext 17 = .ok (.istore_n 2, 1) := by decide +kernel
theorem dX9_minutesToNext_18 : decode cX9_minutesToNext 18 = .ok (.iload_n 2, 1) := by decide +kernel
theorem dX9_minutesToNext_19 : decode cX9_minutesToNext 19 = .ok (.ifCond .ne 7, 3) := by decide +kernel
theorem dX9_minutesToNext_22 : decode cX9_minutesToNext 22 = .ok (.iconst (-1), 1) := by decide +kernel
theorem dX9_minutesToNext_23 : decode cX9_minutesToNext 23 = .ok (.goto 4, 3) := by decide +kernel
theorem dX9_minutesToNext_26 : decode cX9_minutesToNext 26 = .ok (.iload_n 2, 1) := by decide +kernel
theorem dX9_minutesToNext_27 : decode cX9_minutesToNext 27 = .ok (.ireturn, 1) := by decide +kernel
theorem dX9_delay_0 : decode cX9_delay 0 = .ok (.aload_n 0, 1) := by decide +kernel
theorem dX9_delay_1 : decode cX9_delay 1 = .ok (.iload_n 1, 1) := by decide +kernel
theorem dX9_delay_2 : decode cX9_delay 2 = .ok (.invokevirtual 162, 3) := by decide +kernel
theorem dX9_delay_5 : decode cX9_delay 5 = .ok (.aload_n 0, 1) := by decide +kernel
theorem dX9_delay_6 : decode cX9_delay 6 = .ok (.getfield 10, 3) := by decide +kernel
theorem dX9_delay_9 : decode cX9_delay 9 = .ok (.getfield 165, 3) := by decide +kernel
theorem dX9_delay_12 : decode cX9_delay 12 = .ok (.iload_n 1, 1) := by decide +kernel
theorem dX9_delay_13 : decode cX9_delay 13 = .ok (.aaload, 1) := by decide +kernel
theorem dX9_delay_14 : decode cX9_delay 14 = .ok (.getfield 199, 3) := by decide +kernel
theorem dX9_delay_17 : decode cX9_delay 17 = .ok (.ireturn, 1) := by decide +kernel
theorem dX9_stopsMade_0 : decode cX9_stopsMade 0 = .ok (.aload_n 0, 1) := by decide +kernel
theorem dX9_stopsMade_1 : decode cX9_stopsMade 1 = .ok (.iload_n 1, 1) := by decide +kernel
theorem dX9_stopsMade_2 : decode cX9_stopsMade 2 = .ok (.invokevirtual 162, 3) := by decide +kernel
theorem dX9_stopsMade_5 : decode cX9_stopsMade 5 = .ok (.aload_n 0, 1) := by decide +kernel
theorem dX9_stopsMade_6 : decode cX9_stopsMade 6 = .ok (.getfield 10, 3) := by decide +kernel
theorem dX9_stopsMade_9 : decode cX9_stopsMade 9 = .ok (.getfield 165, 3) := by decide +kernel
theorem dX9_stopsMade_12 : decode cX9_stopsMade 12 = .ok (.iload_n 1, 1) := by decide +kernel
theorem dX9_stopsMade_13 : decode cX9_stopsMade 13 = .ok (.aaload, 1) := by decide +kernel
theorem dX9_stopsMade_14 : decode cX9_stopsMade 14 = .ok (.getfield 202, 3) := by decide +kernel
theorem dX9_stopsMade_17 : decode cX9_stopsMade 17 = .ok (.ireturn, 1) := by decide +kernel
theorem dX9_stopsPassed_0 : decode cX9_stopsPassed 0 = .ok (.aload_n 0, 1) := by decide +kernel
theorem dX9_stopsPassed_1 : decode cX9_stopsPassed 1 = .ok (.iload_n 1, 1) := by decide +kernel
theorem dX9_stopsPassed_2 : decode cX9_stopsPassed 2 = .ok (.invokevirtual 162, 3) := by decide +kernel
theorem dX9_stopsPassed_5 : decode cX9_stopsPassed 5 = .ok (.aload_n 0, 1) := by decide +kernel
theorem dX9_stopsPassed_6 : decode cX9_stopsPassed 6 = .ok (.getfield 10, 3) := by decide +kernel
theorem dX9_stopsPassed_9 : decode cX9_stopsPassed 9 = .ok (.getfield 165, 3) := by decide +kernel
theorem dX9_stopsPassed_12 : decode cX9_stopsPassed 12 = .ok (.iload_n 1, 1) := by decide +kernel
theorem dX9_stopsPassed_13 : decode cX9_stopsPassed 13 = .ok (.aaload, 1) := by decide +kernel
theorem dX9_stopsPassed_14 : decode cX9_stopsPassed 14 = .ok (.getfield 205, 3) := by decide +kernel
theorem dX9_stopsPassed_17 : decode cX9_stopsPassed 17 = .ok (.ireturn, 1) := by decide +kernel
theorem dX9_origin_0 : decode cX9_origin 0 = .ok (.aload_n 0, 1) := by decide +kernel
theorem dX9_origin_1 : decode cX9_origin 1 = .ok (.iload_n 1, 1) := by decide +kernel
theorem dX9_origin_2 : decode cX9_origin 2 = .ok (.invokevirtual 208, 3) := by decide +kernel
theorem dX9_origin_5 : decode cX9_origin 5 = .ok (.aload_n 0, 1) := by decide +kernel
theorem dX9_origin_6 : decode cX9_origin 6 = .ok (.getfield 10, 3) := by decide +kernel
theorem dX9_origin_9 : decode cX9_origin 9 = .ok (.getfield 211, 3) := by decide +kernel
theorem dX9_origin_12 : decode cX9_origin 12 = .ok (.iload_n 1, 1) := by decide +kernel
theorem dX9_origin_13 : decode cX9_origin 13 = .ok (.aaload, 1) := by decide +kernel
theorem dX9_origin_14 : decode cX9_origin 14 = .ok (.getfield 215, 3) := by decide +kernel
theorem dX9_origin_17 : decode cX9_origin 17 = .ok (.ireturn, 1) := by decide +kernel
theorem dX9_destination_0 : decode cX9_destination 0 = .ok (.aload_n 0, 1) := by decide +kernel
theorem dX9_destination_1 : decode cX9_destination 1 = .ok (.iload_n 1, 1) := by decide +kernel
theorem dX9_destination_2 : decode cX9_destination 2 = .ok (.invokevirtual 208, 3) := by decide +kernel
theorem dX9_destination_5 : decode cX9_destination 5 = .ok (.aload_n 0, 1) := by decide +kernel
theorem dX9_destination_6 : decode cX9_destination 6 = .ok (.getfield 10, 3) := by decide +kernel
theorem dX9_destination_9 : decode cX9_destination 9 = .ok (.getfield 211, 3) := by decide +kernel
theorem dX9_destination_12 : decode cX9_destination 12 = .ok (.iload_n 1, 1) := by decide +kernel
theorem dX9_destination_13 : decode cX9_destination 13 = .ok (.aaload, 1) := by decide +kernel
theorem dX9_destination_14 : decode cX9_destination 14 = .ok (.getfield 220, 3) := by decide +kernel
theorem dX9_destination_17 : decode cX9_destination 17 = .ok (.ireturn, 1) := by decide +kernel
theorem dX9_priority_0 : decode cX9_priority 0 = .ok (.aload_n 0, 1) := by decide +kernel
theorem dX9_priority_1 : decode cX9_priority 1 = .ok (.iload_n 1, 1) := by decide +kernel
theorem dX9_priority_2 : decode cX9_priority 2 = .ok (.invokevirtual 208, 3) := by decide +kernel
theorem dX9_priority_5 : decode cX9_priority 5 = .ok (.aload_n 0, 1) := by decide +kernel
theorem dX9_priority_6 : decode cX9_priority 6 = .ok (.getfield 10, 3) := by decide +kernel
theorem dX9_priority_9 : decode cX9_priority 9 = .ok (.getfield 211, 3) := by decide +kernel
theorem dX9_priority_12 : decode cX9_priority 12 = .ok (.iload_n 1, 1) := by decide +kernel
theorem dX9_priority_13 : decode cX9_priority 13 = .ok (.aaload, 1) := by decide +kernel
theorem dX9_priority_14 : decode cX9_priority 14 = .ok (.getfield 223, 3) := by decide +kernel
theorem dX9_priority_17 : decode cX9_priority 17 = .ok (.ireturn, 1) := by decide +kernel
theorem dX9_parcelStation_0 : decode cX9_parcelStation 0 = .ok (.aload_n 0, 1) := by decide +kernel
theorem dX9_parcelStation_1 : decode cX9_parcelStation 1 = .ok (.iload_n 1, 1) := by decide +kernel
theorem dX9_parcelStation_2 : decode cX9_parcelStation 2 = .ok (.invokevirtual 208, 3) := by decide +kernel
theorem dX9_parcelStation_5 : decode cX9_parcelStation 5 = .ok (.aload_n 0, 1) := by decide +kernel
theorem dX9_parcelStation_6 : decode cX9_parcelStation 6 = .ok (.getfield 10, 3) := by decide +kernel
theorem dX9_parcelStation_9 : decode cX9_parcelStation 9 = .ok (.getfield 211, 3) := by decide +kernel
theorem dX9_parcelStation_12 : decode cX9_parcelStation 12 = .ok (.iload_n 1, 1) := by decide +kernel
theorem dX9_parcelStation_13 : decode cX9_parcelStation 13 = .ok (.aaload, 1) := by decide +kernel
theorem dX9_parcelStation_14 : decode cX9_parcelStation 14 = .ok (.getfield 226, 3) := by decide +kernel
theorem dX9_parcelStation_17 : decode cX9_parcelStation 17 = .ok (.ireturn, 1) := by decide +kernel
theorem dX9_parcelTrain_0 : decode cX9_parcelTrain 0 = .ok (.aload_n 0, 1) := by decide +kernel
theorem dX9_parcelTrain_1 : decode cX9_parcelTrain 1 = .ok (.iload_n 1, 1) := by decide +kernel
theorem dX9_parcelTrain_2 : decode cX9_parcelTrain 2 = .ok (.invokevirtual 208, 3) := by decide +kernel
theorem dX9_parcelTrain_5 : decode cX9_parcelTrain 5 = .ok (.aload_n 0, 1) := by decide +kernel
theorem dX9_parcelTrain_6 : decode cX9_parcelTrain 6 = .ok (.getfield 10, 3) := by decide +kernel
theorem dX9_parcelTrain_9 : decode cX9_parcelTrain 9 = .ok (.getfield 211, 3) := by decide +kernel
theorem dX9_parcelTrain_12 : decode cX9_parcelTrain 12 = .ok (.iload_n 1, 1) := by decide +kernel
theorem dX9_parcelTrain_13 : decode cX9_parcelTrain 13 = .ok (.aaload, 1) := by decide +kernel
theorem dX9_parcelTrain_14 : decode cX9_parcelTrain 14 = .ok (.getfield 229, 3) := by decide +kernel
theorem dX9_parcelTrain_17 : decode cX9_parcelTrain 17 = .ok (.ireturn, 1) := by decide +kernel
theorem dX9_dropStation_0 : decode cX9_dropStation 0 = .ok (.aload_n 0, 1) := by decide +kernel
theorem dX9_dropStation_1 : decode cX9_dropStation 1 = .ok (.iload_n 1, 1) := by decide +kernel
theorem dX9_dropStation_2 : decode cX9_dropStation 2 = .ok (.invokevirtual 208, 3) := by decide +kernel
theorem dX9_dropStation_5 : decode cX9_dropStation 5 = .ok (.aload_n 0, 1) := by decide +kernel
theorem dX9_dropStation_6 : decode cX9_dropStation 6 = .ok (.getfield 10, 3) := by decide +kernel
theorem dX9_dropStation_9 : decode cX9_dropStation 9 = .ok (.getfield 211, 3) := by decide +kernel
theorem dX9_dropStation_12 : decode cX9_dropStation 12 = .ok (.iload_n 1, 1) := by decide +kernel
theorem dX9_dropStation_13 : decode cX9_dropStation 13 = .ok (.aaload, 1) := by decide +kernel
theorem dX9_dropStation_14 : decode cX9_dropStation 14 = .ok (.getfield 232, 3) := by decide +kernel
theorem dX9_dropStation_17 : decode cX9_dropStation 17 = .ok (.ireturn, 1) := by decide +kernel
theorem dX9_transfers_0 : decode cX9_transfers 0 = .ok (.aload_n 0, 1) := by decide +kernel
theorem dX9_transfers_1 : decode cX9_transfers 1 = .ok (.iload_n 1, 1) := by decide +kernel
theorem dX9_transfers_2 : decode cX9_transfers 2 = .ok (.invokevirtual 208, 3) := by decide +kernel
theorem dX9_transfers_5 : decode cX9_transfers 5 = .ok (.aload_n 0, 1) := by decide +kernel
theorem dX9_transfers_6 : decode cX9_transfers 6 = .ok (.getfield 10, 3) := by decide +kernel
theorem dX9_transfers_9 : decode cX9_transfers 9 = .ok (.getfield 211, 3) := by decide +kernel
theorem dX9_transfers_12 : decode cX9_transfers 12 = .ok (.iload_n 1, 1) := by decide +kernel
theorem dX9_transfers_13 : decode cX9_transfers 13 = .ok (.aaload, 1) := by decide +kernel
theorem dX9_transfers_14 : decode cX9_transfers 14 = .ok (.getfield 235, 3) := by decide +kernel
theorem dX9_transfers_17 : decode cX9_transfers 17 = .ok (.ireturn, 1) := by decide +kernel
theorem dX9_isHeld_0 : decode cX9_isHeld 0 = .ok (.aload_n 0, 1) := by decide +kernel
theorem dX9_isHeld_1 : decode cX9_isHeld 1 = .ok (.iload_n 1, 1) := by decide +kernel
theorem dX9_isHeld_2 : decode cX9_isHeld 2 = .ok (.invokevirtual 208, 3) := by decide +kernel
theorem dX9_isHeld_5 : decode cX9_isHeld 5 = .ok (.aload_n 0, 1) := by decide +kernel
theorem dX9_isHeld_6 : decode cX9_isHeld 6 = .ok (.getfield 10, 3) := by decide +kernel
theorem dX9_isHeld_9 : decode cX9_isHeld 9 = .ok (.getfield 211, 3) := by decide +kernel
theorem dX9_isHeld_12 : decode cX9_isHeld 12 = .ok (.iload_n 1, 1) := by decide +kernel
theorem dX9_isHeld_13 : decode cX9_isHeld 13 = .ok (.aaload, 1) := by decide +kernel
theorem dX9_isHeld_14 : decode cX9_isHeld 14 = .ok (.aload_n 0, 1) := by decide +kernel
theorem dX9_isHeld_15 : decode cX9_isHeld 15 = .ok (.getfield 10, 3) := by decide +kernel
theorem dX9_isHeld_18 : decode cX9_isHeld 18 = .ok (.getfield 103, 3) := by decide +kernel
theorem dX9_isHeld_21 : decode cX9_isHeld 21 = .ok (.invokevirtual 238, 3) := by decide +kernel
theorem dX9_isHeld_24 : decode cX9_isHeld 24 = .ok (.ireturn, 1) := by decide +kernel
theorem dX9_deliveryClock_0 : decode cX9_deliveryClock 0 = .ok (.aload_n 0, 1) := by decide +kernel
theorem dX9_deliveryClock_1 : decode cX9_deliveryClock 1 = .ok (.iload_n 1, 1) := by decide +kernel
theorem dX9_deliveryClock_2 : decode cX9_deliveryClock 2 = .ok (.invokevirtual 208, 3) := by decide +kernel
theorem dX9_deliveryClock_5 : decode cX9_deliveryClock 5 = .ok (.aload_n 0, 1) := by decide +kernel
theorem dX9_deliveryClock_6 : decode cX9_deliveryClock 6 = .ok (.getfield 10, 3) := by decide +kernel
theorem dX9_deliveryClock_9 : decode cX9_deliveryClock 9 = .ok (.getfield 211, 3) := by decide +kernel
theorem dX9_deliveryClock_12 : decode cX9_deliveryClock 12 = .ok (.iload_n 1, 1) := by decide +kernel
theorem dX9_deliveryClock_13 : decode cX9_deliveryClock 13 = .ok (.aaload, 1) := by decide +kernel
theorem dX9_deliveryClock_14 : decode cX9_deliveryClock 14 = .ok (.getfield 242, 3) := by decide +kernel
theorem dX9_deliveryClock_17 : decode cX9_deliveryClock 17 = .ok (.ireturn, 1) := by decide +kernel
theorem dX9_loadingObstacle_0 : decode cX9_loadingObstacle 0 = .ok (.aload_n 0, 1) := by decide +kernel
theorem dX9_loadingObstacle_1 : decode cX9_loadingObstacle 1 = .ok (.iload_n 1, 1) := by decide +kernel
theorem dX9_loadingObstacle_2 : decode cX9_loadingObstacle 2 = .ok (.invokevirtual 162, 3) := by decide +kernel
theorem dX9_loadingObstacle_5 : decode cX9_loadingObstacle 5 = .ok (.aload_n 0, 1) := by decide +kernel
theorem dX9_loadingObstacle_6 : decode cX9_loadingObstacle 6 = .ok (.iload_n 2, 1) := by decide +kernel
theorem dX9_loadingObstacle_7 : decode cX9_loadingObstacle 7 = .ok (.invokevirtual 208, 3) := by decide +kernel
theorem dX9_loadingObstacle_10 : decode cX9_loadingObstacle 10 = .ok (.aload_n 0, 1) := by decide +kernel
theorem dX9_loadingObstacle_11 : decode cX9_loadingObstacle 11 = .ok (.getfield 10, 3) := by decide +kernel
theorem dX9_loadingObstacle_14 : decode cX9_loadingObstacle 14 = .ok (.aload_n 0, 1) := by decide +kernel
theorem dX9_loadingObstacle_15 : decode cX9_loadingObstacle 15 = .ok (.getfield 10, 3) := by decide +kernel
theorem dX9_loadingObstacle_18 : decode cX9_loadingObstacle 18 = .ok (.getfield 165, 3) := by decide +kernel
theorem dX9_loadingObstacle_21 : decode cX9_loadingObstacle 21 = .ok (.iload_n 1, 1) := by decide +kernel
theorem dX9_loadingObstacle_22 : decode cX9_loadingObstacle 22 = .ok (.aaload, 1) := by decide +kernel
theorem dX9_loadingObstacle_23 : decode cX9_loadingObstacle 23 = .ok (.aload_n 0, 1) := by decide +kernel
theorem dX9_loadingObstacle_24 : decode cX9_loadingObstacle 24 = .ok (.getfield 10, 3) := by decide +kernel
theorem dX9_loadingObstacle_27 : decode cX9_loadingObstacle 27 = .ok (.getfield 211, 3) := by decide +kernel
theorem dX9_loadingObstacle_30 : decode cX9_loadingObstacle 30 = .ok (.iload_n 2, 1) := by decide +kernel
theorem dX9_loadingObstacle_31 : decode cX9_loadingObstacle 31 = .ok (.aaload, 1) := by decide +kernel
theorem dX9_loadingObstacle_32 : decode cX9_loadingObstacle 32 = .ok (.invokevirtual 245, 3) := by decide +kernel
theorem dX9_loadingObstacle_35 : decode cX9_loadingObstacle 35 = .ok (.ireturn, 1) := by decide +kernel
theorem dX9_deliveredCount_0 : decode cX9_deliveredCount 0 = .ok (.aload_n 0, 1) := by decide +kernel
theorem dX9_deliveredCount_1 : decode cX9_deliveredCount 1 = .ok (.getfield 10, 3) := by decide +kernel
theorem dX9_deliveredCount_4 : decode cX9_deliveredCount 4 = .ok (.invokevirtual 249, 3) := by decide +kernel
theorem dX9_deliveredCount_7 : decode cX9_deliveredCount 7 = .ok (.ireturn, 1) := by decide +kernel
theorem dX9_parcelBalance_0 : decode cX9_parcelBalance 0 = .ok (.aload_n 0, 1) := by decide +kernel
theorem dX9_parcelBalance_1 : decode cX9_parcelBalance 1 = .ok (.getfield 10, 3) := by decide +kernel
theorem dX9_parcelBalance_4 : decode cX9_parcelBalance 4 = .ok (.getfield 112, 3) := by decide +kernel
theorem dX9_parcelBalance_7 : decode cX9_parcelBalance 7 = .ok (.aload_n 0, 1) := by decide +kernel
theorem dX9_parcelBalance_8 : decode cX9_parcelBalance 8 = .ok (.getfield 10, 3) := by decide +kernel
theorem dX9_parcelBalance_11 : decode cX9_parcelBalance 11 = .ok (.invokevirtual 249, 3) := by decide +kernel
theorem dX9_parcelBalance_14 : decode cX9_parcelBalance 14 = .ok (.isub, 1) := by decide +kernel
theorem dX9_parcelBalance_15 : decode cX9_parcelBalance 15 = .ok (.istore_n 1, 1) := by decide +kernel
theorem dX9_parcelBalance_16 : decode cX9_parcelBalance 16 = .ok (.iconst 0, 1) := by decide +kernel
theorem dX9_parcelBalance_17 : decode cX9_parcelBalance 17 = .ok (.istore_n 2, 1) := by decide +kernel
theorem dX9_parcelBalance_18 : decode cX9_parcelBalance 18 = .ok (.iload_n 2, 1) := by decide +kernel
theorem dX9_parcelBalance_19 : decode cX9_parcelBalance 19 = .ok (.aload_n 0, 1) := by decide +kernel
theorem dX9_parcelBalance_20 : decode cX9_parcelBalance 20 = .ok (.getfield 10, 3) := by decide +kernel
theorem dX9_parcelBalance_23 : decode cX9_parcelBalance 23 = .ok (.getfield 97, 3) := by decide +kernel
theorem dX9_parcelBalance_26 : decode cX9_parcelBalance 26 = .ok (.if_icmp .ge 20, 3) := by decide +kernel
theorem dX9_parcelBalance_29 : decode cX9_parcelBalance 29 = .ok (.iload_n 1, 1) := by decide +kernel
theorem dX9_parcelBalance_30 : decode cX9_parcelBalance 30 = .ok (.aload_n 0, 1) := by decide +kernel
theorem dX9_parcelBalance_31 : decode cX9_parcelBalance 31 = .ok (.getfield 10, 3) := by decide +kernel
theorem dX9_parcelBalance_34 : decode cX9_parcelBalance 34 = .ok (.iload_n 2, 1) := by decide +kernel
theorem dX9_parcelBalance_35 : decode cX9_parcelBalance 35 = .ok (.invokevirtual 131, 3) := by decide +kernel
theorem dX9_parcelBalance_38 : decode cX9_parcelBalance 38 = .ok (.isub, 1) := by decide +kernel
theorem dX9_parcelBalance_39 : decode cX9_parcelBalance 39 = .ok (.istore_n 1, 1) := by decide +kernel
theorem dX9_parcelBalance_40 : decode cX9_parcelBalance 40 = .ok (.iinc 2 1, 3) := by decide +kernel
theorem dX9_parcelBalance_43 : decode cX9_parcelBalance 43 = .ok (.goto (-25), 3) := by decide +kernel
theorem dX9_parcelBalance_46 : decode cX9_parcelBalance 46 = .ok (.iload_n 1, 1) := by decide +kernel
theorem dX9_parcelBalance_47 : decode cX9_parcelBalance 47 = .ok (.aload_n 0, 1) := by decide +kernel
theorem dX9_parcelBalance_48 : decode cX9_parcelBalance 48 = .ok (.getfield 10, 3) := by decide +kernel
theorem dX9_parcelBalance_51 : decode cX9_parcelBalance 51 = .ok (.invokevirtual 252, 3) := by decide +kernel
theorem dX9_parcelBalance_54 : decode cX9_parcelBalance 54 = .ok (.isub, 1) := by decide +kernel
theorem dX9_parcelBalance_55 : decode cX9_parcelBalance 55 = .ok (.ireturn, 1) := by decide +kernel
theorem dX9_loadingBalance_0 : decode cX9_loadingBalance 0 = .ok (.aload_n 0, 1) := by decide +kernel
theorem dX9_loadingBalance_1 : decode cX9_loadingBalance 1 = .ok (.getfield 10, 3) := by decide +kernel
theorem dX9_loadingBalance_4 : decode cX9_loadingBalance 4 = .ok (.getfield 255, 3) := by decide +kernel
theorem dX9_loadingBalance_7 : decode cX9_loadingBalance 7 = .ok (.aload_n 0, 1) := by decide +kernel
theorem dX9_loadingBalance_8 : decode cX9_loadingBalance 8 = .ok (.getfield 10, 3) := by decide +kernel
theorem dX9_loadingBalance_11 : decode cX9_loadingBalance 11 = .ok (.getfield 258, 3) := by decide +kernel
theorem dX9_loadingBalance_14 : decode cX9_loadingBalance 14 = .ok (.isub, 1) := by decide +kernel
theorem dX9_loadingBalance_15 : decode cX9_loadingBalance 15 = .ok (.aload_n 0, 1) := by decide +kernel
theorem dX9_loadingBalance_16 : decode cX9_loadingBalance 16 = .ok (.getfield 10, 3) := by decide +kernel
theorem dX9_loadingBalance_19 : decode cX9_loadingBalance 19 = .ok (.invokevirtual 252, 3) := by decide +kernel
theorem dX9_loadingBalance_22 : decode cX9_loadingBalance 22 = .ok (.isub, 1) := by decide +kernel
theorem dX9_loadingBalance_23 : decode cX9_loadingBalance 23 = .ok (.ireturn, 1) := by decide +kernel
theorem dX9_meanDeliveryClock_0 : decode cX9_meanDeliveryClock 0 = .ok (.aload_n 0, 1) := by decide +kernel
theorem dX9_meanDeliveryClock_1 : decode cX9_meanDeliveryClock 1 = .ok (.getfield 10, 3) := by decide +kernel
theorem dX9_meanDeliveryClock_4 : decode cX9_meanDeliveryClock 4 = .ok (.invokevirtual 249, 3) := by decide +kernel
theorem dX9_meanDeliveryClock_7 : decode cX9_meanDeliveryClock 7 = .ok (.istore_n 1, 1) := by decide +kernel
theorem dX9_meanDeliveryClock_8 : decode cX9_meanDeliveryClock 8 = .ok (.iload_n 1, 1) := by decide +kernel
theorem dX9_meanDeliveryClock_9 : decode cX9_meanDeliveryClock 9 = .ok (.ifCond .ne 5, 3) := by decide +kernel
theorem dX9_meanDeliveryClock_12 : decode cX9_meanDeliveryClock 12 = .ok (.dconst 0, 1) := by decide +kernel
theorem dX9_meanDeliveryClock_13 : decode cX9_meanDeliveryClock 13 = .ok (.dreturn, 1) := by decide +kernel
theorem dX9_meanDeliveryClock_14 : decode cX9_meanDeliveryClock 14 = .ok (.aload_n 0, 1) := by decide +kernel
theorem dX9_meanDeliveryClock_15 : decode cX9_meanDeliveryClock 15 = .ok (.getfield 10, 3) := by decide +kernel
theorem dX9_meanDeliveryClock_18 : decode cX9_meanDeliveryClock 18 = .ok (.invokevirtual 261, 3) := by decide +kernel
theorem dX9_meanDeliveryClock_21 : decode cX9_meanDeliveryClock 21 = .ok (.i2d, 1) := by decide +kernel
theorem dX9_meanDeliveryClock_22 : decode cX9_meanDeliveryClock 22 = .ok (.iload_n 1, 1) := by decide +kernel
theorem dX9_meanDeliveryClock_23 : decode cX9_meanDeliveryClock 23 = .ok (.i2d, 1) := by decide +kernel
theorem dX9_meanDeliveryClock_24 : decode cX9_meanDeliveryClock 24 = .ok (.ddiv, 1) := by decide +kernel
theorem dX9_meanDeliveryClock_25 : decode cX9_meanDeliveryClock 25 = .ok (.dreturn, 1) := by decide +kernel
theorem dX9_deliveredShare_0 : decode cX9_deliveredShare 0 = .ok (.aload_n 0, 1) := by decide +kernel
theorem dX9_deliveredShare_1 : decode cX9_deliveredShare 1 = .ok (.getfield 10, 3) := by decide +kernel
theorem dX9_deliveredShare_4 : decode cX9_deliveredShare 4 = .ok (.getfield 112, 3) := by decide +kernel
theorem dX9_deliveredShare_7 : decode cX9_deliveredShare 7 = .ok (.ifCond .ne 5, 3) := by decide +kernel
theorem dX9_deliveredShare_10 : decode cX9_deliveredShare 10 = .ok (.fconst 0, 1) := by decide +kernel
theorem dX9_deliveredShare_11 : decode cX9_deliveredShare 11 = .ok (.freturn, 1) := by decide +kernel
theorem dX9_deliveredShare_12 : decode cX9_deliveredShare 12 = .ok (.aload_n 0, 1) := by decide +kernel
theorem dX9_deliveredShare_13 : decode cX9_deliveredShare 13 = .ok (.getfield 10, 3) := by decide +kernel
theorem dX9_deliveredShare_16 : decode cX9_deliveredShare 16 = .ok (.invokevirtual 249, 3) := by decide +kernel
theorem dX9_deliveredShare_19 : decode cX9_deliveredShare 19 = .ok (.i2f, 1) := by decide +kernel
theorem dX9_deliveredShare_20 : decode cX9_deliveredShare 20 = .ok (.aload_n 0, 1) := by decide +kernel
theorem dX9_deliveredShare_21 : decode cX9_deliveredShare 21 = .ok (.getfield 10, 3) := by decide +kernel
theorem dX9_deliveredShare_24 : decode cX9_deliveredShare 24 = .ok (.getfield 112, 3) := by decide +kernel
theorem dX9_deliveredShare_27 : decode cX9_deliveredShare 27 = .ok (.i2f, 1) := by decide +kernel
theorem dX9_deliveredShare_28 : decode cX9_deliveredShare 28 = .ok (.fdiv, 1) := by decide +kernel
theorem dX9_deliveredShare_29 : decode cX9_deliveredShare 29 = .ok (.freturn, 1) := by decide +kernel
theorem dX9_minutesToDelivery_0 : decode cX9_minutesToDelivery 0 = .ok (.aload_n 0, 1) := by decide +kernel
theorem dX9_minutesToDelivery_1 : decode cX9_minutesToDelivery 1 = .ok (.iload_n 1, 1) := by decide +kernel
theorem dX9_minutesToDelivery_2 : decode cX9_minutesToDelivery 2 = .ok (.invokevirtual 208, 3) := by decide +kernel
theorem dX9_minutesToDelivery_5 : decode cX9_minutesToDelivery 5 = .ok (.aload_n 0, 1) := by decide +kernel
theorem dX9_minutesToDelivery_6 : decode cX9_minutesToDelivery 6 = .ok (.getfield 16, 3) := by decide +kernel
theorem dX9_minutesToDelivery_9 : decode cX9_minutesToDelivery 9 = .ok (.aload_n 0, 1) := by decide +kernel
theorem dX9_minutesToDelivery_10 : decode cX9_minutesToDelivery 10 = .ok (.getfield 10, 3) := by decide +kernel
theorem dX9_minutesToDelivery_13 : decode cX9_minutesToDelivery 13 = .ok (.invokevirtual 66, 3) := by decide +kernel
theorem dX9_minutesToDelivery_16 : decode cX9_minutesToDelivery 16 = .ok (.iconst 0, 1) := by decide +kernel
theorem dX9_minutesToDelivery_17 : decode cX9_minutesToDelivery 17 = .ok (.istore_n 2, 1) := by decide +kernel
theorem dX9_minutesToDelivery_18 : decode cX9_minutesToDelivery 18 = .ok (.iload_n 2, 1) := by decide +kernel
theorem dX9_minutesToDelivery_19 : decode cX9_minutesToDelivery 19 = .ok (.bipush 120, 2) := by decide +kernel
theorem dX9_minutesToDelivery_21 : decode cX9_minutesToDelivery 21 = .ok (.if_icmp .ge 33, 3) := by decide +kernel
theorem dX9_minutesToDelivery_24 : decode cX9_minutesToDelivery 24 = .ok (.aload_n 0, 1) := by decide +kernel
theorem dX9_minutesToDelivery_25 : decode cX9_minutesToDelivery 25 = .ok (.getfield 16, 3) := by decide +kernel
theorem dX9_minutesToDelivery_28 : decode cX9_minutesToDelivery 28 = .ok (.getfield 211, 3) := by decide +kernel
theorem dX9_minutesToDelivery_31 : decode cX9_minutesToDelivery 31 = .ok (.iload_n 1, 1) := by decide +kernel
theorem dX9_minutesToDelivery_32 : decode cX9_minutesToDelivery 32 = .ok (.aaload, 1) := by decide +kernel
theorem dX9_minutesToDelivery_33 : decode cX9_minutesToDelivery 33 = .ok (.invokevirtual 264, 3) := by decide +kernel
theorem dX9_minutesToDelivery_36 : decode cX9_minutesToDelivery 36 = .ok (.ifCond .eq 5, 3) := by decide +kernel
theorem dX9_minutesToDelivery_39 : decode cX9_minutesToDelivery 39 = .ok (.iload_n 2, 1) := by decide +kernel
theorem dX9_minutesToDelivery_40 : decode cX9_minutesToDelivery 40 = .ok (.ireturn, 1) := by decide +kernel
theorem dX9_minutesToDelivery_41 : decode cX9_minutesToDelivery 41 = .ok (.aload_n 0, 1) := by decide +kernel
theorem dX9_minutesToDelivery_42 : decode cX9_minutesToDelivery 42 = .ok (.getfield 16, 3) := by decide +kernel
theorem dX9_minutesToDelivery_45 : decode cX9_minutesToDelivery 45 = .ok (.invokevirtual 268, 3) := by decide +kernel
theorem dX9_minutesToDelivery_48 : decode cX9_minutesToDelivery 48 = .ok (.iinc 2 1, 3) := by decide +kernel
theorem dX9_minutesToDelivery_51 : decode cX9_minutesToDelivery 51 = .ok (.goto (-33), 3) := by decide +kernel
theorem dX9_minutesToDelivery_54 : decode cX9_minutesToDelivery 54 = .ok (.aload_n 0, 1) := by decide +kernel
theorem dX9_minutesToDelivery_55 : decode cX9_minutesToDelivery 55 = .ok (.getfield 16, 3) := by decide +kernel
theorem dX9_minutesToDelivery_58 : decode cX9_minutesToDelivery 58 = .ok (.getfield 211, 3) := by decide +kernel
theorem dX9_minutesToDelivery_61 : decode cX9_minutesToDelivery 61 = .ok (.iload_n 1, 1) := by decide +kernel
theorem dX9_minutesToDelivery_62 : decode cX9_minutesToDelivery 62 = .ok (.aaload, 1) := by decide +kernel
theorem dX9_minutesToDelivery_63 : decode cX9_minutesToDelivery 63 = .ok (.invokevirtual 264, 3) := by decide +kernel
theorem dX9_minutesToDelivery_66 : decode cX9_minutesToDelivery 66 = .ok (.ifCond .eq 8, 3) := by decide +kernel
theorem dX9_minutesToDelivery_69 : decode cX9_minutesToDelivery 69 = .ok (.bipush 120, 2) := by decide +kernel
theorem dX9_minutesToDelivery_71 : decode cX9_minutesToDelivery 71 = .ok (.goto 4, 3) := by decide +kernel
theorem dX9_minutesToDelivery_74 : decode cX9_minutesToDelivery 74 = .ok (.iconst (-1), 1) := by decide +kernel
theorem dX9_minutesToDelivery_75 : decode cX9_minutesToDelivery 75 = .ok (.ireturn, 1) := by decide +kernel
theorem dX9_minutesToFinish_0 : decode cX9_minutesToFinish 0 = .ok (.aload_n 0, 1) := by decide +kernel
theorem dX9_minutesToFinish_1 : decode cX9_minutesToFinish 1 = .ok (.getfield 16, 3) := by decide +kernel
theorem dX9_minutesToFinish_4 : decode cX9_minutesToFinish 4 = .ok (.aload_n 0, 1) := by decide +kernel
theorem dX9_minutesToFinish_5 : decode cX9_minutesToFinish 5 = .ok (.getfield 10, 3) := by decide +kernel
theorem dX9_minutesToFinish_8 : decode cX9_minutesToFinish 8 = .ok (.invokevirtual 66, 3) := by decide +kernel
theorem dX9_minutesToFinish_11 : decode cX9_minutesToFinish 11 = .ok (.iconst 0, 1) := by decide +kernel
theorem dX9_minutesToFinish_12 : decode cX9_minutesToFinish 12 = .ok (.istore_n 1, 1) := by decide +kernel
theorem dX9_minutesToFinish_13 : decode cX9_minutesToFinish 13 = .ok (.iload_n 1, 1) := by decide +kernel
theorem dX9_minutesToFinish_14 : decode cX9_minutesToFinish 14 = .ok (.bipush 120, 2) := by decide +kernel
theorem dX9_minutesToFinish_16 : decode cX9_minutesToFinish 16 = .ok (.if_icmp .ge 35, 3) := by decide +kernel
theorem dX9_minutesToFinish_19 : decode cX9_minutesToFinish 19 = .ok (.aload_n 0, 1) := by decide +kernel
theorem dX9_minutesToFinish_20 : decode cX9_minutesToFinish 20 = .ok (.getfield 16, 3) := by decide +kernel
theorem dX9_minutesToFinish_23 : decode cX9_minutesToFinish 23 = .ok (.invokevirtual 249, 3) := by decide +kernel
theorem dX9_minutesToFinish_26 : decode cX9_minutesToFinish 26 = .ok (.aload_n 0, 1) := by decide +kernel
theorem dX9_minutesToFinish_27 : decode cX9_minutesToFinish 27 = .ok (.getfield 16, 3) := by decide +kernel
theorem dX9_minutesToFinish_30 : decode cX9_minutesToFinish 30 = .ok (.getfield 112, 3) := by decide +kernel
theorem dX9_minutesToFinish_33 : decode cX9_minutesToFinish 33 = .ok (.if_icmp .ne 5, 3) := by decide +kernel
theorem dX9_minutesToFinish_36 : decode cX9_minutesToFinish 36 = .ok (.iload_n 1, 1) := by decide +kernel
theorem dX9_minutesToFinish_37 : decode cX9_minutesToFinish 37 = .ok (.ireturn, 1) := by decide +kernel
theorem dX9_minutesToFinish_38 : decode cX9_minutesToFinish 38 = .ok (.aload_n 0, 1) := by decide +kernel
theorem dX9_minutesToFinish_39 : decode cX9_minutesToFinish 39 = .ok (.getfield 16, 3) := by decide +kernel
theorem dX9_minutesToFinish_42 : decode cX9_minutesToFinish 42 = .ok (.invokevirtual 268, 3) := by decide +kernel
theorem dX9_minutesToFinish_45 : decode cX9_minutesToFinish 45 = .ok (.iinc 1 1, 3) := by decide +kernel
theorem dX9_minutesToFinish_48 : decode cX9_minutesToFinish 48 = .ok (.goto (-35), 3) := by decide +kernel
theorem dX9_minutesToFinish_51 : decode cX9_minutesToFinish 51 = .ok (.aload_n 0, 1) := by decide +kernel
theorem dX9_minutesToFinish_52 : decode cX9_minutesToFinish 52 = .ok (.getfield 16, 3) := by decide +kernel
theorem dX9_minutesToFinish_55 : decode cX9_minutesToFinish 55 = .ok (.invokevirtual 249, 3) := by decide +kernel
theorem dX9_minutesToFinish_58 : decode cX9_minutesToFinish 58 = .ok (.aload_n 0, 1) := by decide +kernel
theorem dX9_minutesToFinish_59 : decode cX9_minutesToFinish 59 = .ok (.getfield 16, 3) := by decide +kernel
theorem dX9_minutesToFinish_62 : decode cX9_minutesToFinish 62 = .ok (.getfield 112, 3) := by decide +kernel
theorem dX9_minutesToFinish_65 : decode cX9_minutesToFinish 65 = .ok (.if_icmp .ne 8, 3) := by decide +kernel
theorem dX9_minutesToFinish_68 : decode cX9_minutesToFinish 68 = .ok (.bipush 120, 2) := by decide +kernel
theorem dX9_minutesToFinish_70 : decode cX9_minutesToFinish 70 = .ok (.goto 4, 3) := by decide +kernel
theorem dX9_minutesToFinish_73 : decode cX9_minutesToFinish 73 = .ok (.iconst (-1), 1) := by decide +kernel
theorem dX9_minutesToFinish_74 : decode cX9_minutesToFinish 74 = .ok (.ireturn, 1) := by decide +kernel
theorem dX9_minutesToStop_0 : decode cX9_minutesToStop 0 = .ok (.aload_n 0, 1) := by decide +kernel
theorem dX9_minutesToStop_1 : decode cX9_minutesToStop 1 = .ok (.iload_n 1, 1) := by decide +kernel
theorem dX9_minutesToStop_2 : decode cX9_minutesToStop 2 = .ok (.invokevirtual 115, 3) := by decide +kernel
theorem dX9_minutesToStop_5 : decode cX9_minutesToStop 5 = .ok (.aload_n 0, 1) := by decide +kernel
theorem dX9_minutesToStop_6 : decode cX9_minutesToStop 6 = .ok (.getfield 16, 3) := by decide +kernel
theorem dX9_minutesToStop_9 : decode cX9_minutesToStop 9 = .ok (.aload_n 0, 1) := by decide +kernel
theorem dX9_minutesToStop_10 : decode cX9_minutesToStop 10 = .ok (.getfield 10, 3) := by decide +kernel
theorem dX9_minutesToStop_13 : decode cX9_minutesToStop 13 = .ok (.invokevirtual 66, 3) := by decide +kernel
theorem dX9_minutesToStop_16 : decode cX9_minutesToStop 16 = .ok (.iconst 1, 1) := by decide +kernel
theorem dX9_minutesToStop_17 : decode cX9_minutesToStop 17 = .ok (.istore_n 2, 1) := by decide +kernel
theorem dX9_minutesToStop_18 : decode cX9_minutesToStop 18 = .ok (.iload_n 2, 1) := by decide +kernel
theorem dX9_minutesToStop_19 : decode cX9_minutesToStop 19 = .ok (.bipush 120, 2) := by decide +kernel
theorem dX9_minutesToStop_21 : decode cX9_minutesToStop 21 = .ok (.if_icmp .gt 40, 3) := by decide +kernel
theorem dX9_minutesToStop_24 : decode cX9_minutesToStop 24 = .ok (.aload_n 0, 1) := by decide +kernel
theorem dX9_minutesToStop_25 : decode cX9_minutesToStop 25 = .ok (.getfield 16, 3) := by decide +kernel
theorem dX9_minutesToStop_28 : decode cX9_minutesToStop 28 = .ok (.invokevirtual 268, 3) := by decide +kernel
theorem dX9_minutesToStop_31 : decode cX9_minutesToStop 31 = .ok (.aload_n 0, 1) := by decide +kernel
theorem dX9_minutesToStop_32 : decode cX9_minutesToStop 32 = .ok (.getfield 16, 3) := by decide +kernel
theorem dX9_minutesToStop_35 : decode cX9_minutesToStop 35 = .ok (.getfield 118, 3) := by decide +kernel
theorem dX9_minutesToStop_38 : decode cX9_minutesToStop 38 = .ok (.iload_n 1, 1) := by decide +kernel
theorem dX9_minutesToStop_39 : decode cX9_minutesToStop 39 = .ok (.aaload, 1) := by decide +kernel
theorem dX9_minutesToStop_40 : decode cX9_minutesToStop 40 = .ok (.getfield 271, 3) := by decide +kernel
theorem dX9_minutesToStop_43 : decode cX9_minutesToStop 43 = .ok (.aload_n 0, 1) := by decide +kernel
theorem dX9_minutesToStop_44 : decode cX9_minutesToStop 44 = .ok (.getfield 16, 3) := by decide +kernel
theorem dX9_minutesToStop_47 : decode cX9_minutesToStop 47 = .ok (.getfield 103, 3) := by decide +kernel
theorem dX9_minutesToStop_50 : decode cX9_minutesToStop 50 = .ok (.if_icmp .ne 5, 3) := by decide +kernel
theorem dX9_minutesToStop_53 : decode cX9_minutesToStop 53 = .ok (.iload_n 2, 1) := by decide +kernel
theorem dX9_minutesToStop_54 : decode cX9_minutesToStop 54 = .ok (.ireturn, 1) := by decide +kernel
theorem dX9_minutesToStop_55 : decode cX9_minutesToStop 55 = .ok (.iinc 2 1, 3) := by decide +kernel
theorem dX9_minutesToStop_58 : decode cX9_minutesToStop 58 = .ok (.goto (-40), 3) := by decide +kernel
theorem dX9_minutesToStop_61 : decode cX9_minutesToStop 61 = .ok (.iconst (-1), 1) := by decide +kernel
theorem dX9_minutesToStop_62 : decode cX9_minutesToStop 62 = .ok (.ireturn, 1) := by decide +kernel
theorem dX9_trainStationAfter_0 : decode cX9_trainStationAfter 0 = .ok (.aload_n 0, 1) := by decide +kernel
theorem dX9_trainStationAfter_1 : decode cX9_trainStationAfter 1 = .ok (.iload_n 1, 1) := by decide +kernel
theorem dX9_trainStationAfter_2 : decode cX9_trainStationAfter 2 = .ok (.invokevirtual 162, 3) := by decide +kernel
theorem dX9_trainStationAfter_5 : decode cX9_trainStationAfter 5 = .ok (.iload_n 2, 1) := by decide +kernel
theorem dX9_trainStationAfter_6 : decode cX9_trainStationAfter 6 = .ok (.iconst 0, 1) := by decide +kernel
theorem dX9_trainStationAfter_7 : decode cX9_trainStationAfter 7 = .ok (.bipush 120, 2) := by decide +kernel
theorem dX9_trainStationAfter_9 : decode cX9_trainStationAfter 9 = .ok (.invokestatic 274, 3) := by decide +kernel
theorem dX9_trainStationAfter_12 : decode cX9_trainStationAfter 12 = .ok (.aload_n 0, 1) := by decide +kernel
theorem dX9_trainStationAfter_13 : decode cX9_trainStationAfter 13 = .ok (.getfield 16, 3) := by decide +kernel
theorem dX9_trainStationAfter_16 : decode cX9_trainStationAfter 16 = .ok (.aload_n 0, 1) := by decide +kernel
theorem dX9_trainStationAfter_17 : decode cX9_trainStationAfter 17 = .ok (.getfield 10, 3) := by decide +kernel
theorem dX9_trainStationAfter_20 : decode cX9_trainStationAfter 20 = .ok (.invokevirtual 66, 3) := by decide +kernel
theorem dX9_trainStationAfter_23 : decode cX9_trainStationAfter 23 = .ok (.aload_n 0, 1) := by decide +kernel
theorem dX9_trainStationAfter_24 : decode cX9_trainStationAfter 24 = .ok (.getfield 16, 3) := by decide +kernel
theorem dX9_trainStationAfter_27 : decode cX9_trainStationAfter 27 = .ok (.iload_n 2, 1) := by decide +kernel
theorem dX9_trainStationAfter_28 : decode cX9_trainStationAfter 28 = .ok (.invokevirtual 278, 3) := by decide +kernel
theorem dX9_trainStationAfter_31 : decode cX9_trainStationAfter 31 = .ok (.aload_n 0, 1) := by decide +kernel
theorem dX9_trainStationAfter_32 : decode cX9_trainStationAfter 32 = .ok (.getfield 16, 3) := by decide +kernel
theorem dX9_trainStationAfter_35 : decode cX9_trainStationAfter 35 = .ok (.getfield 165, 3) := by decide +kernel
theorem dX9_trainStationAfter_38 : decode cX9_trainStationAfter 38 = .ok (.iload_n 1, 1) := by decide +kernel
theorem dX9_trainStationAfter_39 : decode cX9_trainStationAfter 39 = .ok (.aaload, 1) := by decide +kernel
theorem dX9_trainStationAfter_40 : decode cX9_trainStationAfter 40 = .ok (.invokevirtual 186, 3) := by decide +kernel
theorem dX9_trainStationAfter_43 : decode cX9_trainStationAfter 43 = .ok (.ireturn, 1) := by decide +kernel
theorem dX9_deliveredAfter_0 : decode cX9_deliveredAfter 0 = .ok (.iload_n 1, 1) := by decide +kernel
theorem dX9_deliveredAfter_1 : decode cX9_deliveredAfter 1 = .ok (.iconst 0, 1) := by decide +kernel
theorem dX9_deliveredAfter_2 : decode cX9_deliveredAfter 2 = .ok (.bipush 120, 2) := by decide +kernel
theorem dX9_deliveredAfter_4 : decode cX9_deliveredAfter 4 = .ok (.invokestatic 274, 3) := by decide +kernel
theorem dX9_deliveredAfter_7 : decode cX9_deliveredAfter 7 = .ok (.aload_n 0, 1) := by decide +kernel
theorem dX9_deliveredAfter_8 : decode cX9_deliveredAfter 8 = .ok (.getfield 16, 3) := by decide +kernel
theorem dX9_deliveredAfter_11 : decode cX9_deliveredAfter 11 = .ok (.aload_n 0, 1) := by decide +kernel
theorem dX9_deliveredAfter_12 : decode cX9_deliveredAfter 12 = .ok (.getfield 10, 3) := by decide +kernel
theorem dX9_deliveredAfter_15 : decode cX9_deliveredAfter 15 = .ok (.invokevirtual 66, 3) := by decide +kernel
theorem dX9_deliveredAfter_18 : decode cX9_deliveredAfter 18 = .ok (.aload_n 0, 1) := by decide +kernel
theorem dX9_deliveredAfter_19 : decode cX9_deliveredAfter 19 = .ok (.getfield 16, 3) := by decide +kernel
theorem dX9_deliveredAfter_22 : decode cX9_deliveredAfter 22 = .ok (.iload_n 1, 1) := by decide +kernel
theorem dX9_deliveredAfter_23 : decode cX9_deliveredAfter 23 = .ok (.invokevirtual 278, 3) := by decide +kernel
theorem dX9_deliveredAfter_26 : decode cX9_deliveredAfter 26 = .ok (.aload_n 0, 1) := by decide +kernel
theorem dX9_deliveredAfter_27 : decode cX9_deliveredAfter 27 = .ok (.getfield 16, 3) := by decide +kernel
theorem dX9_deliveredAfter_30 : decode cX9_deliveredAfter 30 = .ok (.invokevirtual 249, 3) := by decide +kernel
theorem dX9_deliveredAfter_33 : decode cX9_deliveredAfter 33 = .ok (.ireturn, 1) := by decide +kernel
theorem dX9_deliveredIfClosed_0 : decode cX9_deliveredIfClosed 0 = .ok (.aload_n 0, 1) := by decide +kernel
theorem dX9_deliveredIfClosed_1 : decode cX9_deliveredIfClosed 1 = .ok (.iload_n 1, 1) := by decide +kernel
theorem dX9_deliveredIfClosed_2 : decode cX9_deliveredIfClosed 2 = .ok (.invokevirtual 115, 3) := by decide +kernel
theorem dX9_deliveredIfClosed_5 : decode cX9_deliveredIfClosed 5 = .ok (.aload_n 0, 1) := by decide +kernel
theorem dX9_deliveredIfClosed_6 : decode cX9_deliveredIfClosed 6 = .ok (.iload_n 2, 1) := by decide +kernel
theorem dX9_deliveredIfClosed_7 : decode cX9_deliveredIfClosed 7 = .ok (.invokevirtual 115, 3) := by decide +kernel
theorem dX9_deliveredIfClosed_10 : decode cX9_deliveredIfClosed 10 = .ok (.aload_n 0, 1) := by decide +kernel
theorem dX9_deliveredIfClosed_11 : decode cX9_deliveredIfClosed 11 = .ok (.iload_n 1, 1) := by decide +kernel
theorem dX9_deliveredIfClosed_12 : decode cX9_deliveredIfClosed 12 = .ok (.iload_n 2, 1) := by decide +kernel
theorem dX9_deliveredIfClosed_13 : decode cX9_deliveredIfClosed 13 = .ok (.invokevirtual 281, 3) := by decide +kernel
theorem dX9_deliveredIfClosed_16 : decode cX9_deliveredIfClosed 16 = .ok (.istore 4, 2) := by decide +kernel
theorem dX9_deliveredIfClosed_18 : decode cX9_deliveredIfClosed 18 = .ok (.iload_n 3, 1) := by decide +kernel
theorem dX9_deliveredIfClosed_19 : decode cX9_deliveredIfClosed 19 = .ok (.iconst 0, 1) := by decide +kernel
theorem dX9_deliveredIfClosed_20 : decode cX9_deliveredIfClosed 20 = .ok (.bipush 120, 2) := by decide +kernel
theorem dX9_deliveredIfClosed_22 : decode cX9_deliveredIfClosed 22 = .ok (.invokestatic 274, 3) := by decide +kernel
theorem dX9_deliveredIfClosed_25 : decode cX9_deliveredIfClosed 25 = .ok (.aload_n 0, 1) := by decide +kernel
theorem dX9_deliveredIfClosed_26 : decode cX9_deliveredIfClosed 26 = .ok (.iload 4, 2) := by decide +kernel
theorem dX9_deliveredIfClosed_28 : decode cX9_deliveredIfClosed 28 = .ok (.iload_n 3, 1) := by decide +kernel
theorem dX9_deliveredIfClosed_29 : decode cX9_deliveredIfClosed 29 = .ok (.invokevirtual 284, 3) := by decide +kernel
theorem dX9_deliveredIfClosed_32 : decode cX9_deliveredIfClosed 32 = .ok (.ireturn, 1) := by decide +kernel
theorem dX9_worstClosure_0 : decode cX9_worstClosure 0 = .ok (.iconst (-1), 1) := by decide +kernel
theorem dX9_worstClosure_1 : decode cX9_worstClosure 1 = .ok (.istore_n 1, 1) := by decide +kernel
theorem dX9_worstClosure_2 : decode cX9_worstClosure 2 = .ok (.iconst 0, 1) := by decide +kernel
theorem dX9_worstClosure_3 : decode cX9_worstClosure 3 = .ok (.istore_n 2, 1) := by decide +kernel
theorem dX9_worstClosure_4 : decode cX9_worstClosure 4 = .ok (.iconst 0, 1) := by decide +kernel
theorem dX9_worstClosure_5 : decode cX9_worstClosure 5 = .ok (.istore_n 3, 1) := by decide +kernel
theorem dX9_worstClosure_6 : decode cX9_worstClosure 6 = .ok (.iload_n 3, 1) := by decide +kernel
theorem dX9_worstClosure_7 : decode cX9_worstClosure 7 = .ok (.aload_n 0, 1) := by decide +kernel
theorem dX9_worstClosure_8 : decode cX9_worstClosure 8 = .ok (.getfield 10, 3) := by decide +kernel
theorem dX9_worstClosure_11 : decode cX9_worstClosure 11 = .ok (.getfield 106, 3) := by decide +kernel
theorem dX9_worstClosure_14 : decode cX9_worstClosure 14 = .ok (.if_icmp .ge 34, 3) := by decide +kernel
theorem dX9_worstClosure_17 : decode cX9_worstClosure 17 = .ok (.aload_n 0, 1) := by decide +kernel
theorem dX9_worstClosure_18 : decode cX9_worstClosure 18 = .ok (.iload_n 3, 1) := by decide +kernel
theorem dX9_worstClosure_19 : decode cX9_worstClosure 19 = .ok (.bipush 60, 2) := by decide +kernel
theorem dX9_worstClosure_21 : decode cX9_worstClosure 21 = .ok (.invokevirtual 284, 3) := by decide +kernel
theorem dX9_worstClosure_24 : decode cX9_worstClosure 24 = .ok (.istore 4, 2) := by decide +kernel
theorem dX9_worstClosure_26 : decode cX9_worstClosure 26 = .ok (.iload_n 1, 1) := by decide +kernel
theorem dX9_worstClosure_27 : decode cX9_worstClosure 27 = .ok (.iconst (-1), 1) := by decide +kernel
theorem dX9_worstClosure_28 : decode cX9_worstClosure 28 = .ok (.if_icmp .eq 9, 3) := by decide +kernel
theorem dX9_worstClosure_31 : decode cX9_worstClosure 31 = .ok (.iload 4, 2) := by decide +kernel
theorem dX9_worstClosure_33 : decode cX9_worstClosure 33 = .ok (.iload_n 2, 1) := by decide +kernel
theorem dX9_worstClosure_34 : decode cX9_worstClosure 34 = .ok (.if_icmp .ge 8, 3) := by decide +kernel
theorem dX9_worstClosure_37 : decode cX9_worstClosure 37 = .ok (.iload_n 3, 1) := by decide +kernel
theorem dX9_worstClosure_38 : decode cX9_worstClosure 38 = .ok (.istore_n 1, 1) := by decide +kernel
theorem dX9_worstClosure_39 : decode cX9_worstClosure 39 = .ok (.iload 4, 2) := by decide +kernel
theorem dX9_worstClosure_41 : decode cX9_worstClosure 41 = .ok (.istore_n 2, 1) := by decide +kernel
theorem dX9_worstClosure_42 : decode cX9_worstClosure 42 = .ok (.iinc 3 1, 3) := by decide +kernel
theorem dX9_worstClosure_45 : decode cX9_worstClosure 45 = .ok (.goto (-39), 3) := by decide +kernel
theorem dX9_worstClosure_48 : decode cX9_worstClosure 48 = .ok (.iload_n 1, 1) := by decide +kernel
theorem dX9_worstClosure_49 : decode cX9_worstClosure 49 = .ok (.ireturn, 1) := by decide +kernel
theorem dX9_pass_0 : decode cX9_pass 0 = .ok (.iload_n 1, 1) := by decide +kernel
theorem dX9_pass_1 : decode cX9_pass 1 = .ok (.iconst 1, 1) := by decide +kernel
theorem dX9_pass_2 : decode cX9_pass 2 = .ok (.bipush 60, 2) := by decide +kernel
theorem dX9_pass_4 : decode cX9_pass 4 = .ok (.invokestatic 274, 3) := by decide +kernel
theorem dX9_pass_7 : decode cX9_pass 7 = .ok (.aload_n 0, 1) := by decide +kernel
theorem dX9_pass_8 : decode cX9_pass 8 = .ok (.getfield 29, 3) := by decide +kernel
theorem dX9_pass_11 : decode cX9_pass 11 = .ok (.aload_n 0, 1) := by decide +kernel
theorem dX9_pass_12 : decode cX9_pass 12 = .ok (.getfield 10, 3) := by decide +kernel
theorem dX9_pass_15 : decode cX9_pass 15 = .ok (.invokevirtual 94, 3) := by decide +kernel
theorem dX9_pass_18 : decode cX9_pass 18 = .ok (.aload_n 0, 1) := by decide +kernel
theorem dX9_pass_19 : decode cX9_pass 19 = .ok (.getfield 10, 3) := by decide +kernel
theorem dX9_pass_22 : decode cX9_pass 22 = .ok (.invokevirtual 249, 3) := by decide +kernel
theorem dX9_pass_25 : decode cX9_pass 25 = .ok (.istore_n 2, 1) := by decide +kernel
theorem dX9_pass_26 : decode cX9_pass 26 = .ok (.aload_n 0, 1) := by decide +kernel
theorem dX9_pass_27 : decode cX9_pass 27 = .ok (.getfield 10, 3) := by decide +kernel
theorem dX9_pass_30 : decode cX9_pass 30 = .ok (.iload_n 1, 1) := by decide +kernel
theorem dX9_pass_31 : decode cX9_pass 31 = .ok (.invokevirtual 278, 3) := by decide +kernel
theorem dX9_pass_34 : decode cX9_pass 34 = .ok (.aload_n 0, 1) := by decide +kernel
theorem dX9_pass_35 : decode cX9_pass 35 = .ok (.getfield 10, 3) := by decide +kernel
theorem dX9_pass_38 : decode cX9_pass 38 = .ok (.invokevirtual 249, 3) := by decide +kernel
theorem dX9_pass_41 : decode cX9_pass 41 = .ok (.iload_n 2, 1) := by decide +kernel
theorem dX9_pass_42 : decode cX9_pass 42 = .ok (.isub, 1) := by decide +kernel
theorem dX9_pass_43 : decode cX9_pass 43 = .ok (.ireturn, 1) := by decide +kernel
theorem dX9_addParcel_0 : decode cX9_addParcel 0 = .ok (.aload_n 0, 1) := by decide +kernel
theorem dX9_addParcel_1 : decode cX9_addParcel 1 = .ok (.iload_n 1, 1) := by decide +kernel
theorem dX9_addParcel_2 : decode cX9_addParcel 2 = .ok (.invokevirtual 115, 3) := by decide +kernel
theorem dX9_addParcel_5 : decode cX9_addParcel 5 = .ok (.aload_n 0, 1) := by decide +kernel
theorem dX9_addParcel_6 : decode cX9_addParcel 6 = .ok (.iload_n 2, 1) := by decide +kernel
theorem dX9_addParcel_7 : decode cX9_addParcel 7 = .ok (.invokevirtual 115, 3) := by decide +kernel
theorem dX9_addParcel_10 : decode cX9_addParcel 10 = .ok (.iload_n 1, 1) := by decide +kernel
theorem dX9_addParcel_11 : decode cX9_addParcel 11 = .ok (.iload_n 2, 1) := by decide +kernel
theorem dX9_addParcel_12 : decode cX9_addParcel 12 = .ok (.if_icmp .ne 14, 3) := by decide +kernel
theorem dX9_addParcel_15 : decode cX9_addParcel 15 = .ok (.new 84, 3) := by decide +kernel
theorem dX9_addParcel_18 : decode cX9_addParcel 18 = .ok (.dup, 1) := by decide +kernel
theorem dX9_addParcel_19 : decode cX9_addParcel 19 = .ok (.ldc_w 287, 3) := by decide +kernel
theorem dX9_addParcel_22 : decode cX9_addParcel 22 = .ok (.invokespecial 88, 3) := by decide +kernel
theorem dX9_addParcel_25 : decode cX9_addParcel 25 = .ok (.athrow, 1) := by decide +kernel
theorem dX9_addParcel_26 : decode cX9_addParcel 26 = .ok (.iload_n 3, 1) := by decide +kernel
theorem dX9_addParcel_27 : decode cX9_addParcel 27 = .ok (.iconst 1, 1) := by decide +kernel
theorem dX9_addParcel_28 : decode cX9_addParcel 28 = .ok (.bipush 9, 2) := by decide +kernel
theorem dX9_addParcel_30 : decode cX9_addParcel 30 = .ok (.invokestatic 274, 3) := by decide +kernel
theorem dX9_addParcel_33 : decode cX9_addParcel 33 = .ok (.aload_n 0, 1) := by decide +kernel
theorem dX9_addParcel_34 : decode cX9_addParcel 34 = .ok (.getfield 10, 3) := by decide +kernel
theorem dX9_addParcel_37 : decode cX9_addParcel 37 = .ok (.getfield 112, 3) := by decide +kernel
theorem dX9_addParcel_40 : decode cX9_addParcel 40 = .ok (.bipush 12, 2) := by decide +kernel
theorem dX9_addParcel_42 : decode cX9_addParcel 42 = .ok (.if_icmp .lt 14, 3) := by decide +kernel
theorem dX9_addParcel_45 : decode cX9_addParcel 45 = .ok (.new 74, 3) := by decide +kernel
theorem dX9_addParcel_48 : decode cX9_addParcel 48 = .ok (.dup, 1) := by decide +kernel
theorem dX9_addParcel_49 : decode cX9_addParcel 49 = .ok (.ldc_w 289, 3) := by decide +kernel
theorem dX9_addParcel_52 : decode cX9_addParcel 52 = .ok (.invokespecial 78, 3) := by decide +kernel
theorem dX9_addParcel_55 : decode cX9_addParcel 55 = .ok (.athrow, 1) := by decide +kernel
theorem dX9_addParcel_56 : decode cX9_addParcel 56 = .ok (.aload_n 0, 1) := by decide +kernel
theorem dX9_addParcel_57 : decode cX9_addParcel 57 = .ok (.getfield 29, 3) := by decide +kernel
theorem dX9_addParcel_60 : decode cX9_addParcel 60 = .ok (.aload_n 0, 1) := by decide +kernel
theorem dX9_addParcel_61 : decode cX9_addParcel 61 = .ok (.getfield 10, 3) := by decide +kernel
theorem dX9_addParcel_64 : decode cX9_addParcel 64 = .ok (.invokevirtual 94, 3) := by decide +kernel
theorem dX9_addParcel_67 : decode cX9_addParcel 67 = .ok (.aload_n 0, 1) := by decide +kernel
theorem dX9_addParcel_68 : decode cX9_addParcel 68 = .ok (.getfield 10, 3) := by decide +kernel
theorem dX9_addParcel_71 : decode cX9_addParcel 71 = .ok (.iload_n 1, 1) := by decide +kernel
theorem dX9_addParcel_72 : decode cX9_addParcel 72 = .ok (.iload_n 2, 1) := by decide +kernel
theorem dX9_addParcel_73 : decode cX9_addParcel 73 = .ok (.iload_n 3, 1) := by decide +kernel
theorem dX9_addParcel_74 : decode cX9_addParcel 74 = .ok (.invokevirtual 291, 3) := by decide +kernel
theorem dX9_addParcel_77 : decode cX9_addParcel 77 = .ok (.aload_n 0, 1) := by decide +kernel
theorem dX9_addParcel_78 : decode cX9_addParcel 78 = .ok (.getfield 10, 3) := by decide +kernel
theorem dX9_addParcel_81 : decode cX9_addParcel 81 = .ok (.getfield 112, 3) := by decide +kernel
theorem dX9_addParcel_84 : decode cX9_addParcel 84 = .ok (.iconst 1, 1) := by decide +kernel
theorem dX9_addParcel_85 : decode cX9_addParcel 85 = .ok (.isub, 1) := by decide +kernel
theorem dX9_addParcel_86 : decode cX9_addParcel 86 = .ok (.ireturn, 1) := by decide +kernel
theorem dX9_setTrackOpen_0 : decode cX9_setTrackOpen 0 = .ok (.aload_n 0, 1) := by decide +kernel
theorem dX9_setTrackOpen_1 : decode cX9_setTrackOpen 1 = .ok (.iload_n 1, 1) := by decide +kernel
theorem dX9_setTrackOpen_2 : decode cX9_setTrackOpen 2 = .ok (.invokevirtual 115, 3) := by decide +kernel
theorem dX9_setTrackOpen_5 : decode cX9_setTrackOpen 5 = .ok (.aload_n 0, 1) := by decide +kernel
theorem dX9_setTrackOpen_6 : decode cX9_setTrackOpen 6 = .ok (.iload_n 2, 1) := by decide +kernel
theorem dX9_setTrackOpen_7 : decode cX9_setTrackOpen 7 = .ok (.invokevirtual 115, 3) := by decide +kernel
theorem dX9_setTrackOpen_10 : decode cX9_setTrackOpen 10 = .ok (.aload_n 0, 1) := by decide +kernel
theorem dX9_setTrackOpen_11 : decode cX9_setTrackOpen 11 = .ok (.iload_n 1, 1) := by decide +kernel
theorem dX9_setTrackOpen_12 : decode cX9_setTrackOpen 12 = .ok (.iload_n 2, 1) := by decide +kernel
theorem dX9_setTrackOpen_13 : decode cX9_setTrackOpen 13 = .ok (.invokevirtual 281, 3) := by decide +kernel
theorem dX9_setTrackOpen_16 : decode cX9_setTrackOpen 16 = .ok (.istore 4, 2) := by decide +kernel
theorem dX9_setTrackOpen_18 : decode cX9_setTrackOpen 18 = .ok (.aload_n 0, 1) := by decide +kernel
theorem dX9_setTrackOpen_19 : decode cX9_setTrackOpen 19 = .ok (.getfield 10, 3) := by decide +kernel
theorem dX9_setTrackOpen_22 : decode cX9_setTrackOpen 22 = .ok (.getfield 147, 3) := by decide +kernel
theorem dX9_setTrackOpen_25 : decode cX9_setTrackOpen 25 = .ok (.iload 4, 2) := by decide +kernel
theorem dX9_setTrackOpen_27 : decode cX9_setTrackOpen 27 = .ok (.aaload, 1) := by decide +kernel
theorem dX9_setTrackOpen_28 : decode cX9_setTrackOpen 28 = .ok (.getfield 156, 3) := by decide +kernel
theorem dX9_setTrackOpen_31 : decode cX9_setTrackOpen 31 = .ok (.istore 5, 2) := by decide +kernel
theorem dX9_setTrackOpen_33 : decode cX9_setTrackOpen 33 = .ok (.aload_n 0, 1) := by decide +kernel
theorem dX9_setTrackOpen_34 : decode cX9_setTrackOpen 34 = .ok (.getfield 29, 3) := by decide +kernel
theorem dX9_setTrackOpen_37 : decode cX9_setTrackOpen 37 = .ok (.aload_n 0, 1) := by decide +kernel
theorem dX9_setTrackOpen_38 : decode cX9_setTrackOpen 38 = .ok (.getfield 10, 3) := by decide +kernel
theorem dX9_setTrackOpen_41 : decode cX9_setTrackOpen 41 = .ok (.invokevirtual 94, 3) := by decide +kernel
theorem dX9_setTrackOpen_44 : decode cX9_setTrackOpen 44 = .ok (.aload_n 0, 1) := by decide +kernel
theorem dX9_setTrackOpen_45 : decode cX9_setTrackOpen 45 = .ok (.getfield 10, 3) := by decide +kernel
theorem dX9_setTrackOpen_48 : decode cX9_setTrackOpen 48 = .ok (.iload 4, 2) := by decide +kernel
theorem dX9_setTrackOpen_50 : decode cX9_setTrackOpen 50 = .ok (.iload_n 3, 1) := by decide +kernel
theorem dX9_setTrackOpen_51 : decode cX9_setTrackOpen 51 = .ok (.invokevirtual 294, 3) := by decide +kernel
theorem dX9_setTrackOpen_54 : decode cX9_setTrackOpen 54 = .ok (.iload 5, 2) := by decide +kernel
theorem dX9_setTrackOpen_56 : decode cX9_setTrackOpen 56 = .ok (.ireturn, 1) := by decide +kernel
theorem dX9_setPriority_0 : decode cX9_setPriority 0 = .ok (.aload_n 0, 1) := by decide +kernel
theorem dX9_setPriority_1 : decode cX9_setPriority 1 = .ok (.iload_n 1, 1) := by decide +kernel
theorem dX9_setPriority_2 : decode cX9_setPriority 2 = .ok (.invokevirtual 208, 3) := by decide +kernel
theorem dX9_setPriority_5 : decode cX9_setPriority 5 = .ok (.iload_n 2, 1) := by decide +kernel
theorem dX9_setPriority_6 : decode cX9_setPriority 6 = .ok (.iconst 1, 1) := by decide +kernel
theorem dX9_setPriority_7 : decode cX9_setPriority 7 = .ok (.bipush 9, 2) := by decide +kernel
theorem dX9_setPriority_9 : decode cX9_setPriority 9 = .ok (.invokestatic 274, 3) := by decide +kernel
theorem dX9_setPriority_12 : decode cX9_setPriority 12 = .ok (.aload_n 0, 1) := by decide +kernel
theorem dX9_setPriority_13 : decode cX9_setPriority 13 = .ok (.getfield 10, 3) := by decide +kernel
theorem dX9_setPriority_16 : decode cX9_setPriority 16 = .ok (.getfield 211, 3) := by decide +kernel
theorem dX9_setPriority_19 : decode cX9_setPriority 19 = .ok (.iload_n 1, 1) := by decide +kernel
theorem dX9_setPriority_20 : decode cX9_setPriority 20 = .ok (.aaload, 1) := by decide +kernel
theorem dX9_setPriority_21 : decode cX9_setPriority 21 = .ok (.getfield 223, 3) := by decide +kernel
theorem dX9_setPriority_24 : decode cX9_setPriority 24 = .ok (.istore_n 3, 1) := by decide +kernel
theorem dX9_setPriority_25 : decode cX9_setPriority 25 = .ok (.aload_n 0, 1) := by decide +kernel
theorem dX9_setPriority_26 : decode cX9_setPriority 26 = .ok (.getfield 29, 3) := by decide +kernel
theorem dX9_setPriority_29 : decode cX9_setPriority 29 = .ok (.aload_n 0, 1) := by decide +kernel
theorem dX9_setPriority_30 : decode cX9_setPriority 30 = .ok (.getfield 10, 3) := by decide +kernel
theorem dX9_setPriority_33 : decode cX9_setPriority 33 = .ok (.invokevirtual 94, 3) := by decide +kernel
theorem dX9_setPriority_36 : decode cX9_setPriority 36 = .ok (.aload_n 0, 1) := by decide +kernel
theorem dX9_setPriority_37 : decode cX9_setPriority 37 = .ok (.getfield 10, 3) := by decide +kernel
theorem dX9_setPriority_40 : decode cX9_setPriority 40 = .ok (.getfield 211, 3) := by decide +kernel
theorem dX9_setPriority_43 : decode cX9_setPriority 43 = .ok (.iload_n 1, 1) := by decide +kernel
theorem dX9_setPriority_44 : decode cX9_setPriority 44 = .ok (.aaload, 1) := by decide +kernel
theorem dX9_setPriority_45 : decode cX9_setPriority 45 = .ok (.iload_n 2, 1) := by decide +kernel
theorem dX9_setPriority_46 : decode cX9_setPriority 46 = .ok (.putfield 223, 3) := by decide +kernel
theorem dX9_setPriority_49 : decode cX9_setPriority 49 = .ok (.iload_n 3, 1) := by decide +kernel
theorem dX9_setPriority_50 : decode cX9_setPriority 50 = .ok (.ireturn, 1) := by decide +kernel
theorem dX9_setInspection_0 : decode cX9_setInspection 0 = .ok (.aload_n 0, 1) := by decide +kernel
theorem dX9_setInspection_1 : decode cX9_setInspection 1 = .ok (.iload_n 1, 1) := by decide +kernel
theorem dX9_setInspection_2 : decode cX9_setInspection 2 = .ok (.invokevirtual 115, 3) := by decide +kernel
theorem dX9_setInspection_5 : decode cX9_setInspection 5 = .ok (.iload_n 2, 1) := by decide +kernel
theorem dX9_setInspection_6 : decode cX9_setInspection 6 = .ok (.iconst 0, 1) := by decide +kernel
theorem dX9_setInspection_7 : decode cX9_setInspection 7 = .ok (.bipush 9, 2) := by decide +kernel
theorem dX9_setInspection_9 : decode cX9_setInspection 9 = .ok (.invokestatic 274, 3) := by decide +kernel
theorem dX9_setInspection_12 : decode cX9_setInspection 12 = .ok (.aload_n 0, 1) := by decide +kernel
theorem dX9_setInspection_13 : decode cX9_setInspection 13 = .ok (.getfield 10, 3) := by decide +kernel
theorem dX9_setInspection_16 : decode cX9_setInspection 16 = .ok (.getfield 118, 3) := by decide +kernel
theorem dX9_setInspection_19 : decode cX9_setInspection 19 = .ok (.iload_n 1, 1) := by decide +kernel
theorem dX9_setInspection_20 : decode cX9_setInspection 20 = .ok (.aaload, 1) := by decide +kernel
theorem dX9_setInspection_21 : decode cX9_setInspection 21 = .ok (.getfield 128, 3) := by decide +kernel
theorem dX9_setInspection_24 : decode cX9_setInspection 24 = .ok (.istore_n 3, 1) := by decide +kernel
theorem dX9_setInspection_25 : decode cX9_setInspection 25 = .ok (.aload_n 0, 1) := by decide +kernel
theorem dX9_setInspection_26 : decode cX9_setInspection 26 = .ok (.getfield 29, 3) := by decide +kernel
theorem dX9_setInspection_29 : decode cX9_setInspection 29 = .ok (.aload_n 0, 1) := by decide +kernel
theorem dX9_setInspection_30 : decode cX9_setInspection 30 = .ok (.getfield 10, 3) := by decide +kernel
theorem dX9_setInspection_33 : decode cX9_setInspection 33 = .ok (.invokevirtual 94, 3) := by decide +kernel
theorem dX9_setInspection_36 : decode cX9_setInspection 36 = .ok (.aload_n 0, 1) := by decide +kernel
theorem dX9_setInspection_37 : decode cX9_setInspection 37 = .ok (.getfield 10, 3) := by decide +kernel
theorem dX9_setInspection_40 : decode cX9_setInspection 40 = .ok (.getfield 118, 3) := by decide +kernel
theorem dX9_setInspection_43 : decode cX9_setInspection 43 = .ok (.iload_n 1, 1) := by decide +kernel
theorem dX9_setInspection_44 : decode cX9_setInspection 44 = .ok (.aaload, 1) := by decide +kernel
theorem dX9_setInspection_45 : decode cX9_setInspection 45 = .ok (.iload_n 2, 1) := by decide +kernel
theorem dX9_setInspection_46 : decode cX9_setInspection 46 = .ok (.putfield 128, 3) := by decide +kernel
theorem dX9_setInspection_49 : decode cX9_setInspection 49 = .ok (.iload_n 3, 1) := by decide +kernel
theorem dX9_setInspection_50 : decode cX9_setInspection 50 = .ok (.ireturn, 1) := by decide +kernel
theorem dX9_withdraw_0 : decode cX9_withdraw 0 = .ok (.aload_n 0, 1) := by decide +kernel
theorem dX9_withdraw_1 : decode cX9_withdraw 1 = .ok (.iload_n 1, 1) := by decide +kernel
theorem dX9_withdraw_2 : decode cX9_withdraw 2 = .ok (.invokevirtual 208, 3) := by decide +kernel
theorem dX9_withdraw_5 : decode cX9_withdraw 5 = .ok (.aload_n 0, 1) := by decide +kernel
theorem dX9_withdraw_6 : decode cX9_withdraw 6 = .ok (.getfield 10, 3) := by decide +kernel
theorem dX9_withdraw_9 : decode cX9_withdraw 9 = .ok (.getfield 211, 3) := by decide +kernel
theorem dX9_withdraw_12 : decode cX9_withdraw 12 = .ok (.iload_n 1, 1) := by decide +kernel
theorem dX9_withdraw_13 : decode cX9_withdraw 13 = .ok (.aaload, 1) := by decide +kernel
theorem dX9_withdraw_14 : decode cX9_withdraw 14 = .ok (.astore_n 2, 1) := by decide +kernel
theorem dX9_withdraw_15 : decode cX9_withdraw 15 = .ok (.aload_n 2, 1) := by decide +kernel
theorem dX9_withdraw_16 : decode cX9_withdraw 16 = .ok (.getfield 226, 3) := by decide +kernel
theorem dX9_withdraw_19 : decode cX9_withdraw 19 = .ok (.iconst (-1), 1) := by decide +kernel
theorem dX9_withdraw_20 : decode cX9_withdraw 20 = .ok (.if_icmp .ne 14, 3) := by decide +kernel
theorem dX9_withdraw_23 : decode cX9_withdraw 23 = .ok (.new 74, 3) := by decide +kernel
theorem dX9_withdraw_26 : decode cX9_withdraw 26 = .ok (.dup, 1) := by decide +kernel
theorem dX9_withdraw_27 : decode cX9_withdraw 27 = .ok (.ldc_w 298, 3) := by decide +kernel
theorem dX9_withdraw_30 : decode cX9_withdraw 30 = .ok (.invokespecial 78, 3) := by decide +kernel
theorem dX9_withdraw_33 : decode cX9_withdraw 33 = .ok (.athrow, 1) := by decide +kernel
theorem dX9_withdraw_34 : decode cX9_withdraw 34 = .ok (.aload_n 0, 1) := by decide +kernel
theorem dX9_withdraw_35 : decode cX9_withdraw 35 = .ok (.getfield 29, 3) := by decide +kernel
theorem dX9_withdraw_38 : decode cX9_withdraw 38 = .ok (.aload_n 0, 1) := by decide +kernel
theorem dX9_withdraw_39 : decode cX9_withdraw 39 = .ok (.getfield 10, 3) := by decide +kernel
theorem dX9_withdraw_42 : decode cX9_withdraw 42 = .ok (.invokevirtual 94, 3) := by decide +kernel
theorem dX9_withdraw_45 : decode cX9_withdraw 45 = .ok (.aload_n 2, 1) := by decide +kernel
theorem dX9_withdraw_46 : decode cX9_withdraw 46 = .ok (.aload_n 0, 1) := by decide +kernel
theorem dX9_withdraw_47 : decode cX9_withdraw 47 = .ok (.getfield 10, 3) := by decide +kernel
theorem dX9_withdraw_50 : decode cX9_withdraw 50 = .ok (.getfield 103, 3) := by decide +kernel
theorem dX9_withdraw_53 : decode cX9_withdraw 53 = .ok (.invokevirtual 300, 3) := by decide +kernel
theorem dX9_withdraw_56 : decode cX9_withdraw 56 = .ok (.aload_n 2, 1) := by decide +kernel
theorem dX9_withdraw_57 : decode cX9_withdraw 57 = .ok (.invokevirtual 264, 3) := by decide +kernel
theorem dX9_withdraw_60 : decode cX9_withdraw 60 = .ok (.ifCond .eq 7, 3) := by decide +kernel
theorem dX9_withdraw_63 : decode cX9_withdraw 63 = .ok (.iconst (-1), 1) := by decide +kernel
theorem dX9_withdraw_64 : decode cX9_withdraw 64 = .ok (.goto 7, 3) := by decide +kernel
theorem dX9_withdraw_67 : decode cX9_withdraw 67 = .ok (.aload_n 2, 1) := by decide +kernel
theorem dX9_withdraw_68 : decode cX9_withdraw 68 = .ok (.getfield 220, 3) := by decide +kernel
theorem dX9_withdraw_71 : decode cX9_withdraw 71 = .ok (.ireturn, 1) := by decide +kernel
theorem dX9_writeTrains_0 : decode cX9_writeTrains 0 = .ok (.aload_n 0, 1) := by decide +kernel
theorem dX9_writeTrains_1 : decode cX9_writeTrains 1 = .ok (.getfield 36, 3) := by decide +kernel
theorem dX9_writeTrains_4 : decode cX9_writeTrains 4 = .ok (.iconst 0, 1) := by decide +kernel
theorem dX9_writeTrains_5 : decode cX9_writeTrains 5 = .ok (.putfield 303, 3) := by decide +kernel
theorem dX9_writeTrains_8 : decode cX9_writeTrains 8 = .ok (.iconst 0, 1) := by decide +kernel
theorem dX9_writeTrains_9 : decode cX9_writeTrains 9 = .ok (.istore_n 1, 1) := by decide +kernel
theorem dX9_writeTrains_10 : decode cX9_writeTrains 10 = .ok (.iload_n 1, 1) := by decide +kernel
theorem dX9_writeTrains_11 : decode cX9_writeTrains 11 = .ok (.aload_n 0, 1) := by decide +kernel
theorem dX9_writeTrains_12 : decode cX9_writeTrains 12 = .ok (.getfield 10, 3) := by decide +kernel
theorem dX9_writeTrains_15 : decode cX9_writeTrains 15 = .ok (.getfield 109, 3) := by decide +kernel
theorem dX9_writeTrains_18 : decode cX9_writeTrains 18 = .ok (.if_icmp .ge 62, 3) := by decide +kernel
theorem dX9_writeTrains_21 : decode cX9_writeTrains 21 = .ok (.iload_n 1, 1) := by decide +kernel
theorem dX9_writeTrains_22 : decode cX9_writeTrains 22 = .ok (.ifCond .le 12, 3) := by decide +kernel
theorem dX9_writeTrains_25 : decode cX9_writeTrains 25 = .ok (.aload_n 0, 1) := by decide +kernel
theorem dX9_writeTrains_26 : decode cX9_writeTrains 26 = .ok (.getfield 36, 3) := by decide +kernel
theorem dX9_writeTrains_29 : decode cX9_writeTrains 29 = .ok (.bipush 32, 2) := by decide +kernel
theorem dX9_writeTrains_31 : decode cX9_writeTrains 31 = .ok (.invokevirtual 304, 3) := by decide +kernel
theorem dX9_writeTrains_34 : decode cX9_writeTrains 34 = .ok (.aload_n 0, 1) := by decide +kernel
theorem dX9_writeTrains_35 : decode cX9_writeTrains 35 = .ok (.aload_n 0, 1) := by decide +kernel
theorem dX9_writeTrains_36 : decode cX9_writeTrains 36 = .ok (.getfield 10, 3) := by decide +kernel
theorem dX9_writeTrains_39 : decode cX9_writeTrains 39 = .ok (.getfield 165, 3) := by decide +kernel
theorem dX9_writeTrains_42 : decode cX9_writeTrains 42 = .ok (.iload_n 1, 1) := by decide +kernel
theorem dX9_writeTrains_43 : decode cX9_writeTrains 43 = .ok (.aaload, 1) := by decide +kernel
theorem dX9_writeTrains_44 : decode cX9_writeTrains 44 = .ok (.invokevirtual 307, 3) := by decide +kernel
theorem dX9_writeTrains_47 : decode cX9_writeTrains 47 = .ok (.aload_n 0, 1) := by decide +kernel
theorem dX9_writeTrains_48 : decode cX9_writeTrains 48 = .ok (.getfield 36, 3) := by decide +kernel
theorem dX9_writeTrains_51 : decode cX9_writeTrains 51 = .ok (.bipush 58, 2) := by decide +kernel
theorem dX9_writeTrains_53 : decode cX9_writeTrains 53 = .ok (.invokevirtual 304, 3) := by decide +kernel
theorem dX9_writeTrains_56 : decode cX9_writeTrains 56 = .ok (.aload_n 0, 1) := by decide +kernel
theorem dX9_writeTrains_57 : decode cX9_writeTrains 57 = .ok (.getfield 36, 3) := by decide +kernel
theorem dX9_writeTrains_60 : decode cX9_writeTrains 60 = .ok (.bipush 48, 2) := by decide +kernel
theorem dX9_writeTrains_62 : decode cX9_writeTrains 62 = .ok (.aload_n 0, 1) := by decide +kernel
theorem dX9_writeTrains_63 : decode cX9_writeTrains 63 = .ok (.getfield 10, 3) := by decide +kernel
theorem dX9_writeTrains_66 : decode cX9_writeTrains 66 = .ok (.iload_n 1, 1) := by decide +kernel
theorem dX9_writeTrains_67 : decode cX9_writeTrains 67 = .ok (.invokevirtual 180, 3) := by decide +kernel
theorem dX9_writeTrains_70 : decode cX9_writeTrains 70 = .ok (.iadd, 1) := by decide +kernel
theorem dX9_writeTrains_71 : decode cX9_writeTrains 71 = .ok (.invokevirtual 304, 3) := by decide +kernel
theorem dX9_writeTrains_74 : decode cX9_writeTrains 74 = .ok (.iinc 1 1, 3) := by decide +kernel
theorem dX9_writeTrains_77 : decode cX9_writeTrains 77 = .ok (.goto (-67), 3) := by decide +kernel
theorem dX9_writeTrains_80 : decode cX9_writeTrains 80 = .ok (.aload_n 0, 1) := by decide +kernel
theorem dX9_writeTrains_81 : decode cX9_writeTrains 81 = .ok (.getfield 36, 3) := by decide +kernel
theorem dX9_writeTrains_84 : decode cX9_writeTrains 84 = .ok (.getfield 303, 3) := by decide +kernel
theorem dX9_writeTrains_87 : decode cX9_writeTrains 87 = .ok (.ireturn, 1) := by decide +kernel
theorem dX9_writeParcels_0 : decode cX9_writeParcels 0 = .ok (.aload_n 0, 1) := by decide +kernel
theorem dX9_writeParcels_1 : decode cX9_writeParcels 1 = .ok (.getfield 36, 3) := by decide +kernel
theorem dX9_writeParcels_4 : decode cX9_writeParcels 4 = .ok (.iconst 0, 1) := by decide +kernel
theorem dX9_writeParcels_5 : decode cX9_writeParcels 5 = .ok (.putfield 303, 3) := by decide +kernel
theorem dX9_writeParcels_8 : decode cX9_writeParcels 8 = .ok (.iconst 0, 1) := by decide +kernel
theorem dX9_writeParcels_9 : decode cX9_writeParcels 9 = .ok (.istore_n 1, 1) := by decide +kernel
theorem dX9_writeParcels_10 : decode cX9_writeParcels 10 = .ok (.iload_n 1, 1) := by decide +kernel
theorem dX9_writeParcels_11 : decode cX9_writeParcels 11 = .ok (.aload_n 0, 1) := by decide +kernel
theorem dX9_writeParcels_12 : decode cX9_writeParcels 12 = .ok (.getfield 10, 3) := by decide +kernel
theorem dX9_writeParcels_15 : decode cX9_writeParcels 15 = .ok (.getfield 112, 3) := by decide +kernel
theorem dX9_writeParcels_18 : decode cX9_writeParcels 18 = .ok (.if_icmp .ge 35, 3) := by decide +kernel
theorem dX9_writeParcels_21 : decode cX9_writeParcels 21 = .ok (.iload_n 1, 1) := by decide +kernel
theorem dX9_writeParcels_22 : decode cX9_writeParcels 22 = .ok (.ifCond .le 12, 3) := by decide +kernel
theorem dX9_writeParcels_25 : decode cX9_writeParcels 25 = .ok (.aload_n 0, 1) := by decide +kernel
theorem dX9_writeParcels_26 : decode cX9_writeParcels 26 = .ok (.getfield 36, 3) := by decide +kernel
theorem dX9_writeParcels_29 : decode cX9_writeParcels 29 = .ok (.bipush 32, 2) := by decide +kernel
theorem dX9_writeParcels_31 : decode cX9_writeParcels 31 = .ok (.invokevirtual 304, 3) := by decide +kernel
theorem dX9_writeParcels_34 : decode cX9_writeParcels 34 = .ok (.aload_n 0, 1) := by decide +kernel
theorem dX9_writeParcels_35 : decode cX9_writeParcels 35 = .ok (.aload_n 0, 1) := by decide +kernel
theorem dX9_writeParcels_36 : decode cX9_writeParcels 36 = .ok (.getfield 10, 3) := by decide +kernel
theorem dX9_writeParcels_39 : decode cX9_writeParcels 39 = .ok (.getfield 211, 3) := by decide +kernel
theorem dX9_writeParcels_42 : decode cX9_writeParcels 42 = .ok (.iload_n 1, 1) := by decide +kernel
theorem dX9_writeParcels_43 : decode cX9_writeParcels 43 = .ok (.aaload, 1) := by decide +kernel
theorem dX9_writeParcels_44 : decode cX9_writeParcels 44 = .ok (.invokevirtual 311, 3) := by decide +kernel
theorem dX9_writeParcels_47 : decode cX9_writeParcels 47 = .ok (.iinc 1 1, 3) := by decide +kernel
theorem dX9_writeParcels_50 : decode cX9_writeParcels 50 = .ok (.goto (-40), 3) := by decide +kernel
theorem dX9_writeParcels_53 : decode cX9_writeParcels 53 = .ok (.aload_n 0, 1) := by decide +kernel
theorem dX9_writeParcels_54 : decode cX9_writeParcels 54 = .ok (.getfield 36, 3) := by decide +kernel
theorem dX9_writeParcels_57 : decode cX9_writeParcels 57 = .ok (.getfield 303, 3) := by decide +kernel
theorem dX9_writeParcels_60 : decode cX9_writeParcels 60 = .ok (.ireturn, 1) := by decide +kernel
theorem dX9_outputByte_0 : decode cX9_outputByte 0 = .ok (.iload_n 1, 1) := by decide +kernel
theorem dX9_outputByte_1 : decode cX9_outputByte 1 = .ok (.ifCond .lt 14, 3) := by decide +kernel
theorem dX9_outputByte_4 : decode cX9_outputByte 4 = .ok (.iload_n 1, 1) := by decide +kernel
theorem dX9_outputByte_5 : decode cX9_outputByte 5 = .ok (.aload_n 0, 1) := by decide +kernel
theorem dX9_outputByte_6 : decode cX9_outputByte 6 = .ok (.getfield 36, 3) := by decide +kernel
theorem dX9_outputByte_9 : decode cX9_outputByte 9 = .ok (.getfield 303, 3) := by decide +kernel
theorem dX9_outputByte_12 : decode cX9_outputByte 12 = .ok (.if_icmp .lt 14, 3) := by decide +kernel
theorem dX9_outputByte_15 : decode cX9_outputByte 15 = .ok (.new 139, 3) := by decide +kernel
theorem dX9_outputByte_18 : decode cX9_outputByte 18 = .ok (.dup, 1) := by decide +kernel
theorem dX9_outputByte_19 : decode cX9_outputByte 19 = .ok (.ldc_w 315, 3) := by decide +kernel
theorem dX9_outputByte_22 : decode cX9_outputByte 22 = .ok (.invokespecial 143, 3) := by decide +kernel
theorem dX9_outputByte_25 : decode cX9_outputByte 25 = .ok (.athrow, 1) := by decide +kernel
theorem dX9_outputByte_26 : decode cX9_outputByte 26 = .ok (.aload_n 0, 1) := by decide +kernel
theorem dX9_outputByte_27 : decode cX9_outputByte 27 = .ok (.getfield 36, 3) := by decide +kernel
theorem dX9_outputByte_30 : decode cX9_outputByte 30 = .ok (.getfield 317, 3) := by decide +kernel
theorem dX9_outputByte_33 : decode cX9_outputByte 33 = .ok (.iload_n 1, 1) := by decide +kernel
theorem dX9_outputByte_34 : decode cX9_outputByte 34 = .ok (.baload, 1) := by decide +kernel
theorem dX9_outputByte_35 : decode cX9_outputByte 35 = .ok (.ireturn, 1) := by decide +kernel
theorem dX9_save_0 : decode cX9_save 0 = .ok (.iload_n 1, 1) := by decide +kernel
theorem dX9_save_1 : decode cX9_save 1 = .ok (.invokestatic 321, 3) := by decide +kernel
theorem dX9_save_4 : decode cX9_save 4 = .ok (.aload_n 0, 1) := by decide +kernel
theorem dX9_save_5 : decode cX9_save 5 = .ok (.getfield 40, 3) := by decide +kernel
theorem dX9_save_8 : decode cX9_save 8 = .ok (.iload_n 1, 1) := by decide +kernel
theorem dX9_save_9 : decode cX9_save 9 = .ok (.aaload, 1) := by decide +kernel
theorem dX9_save_10 : decode cX9_save 10 = .ok (.aload_n 0, 1) := by decide +kernel
theorem dX9_save_11 : decode cX9_save 11 = .ok (.getfield 10, 3) := by decide +kernel
theorem dX9_save_14 : decode cX9_save 14 = .ok (.invokevirtual 66, 3) := by decide +kernel
theorem dX9_save_17 : decode cX9_save 17 = .ok (.aload_n 0, 1) := by decide +kernel
theorem dX9_save_18 : decode cX9_save 18 = .ok (.getfield 44, 3) := by decide +kernel
theorem dX9_save_21 : decode cX9_save 21 = .ok (.iload_n 1, 1) := by decide +kernel
theorem dX9_save_22 : decode cX9_save 22 = .ok (.iconst 1, 1) := by decide +kernel
theorem dX9_save_23 : decode cX9_save 23 = .ok (.bastore, 1) := by decide +kernel
theorem dX9_save_24 : decode cX9_save 24 = .ok (.aload_n 0, 1) := by decide +kernel
theorem dX9_save_25 : decode cX9_save 25 = .ok (.getfield 10, 3) := by decide +kernel
theorem dX9_save_28 : decode cX9_save 28 = .ok (.getfield 103, 3) := by decide +kernel
theorem dX9_save_31 : decode cX9_save 31 = .ok (.ireturn, 1) := by decide +kernel
theorem dX9_restore_0 : decode cX9_restore 0 = .ok (.iload_n 1, 1) := by decide +kernel
theorem dX9_restore_1 : decode cX9_restore 1 = .ok (.invokestatic 321, 3) := by decide +kernel
theorem dX9_restore_4 : decode cX9_restore 4 = .ok (.aload_n 0, 1) := by decide +kernel
theorem dX9_restore_5 : decode cX9_restore 5 = .ok (.getfield 44, 3) := by decide +kernel
theorem dX9_restore_8 : decode cX9_restore 8 = .ok (.iload_n 1, 1) := by decide +kernel
theorem dX9_restore_9 : decode cX9_restore 9 = .ok (.baload, 1) := by decide +kernel
theorem dX9_restore_10 : decode cX9_restore 10 = .ok (.ifCond .ne 14, 3) := by decide +kernel
theorem dX9_restore_13 : decode cX9_restore 13 = .ok (.new 74, 3) := by decide +kernel
theorem dX9_restore_16 : decode cX9_restore 16 = .ok (.dup, 1) := by decide +kernel
theorem dX9_restore_17 : decode cX9_restore 17 = .ok (.ldc_w 324, 3) := by decide +kernel
theorem dX9_restore_20 : decode cX9_restore 20 = .ok (.invokespecial 78, 3) := by decide +kernel
theorem dX9_restore_23 : decode cX9_restore 23 = .ok (.athrow, 1) := by decide +kernel
theorem dX9_restore_24 : decode cX9_restore 24 = .ok (.aload_n 0, 1) := by decide +kernel
theorem dX9_restore_25 : decode cX9_restore 25 = .ok (.getfield 29, 3) := by decide +kernel
theorem dX9_restore_28 : decode cX9_restore 28 = .ok (.aload_n 0, 1) := by decide +kernel
theorem dX9_restore_29 : decode cX9_restore 29 = .ok (.getfield 10, 3) := by decide +kernel
theorem dX9_restore_32 : decode cX9_restore 32 = .ok (.invokevirtual 94, 3) := by decide +kernel
theorem dX9_restore_35 : decode cX9_restore 35 = .ok (.aload_n 0, 1) := by decide +kernel
theorem dX9_restore_36 : decode cX9_restore 36 = .ok (.getfield 10, 3) := by decide +kernel
theorem dX9_restore_39 : decode cX9_restore 39 = .ok (.aload_n 0, 1) := by decide +kernel
theorem dX9_restore_40 : decode cX9_restore 40 = .ok (.getfield 40, 3) := by decide +kernel
theorem dX9_restore_43 : decode cX9_restore 43 = .ok (.iload_n 1, 1) := by decide +kernel
theorem dX9_restore_44 : decode cX9_restore 44 = .ok (.aaload, 1) := by decide +kernel
theorem dX9_restore_45 : decode cX9_restore 45 = .ok (.invokevirtual 66, 3) := by decide +kernel
theorem dX9_restore_48 : decode cX9_restore 48 = .ok (.aload_n 0, 1) := by decide +kernel
theorem dX9_restore_49 : decode cX9_restore 49 = .ok (.getfield 10, 3) := by decide +kernel
theorem dX9_restore_52 : decode cX9_restore 52 = .ok (.getfield 103, 3) := by decide +kernel
theorem dX9_restore_55 : decode cX9_restore 55 = .ok (.ireturn, 1) := by decide +kernel
theorem dX9_undo_0 : decode cX9_undo 0 = .ok (.aload_n 0, 1) := by decide +kernel
theorem dX9_undo_1 : decode cX9_undo 1 = .ok (.getfield 29, 3) := by decide +kernel
theorem dX9_undo_4 : decode cX9_undo 4 = .ok (.getfield 326, 3) := by decide +kernel
theorem dX9_undo_7 : decode cX9_undo 7 = .ok (.ifCond .ne 14, 3) := by decide +kernel
theorem dX9_undo_10 : decode cX9_undo 10 = .ok (.new 74, 3) := by decide +kernel
theorem dX9_undo_13 : decode cX9_undo 13 = .ok (.dup, 1) := by decide +kernel
theorem dX9_undo_14 : decode cX9_undo 14 = .ok (.ldc_w 329, 3) := by decide +kernel
theorem dX9_undo_17 : decode cX9_undo 17 = .ok (.invokespecial 78, 3) := by decide +kernel
theorem dX9_undo_20 : decode cX9_undo 20 = .ok (.athrow, 1) := by decide +kernel
theorem dX9_undo_21 : decode cX9_undo 21 = .ok (.aload_n 0, 1) := by decide +kernel
theorem dX9_undo_22 : decode cX9_undo 22 = .ok (.getfield 29, 3) := by decide +kernel
theorem dX9_undo_25 : decode cX9_undo 25 = .ok (.aload_n 0, 1) := by decide +kernel
theorem dX9_undo_26 : decode cX9_undo 26 = .ok (.getfield 10, 3) := by decide +kernel
theorem dX9_undo_29 : decode cX9_undo 29 = .ok (.invokevirtual 331, 3) := by decide +kernel
theorem dX9_undo_32 : decode cX9_undo 32 = .ok (.aload_n 0, 1) := by decide +kernel
theorem dX9_undo_33 : decode cX9_undo 33 = .ok (.getfield 29, 3) := by decide +kernel
theorem dX9_undo_36 : decode cX9_undo 36 = .ok (.getfield 326, 3) := by decide +kernel
theorem dX9_undo_39 : decode cX9_undo 39 = .ok (.ireturn, 1) := by decide +kernel
theorem dX9_undoDepth_0 : decode cX9_undoDepth 0 = .ok (.aload_n 0, 1) := by decide +kernel
theorem dX9_undoDepth_1 : decode cX9_undoDepth 1 = .ok (.getfield 29, 3) := by decide +kernel
theorem dX9_undoDepth_4 : decode cX9_undoDepth 4 = .ok (.getfield 326, 3) := by decide +kernel
theorem dX9_undoDepth_7 : decode cX9_undoDepth 7 = .ok (.ireturn, 1) := by decide +kernel
theorem dX9_checkStation_0 : decode cX9_checkStation 0 = .ok (.iload_n 1, 1) := by decide +kernel
theorem dX9_checkStation_1 : decode cX9_checkStation 1 = .ok (.ifCond .lt 14, 3) := by decide +kernel
theorem dX9_checkStation_4 : decode cX9_checkStation 4 = .ok (.iload_n 1, 1) := by decide +kernel
theorem dX9_checkStation_5 : decode cX9_checkStation 5 = .ok (.aload_n 0, 1) := by decide +kernel
theorem dX9_checkStation_6 : decode cX9_checkStation 6 = .ok (.getfield 10, 3) := by decide +kernel
theorem dX9_checkStation_9 : decode cX9_checkStation 9 = .ok (.getfield 97, 3) := by decide +kernel
theorem dX9_checkStation_12 : decode cX9_checkStation 12 = .ok (.if_icmp .lt 14, 3) := by decide +kernel
theorem dX9_checkStation_15 : decode cX9_checkStation 15 = .ok (.new 334, 3) := by decide +kernel
theorem dX9_checkStation_18 : decode cX9_checkStation 18 = .ok (.dup, 1) := by decide +kernel
theorem dX9_checkStation_19 : decode cX9_checkStation 19 = .ok (.ldc_w 336, 3) := by decide +kernel
theorem dX9_checkStation_22 : decode cX9_checkStation 22 = .ok (.invokespecial 338, 3) := by decide +kernel
theorem dX9_checkStation_25 : decode cX9_checkStation 25 = .ok (.athrow, 1) := by decide +kernel
theorem dX9_checkStation_26 : decode cX9_checkStation 26 = .ok (.return_, 1) := by decide +kernel
theorem dX9_checkTrain_0 : decode cX9_checkTrain 0 = .ok (.iload_n 1, 1) := by decide +kernel
theorem dX9_checkTrain_1 : decode cX9_checkTrain 1 = .ok (.ifCond .lt 14, 3) := by decide +kernel
theorem dX9_checkTrain_4 : decode cX9_checkTrain 4 = .ok (.iload_n 1, 1) := by decide +kernel
theorem dX9_checkTrain_5 : decode cX9_checkTrain 5 = .ok (.aload_n 0, 1) := by decide +kernel
theorem dX9_checkTrain_6 : decode cX9_checkTrain 6 = .ok (.getfield 10, 3) := by decide +kernel
theorem dX9_checkTrain_9 : decode cX9_checkTrain 9 = .ok (.getfield 109, 3) := by decide +kernel
theorem dX9_checkTrain_12 : decode cX9_checkTrain 12 = .ok (.if_icmp .lt 14, 3) := by decide +kernel
theorem dX9_checkTrain_15 : decode cX9_checkTrain 15 = .ok (.new 334, 3) := by decide +kernel
theorem dX9_checkTrain_18 : decode cX9_checkTrain 18 = .ok (.dup, 1) := by decide +kernel
theorem dX9_checkTrain_19 : decode cX9_checkTrain 19 = .ok (.ldc_w 339, 3) := by decide +kernel
theorem dX9_checkTrain_22 : decode cX9_checkTrain 22 = .ok (.invokespecial 338, 3) := by decide +kernel
theorem dX9_checkTrain_25 : decode cX9_checkTrain 25 = .ok (.athrow, 1) := by decide +kernel
theorem dX9_checkTrain_26 : decode cX9_checkTrain 26 = .ok (.return_, 1) := by decide +kernel
theorem dX9_checkParcel_0 : decode cX9_checkParcel 0 = .ok (.iload_n 1, 1) := by decide +kernel
theorem dX9_checkParcel_1 : decode cX9_checkParcel 1 = .ok (.ifCond .lt 14, 3) := by decide +kernel
theorem dX9_checkParcel_4 : decode cX9_checkParcel 4 = .ok (.iload_n 1, 1) := by decide +kernel
theorem dX9_checkParcel_5 : decode cX9_checkParcel 5 = .ok (.aload_n 0, 1) := by decide +kernel
theorem dX9_checkParcel_6 : decode cX9_checkParcel 6 = .ok (.getfield 10, 3) := by decide +kernel
theorem dX9_checkParcel_9 : decode cX9_checkParcel 9 = .ok (.getfield 112, 3) := by decide +kernel
theorem dX9_checkParcel_12 : decode cX9_checkParcel 12 = .ok (.if_icmp .lt 14, 3) := by decide +kernel
theorem dX9_checkParcel_15 : decode cX9_checkParcel 15 = .ok (.new 334, 3) := by decide +kernel
theorem dX9_checkParcel_18 : decode cX9_checkParcel 18 = .ok (.dup, 1) := by decide +kernel
theorem dX9_checkParcel_19 : decode cX9_checkParcel 19 = .ok (.ldc_w 341, 3) := by decide +kernel
theorem dX9_checkParcel_22 : decode cX9_checkParcel 22 = .ok (.invokespecial 338, 3) := by decide +kernel
theorem dX9_checkParcel_25 : decode cX9_checkParcel 25 = .ok (.athrow, 1) := by decide +kernel
theorem dX9_checkParcel_26 : decode cX9_checkParcel 26 = .ok (.return_, 1) := by decide +kernel
theorem dX9_checkSlot_0 : decode cX9_checkSlot 0 = .ok (.iload_n 0, 1) := by decide +kernel
theorem dX9_checkSlot_1 : decode cX9_checkSlot 1 = .ok (.ifCond .lt 8, 3) := by decide +kernel
theorem dX9_checkSlot_4 : decode cX9_checkSlot 4 = .ok (.iload_n 0, 1) := by decide +kernel
theorem dX9_checkSlot_5 : decode cX9_checkSlot 5 = .ok (.iconst 2, 1) := by decide +kernel
theorem dX9_checkSlot_6 : decode cX9_checkSlot 6 = .ok (.if_icmp .lt 14, 3) := by decide +kernel
theorem dX9_checkSlot_9 : decode cX9_checkSlot 9 = .ok (.new 334, 3) := by decide +kernel
theorem dX9_checkSlot_12 : decode cX9_checkSlot 12 = .ok (.dup, 1) := by decide +kernel
theorem dX9_checkSlot_13 : decode cX9_checkSlot 13 = .ok (.ldc_w 343, 3) := by decide +kernel
theorem dX9_checkSlot_16 : decode cX9_checkSlot 16 = .ok (.invokespecial 338, 3) := by decide +kernel
theorem dX9_checkSlot_19 : decode cX9_checkSlot 19 = .ok (.athrow, 1) := by decide +kernel
theorem dX9_checkSlot_20 : decode cX9_checkSlot 20 = .ok (.return_, 1) := by decide +kernel
theorem dX9_checkRange_0 : decode cX9_checkRange 0 = .ok (.iload_n 0, 1) := by decide +kernel
theorem dX9_checkRange_1 : decode cX9_checkRange 1 = .ok (.iload_n 1, 1) := by decide +kernel
theorem dX9_checkRange_2 : decode cX9_checkRange 2 = .ok (.if_icmp .lt 8, 3) := by decide +kernel
theorem dX9_checkRange_5 : decode cX9_checkRange 5 = .ok (.iload_n 0, 1) := by decide +kernel
theorem dX9_checkRange_6 : decode cX9_checkRange 6 = .ok (.iload_n 2, 1) := by decide +kernel
theorem dX9_checkRange_7 : decode cX9_checkRange 7 = .ok (.if_icmp .le 14, 3) := by decide +kernel
theorem dX9_checkRange_10 : decode cX9_checkRange 10 = .ok (.new 84, 3) := by decide +kernel
theorem dX9_checkRange_13 : decode cX9_checkRange 13 = .ok (.dup, 1) := by decide +kernel
theorem dX9_checkRange_14 : decode cX9_checkRange 14 = .ok (.ldc_w 345, 3) := by decide +kernel
theorem dX9_checkRange_17 : decode cX9_checkRange 17 = .ok (.invokespecial 88, 3) := by decide +kernel
theorem dX9_checkRange_20 : decode cX9_checkRange 20 = .ok (.athrow, 1) := by decide +kernel
theorem dX9_checkRange_21 : decode cX9_checkRange 21 = .ok (.return_, 1) := by decide +kernel
theorem dX9_requireTrack_0 : decode cX9_requireTrack 0 = .ok (.aload_n 0, 1) := by decide +kernel
theorem dX9_requireTrack_1 : decode cX9_requireTrack 1 = .ok (.getfield 10, 3) := by decide +kernel
theorem dX9_requireTrack_4 : decode cX9_requireTrack 4 = .ok (.iload_n 1, 1) := by decide +kernel
theorem dX9_requireTrack_5 : decode cX9_requireTrack 5 = .ok (.iload_n 2, 1) := by decide +kernel
theorem dX9_requireTrack_6 : decode cX9_requireTrack 6 = .ok (.invokevirtual 144, 3) := by decide +kernel
theorem dX9_requireTrack_9 : decode cX9_requireTrack 9 = .ok (.istore_n 3, 1) := by decide +kernel
theorem dX9_requireTrack_10 : decode cX9_requireTrack 10 = .ok (.iload_n 3, 1) := by decide +kernel
theorem dX9_requireTrack_11 : decode cX9_requireTrack 11 = .ok (.iconst (-1), 1) := by decide +kernel
theorem dX9_requireTrack_12 : decode cX9_requireTrack 12 = .ok (.if_icmp .ne 14, 3) := by decide +kernel
theorem dX9_requireTrack_15 : decode cX9_requireTrack 15 = .ok (.new 84, 3) := by decide +kernel
theorem dX9_requireTrack_18 : decode cX9_requireTrack 18 = .ok (.dup, 1) := by decide +kernel
theorem dX9_requireTrack_19 : decode cX9_requireTrack 19 = .ok (.ldc_w 347, 3) := by decide +kernel
theorem dX9_requireTrack_22 : decode cX9_requireTrack 22 = .ok (.invokespecial 88, 3) := by decide +kernel
theorem dX9_requireTrack_25 : decode cX9_requireTrack 25 = .ok (.athrow, 1) := by decide +kernel
theorem dX9_requireTrack_26 : decode cX9_requireTrack 26 = .ok (.iload_n 3, 1) := by decide +kernel
theorem dX9_requireTrack_27 : decode cX9_requireTrack 27 = .ok (.ireturn, 1) := by decide +kernel
theorem dX9_countDeliveredWithout_0 : decode cX9_countDeliveredWithout 0 = .ok (.aload_n 0, 1) := by decide +kernel
theorem dX9_countDeliveredWithout_1 : decode cX9_countDeliveredWithout 1 = .ok (.getfield 16, 3) := by decide +kernel
theorem dX9_countDeliveredWithout_4 : decode cX9_countDeliveredWithout 4 = .ok (.aload_n 0, 1) := by decide +kernel
theorem dX9_countDeliveredWithout_5 : decode cX9_countDeliveredWithout 5 = .ok (.getfield 10, 3) := by decide +kernel
theorem dX9_countDeliveredWithout_8 : decode cX9_countDeliveredWithout 8 = .ok (.invokevirtual 66, 3) := by decide +kernel
theorem dX9_countDeliveredWithout_11 : decode cX9_countDeliveredWithout 11 = .ok (.aload_n 0, 1) := by decide +kernel
theorem dX9_countDeliveredWithout_12 : decode cX9_countDeliveredWithout 12 = .ok (.getfield 16, 3) := by decide +kernel
theorem dX9_countDeliveredWithout_15 : decode cX9_countDeliveredWithout 15 = .ok (.iload_n 1, 1) := by decide +kernel
theorem dX9_countDeliveredWithout_16 : decode cX9_countDeliveredWithout 16 = .ok (.iconst 0, 1) := by decide +kernel
theorem dX9_countDeliveredWithout_17 : decode cX9_countDeliveredWithout 17 = .ok (.invokevirtual 294, 3) := by decide +kernel
theorem dX9_countDeliveredWithout_20 : decode cX9_countDeliveredWithout 20 = .ok (.iconst 0, 1) := by decide +kernel
theorem dX9_countDeliveredWithout_21 : decode cX9_countDeliveredWithout 21 = .ok (.istore_n 3, 1) := by decide +kernel
theorem dX9_countDeliveredWithout_22 : decode cX9_countDeliveredWithout 22 = .ok (.iload_n 3, 1) := by decide +kernel
theorem dX9_countDeliveredWithout_23 : decode cX9_countDeliveredWithout 23 = .ok (.iload_n 2, 1) := by decide +kernel
theorem dX9_countDeliveredWithout_24 : decode cX9_countDeliveredWithout 24 = .ok (.if_icmp .ge 16, 3) := by decide +kernel
theorem dX9_countDeliveredWithout_27 : decode cX9_countDeliveredWithout 27 = .ok (.aload_n 0, 1) := by decide +kernel
theorem dX9_countDeliveredWithout_28 : decode cX9_countDeliveredWithout 28 = .ok (.getfield 16, 3) := by decide +kernel
theorem dX9_countDeliveredWithout_31 : decode cX9_countDeliveredWithout 31 = .ok (.invokevirtual 268, 3) := by decide +kernel
theorem dX9_countDeliveredWithout_34 : decode cX9_countDeliveredWithout 34 = .ok (.iinc 3 1, 3) := by decide +kernel
theorem dX9_countDeliveredWithout_37 : decode cX9_countDeliveredWithout 37 = .ok (.goto (-15), 3) := by decide +kernel
theorem dX9_countDeliveredWithout_40 : decode cX9_countDeliveredWithout 40 = .ok (.aload_n 0, 1) := by decide +kernel
theorem dX9_countDeliveredWithout_41 : decode cX9_countDeliveredWithout 41 = .ok (.getfield 16, 3) := by decide +kernel
theorem dX9_countDeliveredWithout_44 : decode cX9_countDeliveredWithout 44 = .ok (.invokevirtual 249, 3) := by decide +kernel
theorem dX9_countDeliveredWithout_47 : decode cX9_countDeliveredWithout 47 = .ok (.ireturn, 1) := by decide +kernel
theorem dX9_putTrain_0 : decode cX9_putTrain 0 = .ok (.aload_n 0, 1) := by decide +kernel
theorem dX9_putTrain_1 : decode cX9_putTrain 1 = .ok (.getfield 36, 3) := by decide +kernel
theorem dX9_putTrain_4 : decode cX9_putTrain 4 = .ok (.aload_n 0, 1) := by decide +kernel
theorem dX9_putTrain_5 : decode cX9_putTrain 5 = .ok (.getfield 10, 3) := by decide +kernel
theorem dX9_putTrain_8 : decode cX9_putTrain 8 = .ok (.aload_n 1, 1) := by decide +kernel
theorem dX9_putTrain_9 : decode cX9_putTrain 9 = .ok (.iconst 0, 1) := by decide +kernel
theorem dX9_putTrain_10 : decode cX9_putTrain 10 = .ok (.invokevirtual 190, 3) := by decide +kernel
theorem dX9_putTrain_13 : decode cX9_putTrain 13 = .ok (.invokevirtual 349, 3) := by decide +kernel
theorem dX9_putTrain_16 : decode cX9_putTrain 16 = .ok (.invokevirtual 352, 3) := by decide +kernel
theorem dX9_putTrain_19 : decode cX9_putTrain 19 = .ok (.aload_n 1, 1) := by decide +kernel
theorem dX9_putTrain_20 : decode cX9_putTrain 20 = .ok (.invokevirtual 355, 3) := by decide +kernel
theorem dX9_putTrain_23 : decode cX9_putTrain 23 = .ok (.ifCond .ne 31, 3) := by decide +kernel
theorem dX9_putTrain_26 : decode cX9_putTrain 26 = .ok (.aload_n 0, 1) := by decide +kernel
theorem dX9_putTrain_27 : decode cX9_putTrain 27 = .ok (.getfield 36, 3) := by decide +kernel
theorem dX9_putTrain_30 : decode cX9_putTrain 30 = .ok (.bipush 62, 2) := by decide +kernel
theorem dX9_putTrain_32 : decode cX9_putTrain 32 = .ok (.invokevirtual 304, 3) := by decide +kernel
theorem dX9_putTrain_35 : decode cX9_putTrain 35 = .ok (.aload_n 0, 1) := by decide +kernel
theorem dX9_putTrain_36 : decode cX9_putTrain 36 = .ok (.getfield 36, 3) := by decide +kernel
theorem dX9_putTrain_39 : decode cX9_putTrain 39 = .ok (.aload_n 0, 1) := by decide +kernel
theorem dX9_putTrain_40 : decode cX9_putTrain 40 = .ok (.getfield 10, 3) := by decide +kernel
theorem dX9_putTrain_43 : decode cX9_putTrain 43 = .ok (.aload_n 1, 1) := by decide +kernel
theorem dX9_putTrain_44 : decode cX9_putTrain 44 = .ok (.iconst 1, 1) := by decide +kernel
theorem dX9_putTrain_45 : decode cX9_putTrain 45 = .ok (.invokevirtual 190, 3) := by decide +kernel
theorem dX9_putTrain_48 : decode cX9_putTrain 48 = .ok (.invokevirtual 349, 3) := by decide +kernel
theorem dX9_putTrain_51 : decode cX9_putTrain 51 = .ok (.invokevirtual 352, 3) := by decide +kernel
theorem dX9_putTrain_54 : decode cX9_putTrain 54 = .ok (.return_, 1) := by decide +kernel
theorem dX9_putParcel_0 : decode cX9_putParcel 0 = .ok (.aload_n 1, 1) := by decide +kernel
theorem dX9_putParcel_1 : decode cX9_putParcel 1 = .ok (.invokevirtual 264, 3) := by decide +kernel
theorem dX9_putParcel_4 : decode cX9_putParcel 4 = .ok (.ifCond .eq 15, 3) := by decide +kernel
theorem dX9_putParcel_7 : decode cX9_putParcel 7 = .ok (.aload_n 0, 1) := by decide +kernel
theorem dX9_putParcel_8 : decode cX9_putParcel 8 = .ok (.getfield 36, 3) := by decide +kernel
theorem dX9_putParcel_11 : decode cX9_putParcel 11 = .ok (.bipush 61, 2) := by decide +kernel
theorem dX9_putParcel_13 : decode cX9_putParcel 13 = .ok (.invokevirtual 304, 3) := by decide +kernel
theorem dX9_putParcel_16 : decode cX9_putParcel 16 = .ok (.goto 64, 3) := by decide +kernel
theorem dX9_putParcel_19 : decode cX9_putParcel 19 = .ok (.aload_n 1, 1) := by decide +kernel
theorem dX9_putParcel_20 : decode cX9_putParcel 20 = .ok (.getfield 229, 3) := by decide +kernel
theorem dX9_putParcel_23 : decode cX9_putParcel 23 = .ok (.iconst (-1), 1) := by decide +kernel
theorem dX9_putParcel_24 : decode cX9_putParcel 24 = .ok (.if_icmp .eq 29, 3) := by decide +kernel
theorem dX9_putParcel_27 : decode cX9_putParcel 27 = .ok (.aload_n 0, 1) := by decide +kernel
theorem dX9_putParcel_28 : decode cX9_putParcel 28 = .ok (.getfield 36, 3) := by decide +kernel
theorem dX9_putParcel_31 : decode cX9_putParcel 31 = .ok (.bipush 35, 2) := by decide +kernel
theorem dX9_putParcel_33 : decode cX9_putParcel 33 = .ok (.invokevirtual 304, 3) := by decide +kernel
theorem dX9_putParcel_36 : decode cX9_putParcel 36 = .ok (.aload_n 0, 1) := by decide +kernel
theorem dX9_putParcel_37 : decode cX9_putParcel 37 = .ok (.getfield 36, 3) := by decide +kernel
theorem dX9_putParcel_40 : decode cX9_putParcel 40 = .ok (.bipush 48, 2) := by decide +kernel
theorem dX9_putParcel_42 : decode cX9_putParcel 42 = .ok (.aload_n 1, 1) := by decide +kernel
theorem dX9_putParcel_43 : decode cX9_putParcel 43 = .ok (.getfield 229, 3) := by decide +kernel
theorem dX9_putParcel_46 : decode cX9_putParcel 46 = .ok (.iadd, 1) := by decide +kernel
theorem dX9_putParcel_47 : decode cX9_putParcel 47 = .ok (.invokevirtual 304, 3) := by decide +kernel
theorem dX9_putParcel_50 : decode cX9_putParcel 50 = .ok (.goto 30, 3) := by decide +kernel
theorem dX9_putParcel_53 : decode cX9_putParcel 53 = .ok (.aload_n 0, 1) := by decide +kernel
theorem dX9_putParcel_54 : decode cX9_putParcel 54 = .ok (.getfield 36, 3) := by decide +kernel
theorem dX9_putParcel_57 : decode cX9_putParcel 57 = .ok (.bipush 64, 2) := by decide +kernel
theorem dX9_putParcel_59 : decode cX9_putParcel 59 = .ok (.invokevirtual 304, 3) := by decide +kernel
theorem dX9_putParcel_62 : decode cX9_putParcel 62 = .ok (.aload_n 0, 1) := by decide +kernel
theorem dX9_putParcel_63 : decode cX9_putParcel 63 = .ok (.getfield 36, 3) := by decide +kernel
theorem dX9_putParcel_66 : decode cX9_putParcel 66 = .ok (.aload_n 0, 1) := by decide +kernel
theorem dX9_putParcel_67 : decode cX9_putParcel 67 = .ok (.getfield 10, 3) := by decide +kernel
theorem dX9_putParcel_70 : decode cX9_putParcel 70 = .ok (.aload_n 1, 1) := by decide +kernel
theorem dX9_putParcel_71 : decode cX9_putParcel 71 = .ok (.getfield 226, 3) := by decide +kernel
theorem dX9_putParcel_74 : decode cX9_putParcel 74 = .ok (.invokevirtual 349, 3) := by decide +kernel
theorem dX9_putParcel_77 : decode cX9_putParcel 77 = .ok (.invokevirtual 352, 3) := by decide +kernel
theorem dX9_putParcel_80 : decode cX9_putParcel 80 = .ok (.return_, 1) := by decide +kernel
theorem dX10_init_0 : decode cX10_init 0 = .ok (.aload_n 0, 1) := by decide +kernel
theorem dX10_init_1 : decode cX10_init 1 = .ok (.invokespecial 1, 3) := by decide +kernel
theorem dX10_init_4 : decode cX10_init 4 = .ok (.aload_n 0, 1) := by decide +kernel
theorem dX10_init_5 : decode cX10_init 5 = .ok (.sipush 251, 3) := by decide +kernel
theorem dX10_init_8 : decode cX10_init 8 = .ok (.newarray .int, 2) := by decide +kernel
theorem dX10_init_10 : decode cX10_init 10 = .ok (.putfield 7, 3) := by decide +kernel
theorem dX10_init_13 : decode cX10_init 13 = .ok (.aload_n 0, 1) := by decide +kernel
theorem dX10_init_14 : decode cX10_init 14 = .ok (.sipush 251, 3) := by decide +kernel
theorem dX10_init_17 : decode cX10_init 17 = .ok (.newarray .int, 2) := by decide +kernel
theorem dX10_init_19 : decode cX10_init 19 = .ok (.putfield 13, 3) := by decide +kernel
theorem dX10_init_22 : decode cX10_init 22 = .ok (.aload_n 0, 1) := by decide +kernel
theorem dX10_init_23 : decode cX10_init 23 = .ok (.sipush 251, 3) := by decide +kernel
theorem dX10_init_26 : decode cX10_init 26 = .ok (.newarray .int, 2) := by decide +kernel
theorem dX10_init_28 : decode cX10_init 28 = .ok (.putfield 16, 3) := by decide +kernel
theorem dX10_init_31 : decode cX10_init 31 = .ok (.aload_n 0, 1) := by decide +kernel
theorem dX10_init_32 : decode cX10_init 32 = .ok (.sipush 2008, 3) := by decide +kernel
theorem dX10_init_35 : decode cX10_init 35 = .ok (.newarray .int, 2) := by decide +kernel
theorem dX10_init_37 : decode cX10_init 37 = .ok (.putfield 19, 3) := by decide +kernel
theorem dX10_init_40 : decode cX10_init 40 = .ok (.aload_n 0, 1) := by decide +kernel
theorem dX10_init_41 : decode cX10_init 41 = .ok (.sipush 502, 3) := by decide +kernel
theorem dX10_init_44 : decode cX10_init 44 = .ok (.newarray .int, 2) := by decide +kernel
theorem dX10_init_46 : decode cX10_init 46 = .ok (.putfield 22, 3) := by decide +kernel
theorem dX10_init_49 : decode cX10_init 49 = .ok (.aload_n 0, 1) := by decide +kernel
theorem dX10_init_50 : decode cX10_init 50 = .ok (.iconst 2, 1) := by decide +kernel
theorem dX10_init_51 : decode cX10_init 51 = .ok (.newarray .boolean, 2) := by decide +kernel
theorem dX10_init_53 : decode cX10_init 53 = .ok (.putfield 25, 3) := by decide +kernel
theorem dX10_init_56 : decode cX10_init 56 = .ok (.aload_n 0, 1) := by decide +kernel
theorem dX10_init_57 : decode cX10_init 57 = .ok (.bipush 8, 2) := by decide +kernel
theorem dX10_init_59 : decode cX10_init 59 = .ok (.newarray .int, 2) := by decide +kernel
