theorem dX6_advance_114 : decode cX6_advance 114 = .ok (.iload_n 1, 1) := by decide +kernel
theorem dX6_advance_115 : decode cX6_advance 115 = .ok (.bipush 48, 2) := by decide +kernel
theorem dX6_advance_117 : decode cX6_advance 117 = .ok (.if_icmp .lt 29, 3) := by decide +kernel
theorem dX6_advance_120 : decode cX6_advance 120 = .ok (.iload_n 1, 1) := by decide +kernel
theorem dX6_advance_121 : decode cX6_advance 121 = .ok (.bipush 57, 2) := by decide +kernel
theorem dX6_advance_123 : decode cX6_advance 123 = .ok (.if_icmp .gt 23, 3) := by decide +kernel
theorem dX6_advance_126 : decode cX6_advance 126 = .ok (.aload_n 0, 1) := by decide +kernel
theorem dX6_advance_127 : decode cX6_advance 127 = .ok (.iconst 2, 1) := by decide +kernel
theorem dX6_advance_128 : decode cX6_advance 128 = .ok (.putfield 49, 3) := by decide +kernel
theorem dX6_advance_131 : decode cX6_advance 131 = .ok (.aload_n 0, 1) := by decide +kernel
theorem dX6_advance_132 : decode cX6_advance 132 = .ok (.aload_n 0, 1) := by decide +kernel
theorem dX6_advance_133 : decode cX6_advance 133 = .ok (.bipush 48, 2) := by decide +kernel
theorem dX6_advance_135 : decode cX6_advance 135 = .ok (.bipush 57, 2) := by decide +kernel
theorem dX6_advance_137 : decode cX6_advance 137 = .ok (.invokevirtual 52, 3) := by decide +kernel
theorem dX6_advance_140 : decode cX6_advance 140 = .ok (.putfield 32, 3) := by decide +kernel
theorem dX6_advance_143 : decode cX6_advance 143 = .ok (.goto 28, 3) := by decide +kernel
theorem dX6_advance_146 : decode cX6_advance 146 = .ok (.aload_n 0, 1) := by decide +kernel
theorem dX6_advance_147 : decode cX6_advance 147 = .ok (.iload_n 1, 1) := by decide +kernel
theorem dX6_advance_148 : decode cX6_advance 148 = .ok (.bipush 59, 2) := by decide +kernel
theorem dX6_advance_150 : decode cX6_advance 150 = .ok (.if_icmp .ne 7, 3) := by decide +kernel
theorem dX6_advance_153 : decode cX6_advance 153 = .ok (.iconst 3, 1) := by decide +kernel
theorem dX6_advance_154 : decode cX6_advance 154 = .ok (.goto 4, 3) := by decide +kernel
theorem dX6_advance_157 : decode cX6_advance 157 = .ok (.iconst 4, 1) := by decide +kernel
theorem dX6_advance_158 : decode cX6_advance 158 = .ok (.putfield 49, 3) := by decide +kernel
theorem dX6_advance_161 : decode cX6_advance 161 = .ok (.aload_n 0, 1) := by decide +kernel
theorem dX6_advance_162 : decode cX6_advance 162 = .ok (.aload_n 0, 1) := by decide +kernel
theorem dX6_advance_163 : decode cX6_advance 163 = .ok (.getfield 38, 3) := by decide +kernel
theorem dX6_advance_166 : decode cX6_advance 166 = .ok (.iconst 1, 1) := by decide +kernel
theorem dX6_advance_167 : decode cX6_advance 167 = .ok (.iadd, 1) := by decide +kernel
theorem dX6_advance_168 : decode cX6_advance 168 = .ok (.putfield 32, 3) := by decide +kernel
theorem dX6_advance_171 : decode cX6_advance 171 = .ok (.return_, 1) := by decide +kernel
theorem dX6_isBlank_0 : decode cX6_isBlank 0 = .ok (.iload_n 0, 1) := by decide +kernel
theorem dX6_isBlank_1 : decode cX6_isBlank 1 = .ok (.bipush 32, 2) := by decide +kernel
theorem dX6_isBlank_3 : decode cX6_isBlank 3 = .ok (.if_icmp .eq 9, 3) := by decide +kernel
theorem dX6_isBlank_6 : decode cX6_isBlank 6 = .ok (.iload_n 0, 1) := by decide +kernel
theorem dX6_isBlank_7 : decode cX6_isBlank 7 = .ok (.bipush 10, 2) := by decide +kernel
theorem dX6_isBlank_9 : decode cX6_isBlank 9 = .ok (.if_icmp .ne 7, 3) := by decide +kernel
theorem dX6_isBlank_12 : decode cX6_isBlank 12 = .ok (.iconst 1, 1) := by decide +kernel
theorem dX6_isBlank_13 : decode cX6_isBlank 13 = .ok (.goto 4, 3) := by decide +kernel
theorem dX6_isBlank_16 : decode cX6_isBlank 16 = .ok (.iconst 0, 1) := by decide +kernel
theorem dX6_isBlank_17 : decode cX6_isBlank 17 = .ok (.ireturn, 1) := by decide +kernel
theorem dX6_byteAt_0 : decode cX6_byteAt 0 = .ok (.iload_n 1, 1) := by decide +kernel
theorem dX6_byteAt_1 : decode cX6_byteAt 1 = .ok (.ifCond .lt 25, 3) := by decide +kernel
theorem dX6_byteAt_4 : decode cX6_byteAt 4 = .ok (.iload_n 1, 1) := by decide +kernel
theorem dX6_byteAt_5 : decode cX6_byteAt 5 = .ok (.aload_n 0, 1) := by decide +kernel
theorem dX6_byteAt_6 : decode cX6_byteAt 6 = .ok (.getfield 9, 3) := by decide +kernel
theorem dX6_byteAt_9 : decode cX6_byteAt 9 = .ok (.arraylength, 1) := by decide +kernel
theorem dX6_byteAt_10 : decode cX6_byteAt 10 = .ok (.if_icmp .ge 16, 3) := by decide +kernel
theorem dX6_byteAt_13 : decode cX6_byteAt 13 = .ok (.aload_n 0, 1) := by decide +kernel
theorem dX6_byteAt_14 : decode cX6_byteAt 14 = .ok (.getfield 9, 3) := by decide +kernel
theorem dX6_byteAt_17 : decode cX6_byteAt 17 = .ok (.iload_n 1, 1) := by decide +kernel
theorem dX6_byteAt_18 : decode cX6_byteAt 18 = .ok (.baload, 1) := by decide +kernel
theorem dX6_byteAt_19 : decode cX6_byteAt 19 = .ok (.sipush 255, 3) := by decide +kernel
theorem dX6_byteAt_22 : decode cX6_byteAt 22 = .ok (.iand, 1) := by decide +kernel
theorem dX6_byteAt_23 : decode cX6_byteAt 23 = .ok (.goto 4, 3) := by decide +kernel
theorem dX6_byteAt_26 : decode cX6_byteAt 26 = .ok (.iconst 0, 1) := by decide +kernel
theorem dX6_byteAt_27 : decode cX6_byteAt 27 = .ok (.ireturn, 1) := by decide +kernel
theorem dX6_findRunEnd_0 : decode cX6_findRunEnd 0 = .ok (.aload_n 0, 1) := by decide +kernel
theorem dX6_findRunEnd_1 : decode cX6_findRunEnd 1 = .ok (.getfield 38, 3) := by decide +kernel
theorem dX6_findRunEnd_4 : decode cX6_findRunEnd 4 = .ok (.istore_n 3, 1) := by decide +kernel
theorem dX6_findRunEnd_5 : decode cX6_findRunEnd 5 = .ok (.iload_n 3, 1) := by decide +kernel
theorem dX6_findRunEnd_6 : decode cX6_findRunEnd 6 = .ok (.aload_n 0, 1) := by decide +kernel
theorem dX6_findRunEnd_7 : decode cX6_findRunEnd 7 = .ok (.getfield 15, 3) := by decide +kernel
theorem dX6_findRunEnd_10 : decode cX6_findRunEnd 10 = .ok (.if_icmp .ge 27, 3) := by decide +kernel
theorem dX6_findRunEnd_13 : decode cX6_findRunEnd 13 = .ok (.aload_n 0, 1) := by decide +kernel
theorem dX6_findRunEnd_14 : decode cX6_findRunEnd 14 = .ok (.iload_n 3, 1) := by decide +kernel
theorem dX6_findRunEnd_15 : decode cX6_findRunEnd 15 = .ok (.invokevirtual 41, 3) := by decide +kernel
theorem dX6_findRunEnd_18 : decode cX6_findRunEnd 18 = .ok (.iload_n 1, 1) := by decide +kernel
theorem dX6_findRunEnd_19 : decode cX6_findRunEnd 19 = .ok (.if_icmp .lt 18, 3) := by decide +kernel
theorem dX6_findRunEnd_22 : decode cX6_findRunEnd 22 = .ok (.aload_n 0, 1) := by decide +kernel
theorem dX6_findRunEnd_23 : decode cX6_findRunEnd 23 = .ok (.iload_n 3, 1) := by decide +kernel
theorem dX6_findRunEnd_24 : decode cX6_findRunEnd 24 = .ok (.invokevirtual 41, 3) := by decide +kernel
theorem dX6_findRunEnd_27 : decode cX6_findRunEnd 27 = .ok (.iload_n 2, 1) := by decide +kernel
theorem dX6_findRunEnd_28 : decode cX6_findRunEnd 28 = .ok (.if_icmp .gt 9, 3) := by decide +kernel
theorem dX6_findRunEnd_31 : decode cX6_findRunEnd 31 = .ok (.iinc 3 1, 3) := by decide +kernel
theorem dX6_findRunEnd_34 : decode cX6_findRunEnd 34 = .ok (.goto (-29), 3) := by decide +kernel
theorem dX6_findRunEnd_37 : decode cX6_findRunEnd 37 = .ok (.iload_n 3, 1) := by decide +kernel
theorem dX6_findRunEnd_38 : decode cX6_findRunEnd 38 = .ok (.ireturn, 1) := by decide +kernel
theorem dX6_isText_0 : decode cX6_isText 0 = .ok (.aload_n 0, 1) := by decide +kernel
theorem dX6_isText_1 : decode cX6_isText 1 = .ok (.getfield 32, 3) := by decide +kernel
theorem dX6_isText_4 : decode cX6_isText 4 = .ok (.aload_n 0, 1) := by decide +kernel
theorem dX6_isText_5 : decode cX6_isText 5 = .ok (.getfield 38, 3) := by decide +kernel
theorem dX6_isText_8 : decode cX6_isText 8 = .ok (.isub, 1) := by decide +kernel
theorem dX6_isText_9 : decode cX6_isText 9 = .ok (.aload_n 1, 1) := by decide +kernel
theorem dX6_isText_10 : decode cX6_isText 10 = .ok (.invokevirtual 23, 3) := by decide +kernel
theorem dX6_isText_13 : decode cX6_isText 13 = .ok (.if_icmp .eq 5, 3) := by decide +kernel
theorem dX6_isText_16 : decode cX6_isText 16 = .ok (.iconst 0, 1) := by decide +kernel
theorem dX6_isText_17 : decode cX6_isText 17 = .ok (.ireturn, 1) := by decide +kernel
theorem dX6_isText_18 : decode cX6_isText 18 = .ok (.iconst 0, 1) := by decide +kernel
theorem dX6_isText_19 : decode cX6_isText 19 = .ok (.istore_n 2, 1) := by decide +kernel
theorem dX6_isText_20 : decode cX6_isText 20 = .ok (.iload_n 2, 1) := by decide +kernel
theorem dX6_isText_21 : decode cX6_isText 21 = .ok (.aload_n 1, 1) := by decide +kernel
theorem dX6_isText_22 : decode cX6_isText 22 = .ok (.invokevirtual 23, 3) := by decide +kernel
theorem dX6_isText_25 : decode cX6_isText 25 = .ok (.if_icmp .ge 29, 3) := by decide +kernel
theorem dX6_isText_28 : decode cX6_isText 28 = .ok (.aload_n 0, 1) := by decide +kernel
theorem dX6_isText_29 : decode cX6_isText 29 = .ok (.aload_n 0, 1) := by decide +kernel
theorem dX6_isText_30 : decode cX6_isText 30 = .ok (.getfield 38, 3) := by decide +kernel
theorem dX6_isText_33 : decode cX6_isText 33 = .ok (.iload_n 2, 1) := by decide +kernel
theorem dX6_isText_34 : decode cX6_isText 34 = .ok (.iadd, 1) := by decide +kernel
theorem dX6_isText_35 : decode cX6_isText 35 = .ok (.invokevirtual 41, 3) := by decide +kernel
theorem dX6_isText_38 : decode cX6_isText 38 = .ok (.aload_n 1, 1) := by decide +kernel
theorem dX6_isText_39 : decode cX6_isText 39 = .ok (.iload_n 2, 1) := by decide +kernel
theorem dX6_isText_40 : decode cX6_isText 40 = .ok (.invokevirtual 28, 3) := by decide +kernel
theorem dX6_isText_43 : decode cX6_isText 43 = .ok (.if_icmp .eq 5, 3) := by decide +kernel
theorem dX6_isText_46 : decode cX6_isText 46 = .ok (.iconst 0, 1) := by decide +kernel
theorem dX6_isText_47 : decode cX6_isText 47 = .ok (.ireturn, 1) := by decide +kernel
theorem dX6_isText_48 : decode cX6_isText 48 = .ok (.iinc 2 1, 3) := by decide +kernel
theorem dX6_isText_51 : decode cX6_isText 51 = .ok (.goto (-31), 3) := by decide +kernel
theorem dX6_isText_54 : decode cX6_isText 54 = .ok (.iconst 1, 1) := by decide +kernel
theorem dX6_isText_55 : decode cX6_isText 55 = .ok (.ireturn, 1) := by decide +kernel
theorem dX6_packName_0 : decode cX6_packName 0 = .ok (.aload_n 0, 1) := by decide +kernel
theorem dX6_packName_1 : decode cX6_packName 1 = .ok (.getfield 32, 3) := by decide +kernel
theorem dX6_packName_4 : decode cX6_packName 4 = .ok (.aload_n 0, 1) := by decide +kernel
theorem dX6_packName_5 : decode cX6_packName 5 = .ok (.getfield 38, 3) := by decide +kernel
theorem dX6_packName_8 : decode cX6_packName 8 = .ok (.isub, 1) := by decide +kernel
theorem dX6_packName_9 : decode cX6_packName 9 = .ok (.iconst 4, 1) := by decide +kernel
theorem dX6_packName_10 : decode cX6_packName 10 = .ok (.if_icmp .le 5, 3) := by decide +kernel
theorem dX6_packName_13 : decode cX6_packName 13 = .ok (.iconst 0, 1) := by decide +kernel
theorem dX6_packName_14 : decode cX6_packName 14 = .ok (.ireturn, 1) := by decide +kernel
theorem dX6_packName_15 : decode cX6_packName 15 = .ok (.iconst 0, 1) := by decide +kernel
theorem dX6_packName_16 : decode cX6_packName 16 = .ok (.istore_n 1, 1) := by decide +kernel
theorem dX6_packName_17 : decode cX6_packName 17 = .ok (.aload_n 0, 1) := by decide +kernel
theorem dX6_packName_18 : decode cX6_packName 18 = .ok (.getfield 38, 3) := by decide +kernel
theorem dX6_packName_21 : decode cX6_packName 21 = .ok (.istore_n 2, 1) := by decide +kernel
theorem dX6_packName_22 : decode cX6_packName 22 = .ok (.iload_n 2, 1) := by decide +kernel
theorem dX6_packName_23 : decode cX6_packName 23 = .ok (.aload_n 0, 1) := by decide +kernel
theorem dX6_packName_24 : decode cX6_packName 24 = .ok (.getfield 32, 3) := by decide +kernel
theorem dX6_packName_27 : decode cX6_packName 27 = .ok (.if_icmp .ge 20, 3) := by decide +kernel
theorem dX6_packName_30 : decode cX6_packName 30 = .ok (.iload_n 1, 1) := by decide +kernel
theorem dX6_packName_31 : decode cX6_packName 31 = .ok (.bipush 8, 2) := by decide +kernel
theorem dX6_packName_33 : decode cX6_packName 33 = .ok (.ishl, 1) := by decide +kernel
theorem dX6_packName_34 : decode cX6_packName 34 = .ok (.aload_n 0, 1) := by decide +kernel
theorem dX6_packName_35 : decode cX6_packName 35 = .ok (.iload_n 2, 1) := by decide +kernel
theorem dX6_packName_36 : decode cX6_packName 36 = .ok (.invokevirtual 41, 3) := by decide +kernel
theorem dX6_packName_39 : decode cX6_packName 39 = .ok (.ior, 1) := by decide +kernel
theorem dX6_packName_40 : decode cX6_packName 40 = .ok (.istore_n 1, 1) := by decide +kernel
theorem dX6_packName_41 : decode cX6_packName 41 = .ok (.iinc 2 1, 3) := by decide +kernel
theorem dX6_packName_44 : decode cX6_packName 44 = .ok (.goto (-22), 3) := by decide +kernel
theorem dX6_packName_47 : decode cX6_packName 47 = .ok (.iload_n 1, 1) := by decide +kernel
theorem dX6_packName_48 : decode cX6_packName 48 = .ok (.ireturn, 1) := by decide +kernel
theorem dX6_readNumber_0 : decode cX6_readNumber 0 = .ok (.iconst 0, 1) := by decide +kernel
theorem dX6_readNumber_1 : decode cX6_readNumber 1 = .ok (.istore_n 1, 1) := by decide +kernel
theorem dX6_readNumber_2 : decode cX6_readNumber 2 = .ok (.aload_n 0, 1) := by decide +kernel
theorem dX6_readNumber_3 : decode cX6_readNumber 3 = .ok (.getfield 38, 3) := by decide +kernel
theorem dX6_readNumber_6 : decode cX6_readNumber 6 = .ok (.istore_n 2, 1) := by decide +kernel
theorem dX6_readNumber_7 : decode cX6_readNumber 7 = .ok (.iload_n 2, 1) := by decide +kernel
theorem dX6_readNumber_8 : decode cX6_readNumber 8 = .ok (.aload_n 0, 1) := by decide +kernel
theorem dX6_readNumber_9 : decode cX6_readNumber 9 = .ok (.getfield 32, 3) := by decide +kernel
theorem dX6_readNumber_12 : decode cX6_readNumber 12 = .ok (.if_icmp .ge 29, 3) := by decide +kernel
theorem dX6_readNumber_15 : decode cX6_readNumber 15 = .ok (.sipush 1000, 3) := by decide +kernel
theorem dX6_readNumber_18 : decode cX6_readNumber 18 = .ok (.iload_n 1, 1) := by decide +kernel
theorem dX6_readNumber_19 : decode cX6_readNumber 19 = .ok (.bipush 10, 2) := by decide +kernel
theorem dX6_readNumber_21 : decode cX6_readNumber 21 = .ok (.imul, 1) := by decide +kernel
theorem dX6_readNumber_22 : decode cX6_readNumber 22 = .ok (.aload_n 0, 1) := by decide +kernel
theorem dX6_readNumber_23 : decode cX6_readNumber 23 = .ok (.iload_n 2, 1) := by decide +kernel
theorem dX6_readNumber_24 : decode cX6_readNumber 24 = .ok (.invokevirtual 41, 3) := by decide +kernel
theorem dX6_readNumber_27 : decode cX6_readNumber 27 = .ok (.iadd, 1) := by decide +kernel
theorem dX6_readNumber_28 : decode cX6_readNumber 28 = .ok (.bipush 48, 2) := by decide +kernel
theorem dX6_readNumber_30 : decode cX6_readNumber 30 = .ok (.isub, 1) := by decide +kernel
theorem dX6_readNumber_31 : decode cX6_readNumber 31 = .ok (.invokestatic 56, 3) := by decide +kernel
theorem dX6_readNumber_34 : decode cX6_readNumber 34 = .ok (.istore_n 1, 1) := by decide +kernel
theorem dX6_readNumber_35 : decode cX6_readNumber 35 = .ok (.iinc 2 1, 3) := by decide +kernel
theorem dX6_readNumber_38 : decode cX6_readNumber 38 = .ok (.goto (-31), 3) := by decide +kernel
theorem dX6_readNumber_41 : decode cX6_readNumber 41 = .ok (.iload_n 1, 1) := by decide +kernel
theorem dX6_readNumber_42 : decode cX6_readNumber 42 = .ok (.ireturn, 1) := by decide +kernel
theorem dX7_init_0 : decode cX7_init 0 = .ok (.aload_n 0, 1) := by decide +kernel
theorem dX7_init_1 : decode cX7_init 1 = .ok (.invokespecial 1, 3) := by decide +kernel
theorem dX7_init_4 : decode cX7_init 4 = .ok (.return_, 1) := by decide +kernel
theorem dX7_copyFrom_0 : decode cX7_copyFrom 0 = .ok (.aload_n 0, 1) := by decide +kernel
theorem dX7_copyFrom_1 : decode cX7_copyFrom 1 = .ok (.aload_n 1, 1) := by decide +kernel
theorem dX7_copyFrom_2 : decode cX7_copyFrom 2 = .ok (.getfield 7, 3) := by decide +kernel
theorem dX7_copyFrom_5 : decode cX7_copyFrom 5 = .ok (.putfield 7, 3) := by decide +kernel
theorem dX7_copyFrom_8 : decode cX7_copyFrom 8 = .ok (.aload_n 0, 1) := by decide +kernel
theorem dX7_copyFrom_9 : decode cX7_copyFrom 9 = .ok (.aload_n 1, 1) := by decide +kernel
theorem dX7_copyFrom_10 : decode cX7_copyFrom 10 = .ok (.getfield 13, 3) := by decide +kernel
theorem dX7_copyFrom_13 : decode cX7_copyFrom 13 = .ok (.putfield 13, 3) := by decide +kernel
theorem dX7_copyFrom_16 : decode cX7_copyFrom 16 = .ok (.aload_n 0, 1) := by decide +kernel
theorem dX7_copyFrom_17 : decode cX7_copyFrom 17 = .ok (.aload_n 1, 1) := by decide +kernel
theorem dX7_copyFrom_18 : decode cX7_copyFrom 18 = .ok (.getfield 16, 3) := by decide +kernel
theorem dX7_copyFrom_21 : decode cX7_copyFrom 21 = .ok (.putfield 16, 3) := by decide +kernel
theorem dX7_copyFrom_24 : decode cX7_copyFrom 24 = .ok (.aload_n 0, 1) := by decide +kernel
theorem dX7_copyFrom_25 : decode cX7_copyFrom 25 = .ok (.aload_n 1, 1) := by decide +kernel
theorem dX7_copyFrom_26 : decode cX7_copyFrom 26 = .ok (.getfield 19, 3) := by decide +kernel
theorem dX7_copyFrom_29 : decode cX7_copyFrom 29 = .ok (.putfield 19, 3) := by decide +kernel
theorem dX7_copyFrom_32 : decode cX7_copyFrom 32 = .ok (.return_, 1) := by decide +kernel
theorem dX7_connects_0 : decode cX7_connects 0 = .ok (.aload_n 0, 1) := by decide +kernel
theorem dX7_connects_1 : decode cX7_connects 1 = .ok (.getfield 7, 3) := by decide +kernel
theorem dX7_connects_4 : decode cX7_connects 4 = .ok (.iload_n 1, 1) := by decide +kernel
theorem dX7_connects_5 : decode cX7_connects 5 = .ok (.if_icmp .ne 11, 3) := by decide +kernel
theorem dX7_connects_8 : decode cX7_connects 8 = .ok (.aload_n 0, 1) := by decide +kernel
theorem dX7_connects_9 : decode cX7_connects 9 = .ok (.getfield 13, 3) := by decide +kernel
theorem dX7_connects_12 : decode cX7_connects 12 = .ok (.iload_n 2, 1) := by decide +kernel
theorem dX7_connects_13 : decode cX7_connects 13 = .ok (.if_icmp .eq 19, 3) := by decide +kernel
theorem dX7_connects_16 : decode cX7_connects 16 = .ok (.aload_n 0, 1) := by decide +kernel
theorem dX7_connects_17 : decode cX7_connects 17 = .ok (.getfield 7, 3) := by decide +kernel
theorem dX7_connects_20 : decode cX7_connects 20 = .ok (.iload_n 2, 1) := by decide +kernel
theorem dX7_connects_21 : decode cX7_connects 21 = .ok (.if_icmp .ne 15, 3) := by decide +kernel
theorem dX7_connects_24 : decode cX7_connects 24 = .ok (.aload_n 0, 1) := by decide +kernel
theorem dX7_connects_25 : decode cX7_connects 25 = .ok (.getfield 13, 3) := by decide +kernel
theorem dX7_connects_28 : decode cX7_connects 28 = .ok (.iload_n 1, 1) := by decide +kernel
theorem dX7_connects_29 : decode cX7_connects 29 = .ok (.if_icmp .ne 7, 3) := by decide +kernel
theorem dX7_connects_32 : decode cX7_connects 32 = .ok (.iconst 1, 1) := by decide +kernel
theorem dX7_connects_33 : decode cX7_connects 33 = .ok (.goto 4, 3) := by decide +kernel
theorem dX7_connects_36 : decode cX7_connects 36 = .ok (.iconst 0, 1) := by decide +kernel
theorem dX7_connects_37 : decode cX7_connects 37 = .ok (.ireturn, 1) := by decide +kernel
theorem dX8_init_0 : decode cX8_init 0 = .ok (.aload_n 0, 1) := by decide +kernel
theorem dX8_init_1 : decode cX8_init 1 = .ok (.invokespecial 3, 3) := by decide +kernel
theorem dX8_init_4 : decode cX8_init 4 = .ok (.aload_n 0, 1) := by decide +kernel
theorem dX8_init_5 : decode cX8_init 5 = .ok (.bipush 6, 2) := by decide +kernel
theorem dX8_init_7 : decode cX8_init 7 = .ok (.newarray .int, 2) := by decide +kernel
theorem dX8_init_9 : decode cX8_init 9 = .ok (.putfield 9, 3) := by decide +kernel
theorem dX8_init_12 : decode cX8_init 12 = .ok (.aload_n 0, 1) := by decide +kernel
theorem dX8_init_13 : decode cX8_init 13 = .ok (.iload_n 1, 1) := by decide +kernel
theorem dX8_init_14 : decode cX8_init 14 = .ok (.putfield 15, 3) := by decide +kernel
theorem dX8_init_17 : decode cX8_init 17 = .ok (.return_, 1) := by decide +kernel
theorem dX8_copyFrom_0 : decode cX8_copyFrom 0 = .ok (.aload_n 0, 1) := by decide +kernel
theorem dX8_copyFrom_1 : decode cX8_copyFrom 1 = .ok (.aload_n 1, 1) := by decide +kernel
theorem dX8_copyFrom_2 : decode cX8_copyFrom 2 = .ok (.getfield 19, 3) := by decide +kernel
theorem dX8_copyFrom_5 : decode cX8_copyFrom 5 = .ok (.putfield 19, 3) := by decide +kernel
theorem dX8_copyFrom_8 : decode cX8_copyFrom 8 = .ok (.iconst 0, 1) := by decide +kernel
theorem dX8_copyFrom_9 : decode cX8_copyFrom 9 = .ok (.istore_n 2, 1) := by decide +kernel
theorem dX8_copyFrom_10 : decode cX8_copyFrom 10 = .ok (.iload_n 2, 1) := by decide +kernel
theorem dX8_copyFrom_11 : decode cX8_copyFrom 11 = .ok (.bipush 6, 2) := by decide +kernel
theorem dX8_copyFrom_13 : decode cX8_copyFrom 13 = .ok (.if_icmp .ge 21, 3) := by decide +kernel
theorem dX8_copyFrom_16 : decode cX8_copyFrom 16 = .ok (.aload_n 0, 1) := by decide +kernel
theorem dX8_copyFrom_17 : decode cX8_copyFrom 17 = .ok (.getfield 9, 3) := by decide +kernel
theorem dX8_copyFrom_20 : decode cX8_copyFrom 20 = .ok (.iload_n 2, 1) := by decide +kernel
theorem dX8_copyFrom_21 : decode cX8_copyFrom 21 = .ok (.aload_n 1, 1) := by decide +kernel
theorem dX8_copyFrom_22 : decode cX8_copyFrom 22 = .ok (.getfield 9, 3) := by decide +kernel
theorem dX8_copyFrom_25 : decode cX8_copyFrom 25 = .ok (.iload_n 2, 1) := by decide +kernel
theorem dX8_copyFrom_26 : decode cX8_copyFrom 26 = .ok (.iaload, 1) := by decide +kernel
theorem dX8_copyFrom_27 : decode cX8_copyFrom 27 = .ok (.iastore, 1) := by decide +kernel
theorem dX8_copyFrom_28 : decode cX8_copyFrom 28 = .ok (.iinc 2 1, 3) := by decide +kernel
theorem dX8_copyFrom_31 : decode cX8_copyFrom 31 = .ok (.goto (-21), 3) := by decide +kernel
theorem dX8_copyFrom_34 : decode cX8_copyFrom 34 = .ok (.aload_n 0, 1) := by decide +kernel
theorem dX8_copyFrom_35 : decode cX8_copyFrom 35 = .ok (.aload_n 1, 1) := by decide +kernel
theorem dX8_copyFrom_36 : decode cX8_copyFrom 36 = .ok (.getfield 22, 3) := by decide +kernel
theorem dX8_copyFrom_39 : decode cX8_copyFrom 39 = .ok (.putfield 22, 3) := by decide +kernel
theorem dX8_copyFrom_42 : decode cX8_copyFrom 42 = .ok (.aload_n 0, 1) := by decide +kernel
theorem dX8_copyFrom_43 : decode cX8_copyFrom 43 = .ok (.aload_n 1, 1) := by decide +kernel
theorem dX8_copyFrom_44 : decode cX8_copyFrom 44 = .ok (.getfield 25, 3) := by decide +kernel
theorem dX8_copyFrom_47 : decode cX8_copyFrom 47 = .ok (.putfield 25, 3) := by decide +kernel
theorem dX8_copyFrom_50 : decode cX8_copyFrom 50 = .ok (.aload_n 0, 1) := by decide +kernel
theorem dX8_copyFrom_51 : decode cX8_copyFrom 51 = .ok (.aload_n 1, 1) := by decide +kernel
theorem dX8_copyFrom_52 : decode cX8_copyFrom 52 = .ok (.getfield 28, 3) := by decide +kernel
theorem dX8_copyFrom_55 : decode cX8_copyFrom 55 = .ok (.putfield 28, 3) := by decide +kernel
theorem dX8_copyFrom_58 : decode cX8_copyFrom 58 = .ok (.aload_n 0, 1) := by decide +kernel
theorem dX8_copyFrom_59 : decode cX8_copyFrom 59 = .ok (.aload_n 1, 1) := by decide +kernel
theorem dX8_copyFrom_60 : decode cX8_copyFrom 60 = .ok (.getfield 32, 3) := by decide +kernel
theorem dX8_copyFrom_63 : decode cX8_copyFrom 63 = .ok (.putfield 32, 3) := by decide +kernel
theorem dX8_copyFrom_66 : decode cX8_copyFrom 66 = .ok (.aload_n 0, 1) := by decide +kernel
theorem dX8_copyFrom_67 : decode cX8_copyFrom 67 = .ok (.aload_n 1, 1) := by decide +kernel
theorem dX8_copyFrom_68 : decode cX8_copyFrom 68 = .ok (.getfield 35, 3) := by decide +kernel
theorem dX8_copyFrom_71 : decode cX8_copyFrom 71 = .ok (.putfield 35, 3) := by decide +kernel
theorem dX8_copyFrom_74 : decode cX8_copyFrom 74 = .ok (.aload_n 0, 1) := by decide +kernel
theorem dX8_copyFrom_75 : decode cX8_copyFrom 75 = .ok (.aload_n 1, 1) := by decide +kernel
theorem dX8_copyFrom_76 : decode cX8_copyFrom 76 = .ok (.getfield 38, 3) := by decide +kernel
theorem dX8_copyFrom_79 : decode cX8_copyFrom 79 = .ok (.putfield 38, 3) := by decide +kernel
theorem dX8_copyFrom_82 : decode cX8_copyFrom 82 = .ok (.aload_n 0, 1) := by decide +kernel
theorem dX8_copyFrom_83 : decode cX8_copyFrom 83 = .ok (.aload_n 1, 1) := by decide +kernel
theorem dX8_copyFrom_84 : decode cX8_copyFrom 84 = .ok (.getfield 41, 3) := by decide +kernel
theorem dX8_copyFrom_87 : decode cX8_copyFrom 87 = .ok (.putfield 41, 3) := by decide +kernel
theorem dX8_copyFrom_90 : decode cX8_copyFrom 90 = .ok (.return_, 1) := by decide +kernel
theorem dX8_isStanding_0 : decode cX8_isStanding 0 = .ok (.aload_n 0, 1) := by decide +kernel
theorem dX8_isStanding_1 : decode cX8_isStanding 1 = .ok (.getfield 32, 3) := by decide +kernel
theorem dX8_isStanding_4 : decode cX8_isStanding 4 = .ok (.ifCond .ne 7, 3) := by decide +kernel
theorem dX8_isStanding_7 : decode cX8_isStanding 7 = .ok (.iconst 1, 1) := by decide +kernel
theorem dX8_isStanding_8 : decode cX8_isStanding 8 = .ok (.goto 4, 3) := by decide +kernel
theorem dX8_isStanding_11 : decode cX8_isStanding 11 = .ok (.iconst 0, 1) := by decide +kernel
theorem dX8_isStanding_12 : decode cX8_isStanding 12 = .ok (.ireturn, 1) := by decide +kernel
theorem dX8_stationAt_0 : decode cX8_stationAt 0 = .ok (.iload_n 1, 1) := by decide +kernel
theorem dX8_stationAt_1 : decode cX8_stationAt 1 = .ok (.ifCond .lt 29, 3) := by decide +kernel
theorem dX8_stationAt_4 : decode cX8_stationAt 4 = .ok (.iload_n 1, 1) := by decide +kernel
theorem dX8_stationAt_5 : decode cX8_stationAt 5 = .ok (.aload_n 0, 1) := by decide +kernel
theorem dX8_stationAt_6 : decode cX8_stationAt 6 = .ok (.getfield 22, 3) := by decide +kernel
theorem dX8_stationAt_9 : decode cX8_stationAt 9 = .ok (.if_icmp .ge 21, 3) := by decide +kernel
theorem dX8_stationAt_12 : decode cX8_stationAt 12 = .ok (.iload_n 1, 1) := by decide +kernel
theorem dX8_stationAt_13 : decode cX8_stationAt 13 = .ok (.aload_n 0, 1) := by decide +kernel
theorem dX8_stationAt_14 : decode cX8_stationAt 14 = .ok (.getfield 9, 3) := by decide +kernel
theorem dX8_stationAt_17 : decode cX8_stationAt 17 = .ok (.arraylength, 1) := by decide +kernel
theorem dX8_stationAt_18 : decode cX8_stationAt 18 = .ok (.if_icmp .ge 12, 3) := by decide +kernel
theorem dX8_stationAt_21 : decode cX8_stationAt 21 = .ok (.aload_n 0, 1) := by decide +kernel
theorem dX8_stationAt_22 : decode cX8_stationAt 22 = .ok (.getfield 9, 3) := by decide +kernel
theorem dX8_stationAt_25 : decode cX8_stationAt 25 = .ok (.iload_n 1, 1) := by decide +kernel
theorem dX8_stationAt_26 : decode cX8_stationAt 26 = .ok (.iaload, 1) := by decide +kernel
theorem dX8_stationAt_27 : decode cX8_stationAt 27 = .ok (.goto 4, 3) := by decide +kernel
theorem dX8_stationAt_30 : decode cX8_stationAt 30 = .ok (.iconst (-1), 1) := by decide +kernel
theorem dX8_stationAt_31 : decode cX8_stationAt 31 = .ok (.ireturn, 1) := by decide +kernel
theorem dX8_stationAhead_0 : decode cX8_stationAhead 0 = .ok (.aload_n 0, 1) := by decide +kernel
theorem dX8_stationAhead_1 : decode cX8_stationAhead 1 = .ok (.getfield 28, 3) := by decide +kernel
theorem dX8_stationAhead_4 : decode cX8_stationAhead 4 = .ok (.ifCond .eq 12, 3) := by decide +kernel
theorem dX8_stationAhead_7 : decode cX8_stationAhead 7 = .ok (.aload_n 0, 1) := by decide +kernel
theorem dX8_stationAhead_8 : decode cX8_stationAhead 8 = .ok (.getfield 25, 3) := by decide +kernel
theorem dX8_stationAhead_11 : decode cX8_stationAhead 11 = .ok (.iload_n 1, 1) := by decide +kernel
theorem dX8_stationAhead_12 : decode cX8_stationAhead 12 = .ok (.iadd, 1) := by decide +kernel
theorem dX8_stationAhead_13 : decode cX8_stationAhead 13 = .ok (.goto 9, 3) := by decide +kernel
theorem dX8_stationAhead_16 : decode cX8_stationAhead 16 = .ok (.aload_n 0, 1) := by decide +kernel
theorem dX8_stationAhead_17 : decode cX8_stationAhead 17 = .ok (.getfield 25, 3) := by decide +kernel
theorem dX8_stationAhead_20 : decode cX8_stationAhead 20 = .ok (.iload_n 1, 1) := by decide +kernel
theorem dX8_stationAhead_21 : decode cX8_stationAhead 21 = .ok (.isub, 1) := by decide +kernel
theorem dX8_stationAhead_22 : decode cX8_stationAhead 22 = .ok (.istore_n 2, 1) := by decide +kernel
theorem dX8_stationAhead_23 : decode cX8_stationAhead 23 = .ok (.iload_n 2, 1) := by decide +kernel
theorem dX8_stationAhead_24 : decode cX8_stationAhead 24 = .ok (.ifCond .lt 29, 3) := by decide +kernel
theorem dX8_stationAhead_27 : decode cX8_stationAhead 27 = .ok (.iload_n 2, 1) := by decide +kernel
theorem dX8_stationAhead_28 : decode cX8_stationAhead 28 = .ok (.aload_n 0, 1) := by decide +kernel
theorem dX8_stationAhead_29 : decode cX8_stationAhead 29 = .ok (.getfield 22, 3) := by decide +kernel
theorem dX8_stationAhead_32 : decode cX8_stationAhead 32 = .ok (.if_icmp .ge 21, 3) := by decide +kernel
theorem dX8_stationAhead_35 : decode cX8_stationAhead 35 = .ok (.iload_n 2, 1) := by decide +kernel
theorem dX8_stationAhead_36 : decode cX8_stationAhead 36 = .ok (.aload_n 0, 1) := by decide +kernel
theorem dX8_stationAhead_37 : decode cX8_stationAhead 37 = .ok (.getfield 9, 3) := by decide +kernel
theorem dX8_stationAhead_40 : decode cX8_stationAhead 40 = .ok (.arraylength, 1) := by decide +kernel
theorem dX8_stationAhead_41 : decode cX8_stationAhead 41 = .ok (.if_icmp .ge 12, 3) := by decide +kernel
theorem dX8_stationAhead_44 : decode cX8_stationAhead 44 = .ok (.aload_n 0, 1) := by decide +kernel
theorem dX8_stationAhead_45 : decode cX8_stationAhead 45 = .ok (.getfield 9, 3) := by decide +kernel
theorem dX8_stationAhead_48 : decode cX8_stationAhead 48 = .ok (.iload_n 2, 1) := by decide +kernel
theorem dX8_stationAhead_49 : decode cX8_stationAhead 49 = .ok (.iaload, 1) := by decide +kernel
theorem dX8_stationAhead_50 : decode cX8_stationAhead 50 = .ok (.goto 4, 3) := by decide +kernel
theorem dX8_stationAhead_53 : decode cX8_stationAhead 53 = .ok (.iconst (-1), 1) := by decide +kernel
theorem dX8_stationAhead_54 : decode cX8_stationAhead 54 = .ok (.ireturn, 1) := by decide +kernel
theorem dX8_standsAt_0 : decode cX8_standsAt 0 = .ok (.aload_n 0, 1) := by decide +kernel
theorem dX8_standsAt_1 : decode cX8_standsAt 1 = .ok (.invokevirtual 44, 3) := by decide +kernel
theorem dX8_standsAt_4 : decode cX8_standsAt 4 = .ok (.ifCond .eq 11, 3) := by decide +kernel
theorem dX8_standsAt_7 : decode cX8_standsAt 7 = .ok (.aload_n 0, 1) := by decide +kernel
theorem dX8_standsAt_8 : decode cX8_standsAt 8 = .ok (.iconst 0, 1) := by decide +kernel
theorem dX8_standsAt_9 : decode cX8_standsAt 9 = .ok (.invokevirtual 48, 3) := by decide +kernel
theorem dX8_standsAt_12 : decode cX8_standsAt 12 = .ok (.goto 4, 3) := by decide +kernel
theorem dX8_standsAt_15 : decode cX8_standsAt 15 = .ok (.iconst (-1), 1) := by decide +kernel
theorem dX8_standsAt_16 : decode cX8_standsAt 16 = .ok (.ireturn, 1) := by decide +kernel
theorem dX8_isAtEnd_0 : decode cX8_isAtEnd 0 = .ok (.aload_n 0, 1) := by decide +kernel
theorem dX8_isAtEnd_1 : decode cX8_isAtEnd 1 = .ok (.getfield 25, 3) := by decide +kernel
theorem dX8_isAtEnd_4 : decode cX8_isAtEnd 4 = .ok (.ifCond .le 16, 3) := by decide +kernel
theorem dX8_isAtEnd_7 : decode cX8_isAtEnd 7 = .ok (.aload_n 0, 1) := by decide +kernel
theorem dX8_isAtEnd_8 : decode cX8_isAtEnd 8 = .ok (.getfield 25, 3) := by decide +kernel
theorem dX8_isAtEnd_11 : decode cX8_isAtEnd 11 = .ok (.aload_n 0, 1) := by decide +kernel
theorem dX8_isAtEnd_12 : decode cX8_isAtEnd 12 = .ok (.getfield 22, 3) := by decide +kernel
theorem dX8_isAtEnd_15 : decode cX8_isAtEnd 15 = .ok (.iconst 1, 1) := by decide +kernel
theorem dX8_isAtEnd_16 : decode cX8_isAtEnd 16 = .ok (.isub, 1) := by decide +kernel
theorem dX8_isAtEnd_17 : decode cX8_isAtEnd 17 = .ok (.if_icmp .lt 7, 3) := by decide +kernel
theorem dX8_isAtEnd_20 : decode cX8_isAtEnd 20 = .ok (.iconst 1, 1) := by decide +kernel
theorem dX8_isAtEnd_21 : decode cX8_isAtEnd 21 = .ok (.goto 4, 3) := by decide +kernel
theorem dX8_isAtEnd_24 : decode cX8_isAtEnd 24 = .ok (.iconst 0, 1) := by decide +kernel
theorem dX8_isAtEnd_25 : decode cX8_isAtEnd 25 = .ok (.ireturn, 1) := by decide +kernel
theorem dX8_reachNextStop_0 : decode cX8_reachNextStop 0 = .ok (.aload_n 0, 1) := by decide +kernel
theorem dX8_reachNextStop_1 : decode cX8_reachNextStop 1 = .ok (.aload_n 0, 1) := by decide +kernel
theorem dX8_reachNextStop_2 : decode cX8_reachNextStop 2 = .ok (.getfield 28, 3) := by decide +kernel
theorem dX8_reachNextStop_5 : decode cX8_reachNextStop 5 = .ok (.ifCond .eq 12, 3) := by decide +kernel
theorem dX8_reachNextStop_8 : decode cX8_reachNextStop 8 = .ok (.aload_n 0, 1) := by decide +kernel
theorem dX8_reachNextStop_9 : decode cX8_reachNextStop 9 = .ok (.getfield 25, 3) := by decide +kernel
theorem dX8_reachNextStop_12 : decode cX8_reachNextStop 12 = .ok (.iconst 1, 1) := by decide +kernel
theorem dX8_reachNextStop_13 : decode cX8_reachNextStop 13 = .ok (.iadd, 1) := by decide +kernel
theorem dX8_reachNextStop_14 : decode cX8_reachNextStop 14 = .ok (.goto 9, 3) := by decide +kernel
theorem dX8_reachNextStop_17 : decode cX8_reachNextStop 17 = .ok (.aload_n 0, 1) := by decide +kernel
theorem dX8_reachNextStop_18 : decode cX8_reachNextStop 18 = .ok (.getfield 25, 3) := by decide +kernel
theorem dX8_reachNextStop_21 : decode cX8_reachNextStop 21 = .ok (.iconst 1, 1) := by decide +kernel
theorem dX8_reachNextStop_22 : decode cX8_reachNextStop 22 = .ok (.isub, 1) := by decide +kernel
theorem dX8_reachNextStop_23 : decode cX8_reachNextStop 23 = .ok (.putfield 25, 3) := by decide +kernel
theorem dX8_reachNextStop_26 : decode cX8_reachNextStop 26 = .ok (.aload_n 0, 1) := by decide +kernel
theorem dX8_reachNextStop_27 : decode cX8_reachNextStop 27 = .ok (.invokevirtual 52, 3) := by decide +kernel
theorem dX8_reachNextStop_30 : decode cX8_reachNextStop 30 = .ok (.ifCond .eq 19, 3) := by decide +kernel
theorem dX8_reachNextStop_33 : decode cX8_reachNextStop 33 = .ok (.aload_n 0, 1) := by decide +kernel
theorem dX8_reachNextStop_34 : decode cX8_reachNextStop 34 = .ok (.aload_n 0, 1) := by decide +kernel
theorem dX8_reachNextStop_35 : decode cX8_reachNextStop 35 = .ok (.getfield 25, 3) := by decide +kernel
theorem dX8_reachNextStop_38 : decode cX8_reachNextStop 38 = .ok (.ifCond .gt 7, 3) := by decide +kernel
theorem dX8_reachNextStop_41 : decode cX8_reachNextStop 41 = .ok (.iconst 1, 1) := by decide +kernel
theorem dX8_reachNextStop_42 : decode cX8_reachNextStop 42 = .ok (.goto 4, 3) := by decide +kernel
theorem dX8_reachNextStop_45 : decode cX8_reachNextStop 45 = .ok (.iconst 0, 1) := by decide +kernel
theorem dX8_reachNextStop_46 : decode cX8_reachNextStop 46 = .ok (.putfield 28, 3) := by decide +kernel
theorem dX8_reachNextStop_49 : decode cX8_reachNextStop 49 = .ok (.return_, 1) := by decide +kernel
theorem dX9_init_0 : decode cX9_init 0 = .ok (.aload_n 0, 1) := by decide +kernel
theorem dX9_init_1 : decode cX9_init 1 = .ok (.invokespecial 1, 3) := by decide +kernel
theorem dX9_init_4 : decode cX9_init 4 = .ok (.aload_n 0, 1) := by decide +kernel
theorem dX9_init_5 : decode cX9_init 5 = .ok (.new 7, 3) := by decide +kernel
theorem dX9_init_8 : decode cX9_init 8 = .ok (.dup, 1) := by decide +kernel
theorem dX9_init_9 : decode cX9_init 9 = .ok (.invokespecial 9, 3) := by decide +kernel
theorem dX9_init_12 : decode cX9_init 12 = .ok (.putfield 10, 3) := by decide +kernel
theorem dX9_init_15 : decode cX9_init 15 = .ok (.aload_n 0, 1) := by decide +kernel
theorem dX9_init_16 : decode cX9_init 16 = .ok (.new 7, 3) := by decide +kernel
theorem dX9_init_19 : decode cX9_init 19 = .ok (.dup, 1) := by decide +kernel
theorem dX9_init_20 : decode cX9_init 20 = .ok (.invokespecial 9, 3) := by decide +kernel
theorem dX9_init_23 : decode cX9_init 23 = .ok (.putfield 16, 3) := by decide +kernel
theorem dX9_init_26 : decode cX9_init 26 = .ok (.aload_n 0, 1) := by decide +kernel
theorem dX9_init_27 : decode cX9_init 27 = .ok (.new 19, 3) := by decide +kernel
theorem dX9_init_30 : decode cX9_init 30 = .ok (.dup, 1) := by decide +kernel
theorem dX9_init_31 : decode cX9_init 31 = .ok (.invokespecial 21, 3) := by decide +kernel
theorem dX9_init_34 : decode cX9_init 34 = .ok (.putfield 22, 3) := by decide +kernel
theorem dX9_init_37 : decode cX9_init 37 = .ok (.aload_n 0, 1) := by decide +kernel
theorem dX9_init_38 : decode cX9_init 38 = .ok (.new 26, 3) := by decide +kernel
theorem dX9_init_41 : decode cX9_init 41 = .ok (.dup, 1) := by decide +kernel
theorem dX9_init_42 : decode cX9_init 42 = .ok (.invokespecial 28, 3) := by decide +kernel
theorem dX9_init_45 : decode cX9_init 45 = .ok (.putfield 29, 3) := by decide +kernel
theorem dX9_init_48 : decode cX9_init 48 = .ok (.aload_n 0, 1) := by decide +kernel
theorem dX9_init_49 : decode cX9_init 49 = .ok (.new 33, 3) := by decide +kernel
theorem dX9_init_52 : decode cX9_init 52 = .ok (.dup, 1) := by decide +kernel
theorem dX9_init_53 : decode cX9_init 53 = .ok (.invokespecial 35, 3) := by decide +kernel
theorem dX9_init_56 : decode cX9_init 56 = .ok (.putfield 36, 3) := by decide +kernel
theorem dX9_init_59 : decode cX9_init 59 = .ok (.aload_n 0, 1) := by decide +kernel
theorem dX9_init_60 : decode cX9_init 60 = .ok (.iconst 2, 1) := by decide +kernel
theorem dX9_init_61 : decode cX9_init 61 = .ok (.anewarray 7, 3) := by decide +kernel
theorem dX9_init_64 : decode cX9_init 64 = .ok (.putfield 40, 3) := by decide +kernel
theorem dX9_init_67 : decode cX9_init 67 = .ok (.aload_n 0, 1) := by decide +kernel
theorem dX9_init_68 : decode cX9_init 68 = .ok (.iconst 2, 1) := by decide +kernel
theorem dX9_init_69 : decode cX9_init 69 = .ok (.newarray .boolean, 2) := by decide +kernel
theorem dX9_init_71 : decode cX9_init 71 = .ok (.putfield 44, 3) := by decide +kernel
theorem dX9_init_74 : decode cX9_init 74 = .ok (.iconst 0, 1) := by decide +kernel
theorem dX9_init_75 : decode cX9_init 75 = .ok (.istore_n 1, 1) := by decide +kernel
theorem dX9_init_76 : decode cX9_init 76 = .ok (.iload_n 1, 1) := by decide +kernel
theorem dX9_init_77 : decode cX9_init 77 = .ok (.aload_n 0, 1) := by decide +kernel
theorem dX9_init_78 : decode cX9_init 78 = .ok (.getfield 40, 3) := by decide +kernel
theorem dX9_init_81 : decode cX9_init 81 = .ok (.arraylength, 1) := by decide +kernel
theorem dX9_init_82 : decode cX9_init 82 = .ok (.if_icmp .ge 22, 3) := by decide +kernel
theorem dX9_init_85 : decode cX9_init 85 = .ok (.aload_n 0, 1) := by decide +kernel
theorem dX9_init_86 : decode cX9_init 86 = .ok (.getfield 40, 3) := by decide +kernel
theorem dX9_init_89 : decode cX9_init 89 = .ok (.iload_n 1, 1) := by decide +kernel
theorem dX9_init_90 : decode cX9_init 90 = .ok (.new 7, 3) := by decide +kernel
theorem dX9_init_93 : decode cX9_init 93 = .ok (.dup, 1) := by decide +kernel
theorem dX9_init_94 : decode cX9_init 94 = .ok (.invokespecial 9, 3) := by decide +kernel
theorem dX9_init_97 : decode cX9_init 97 = .ok (.aastore, 1) := by decide +kernel
theorem dX9_init_98 : decode cX9_init 98 = .ok (.iinc 1 1, 3) := by decide +kernel
theorem dX9_init_101 : decode cX9_init 101 = .ok (.goto (-25), 3) := by decide +kernel
theorem dX9_init_104 : decode cX9_init 104 = .ok (.aload_n 0, 1) := by decide +kernel
theorem dX9_init_105 : decode cX9_init 105 = .ok (.getfield 22, 3) := by decide +kernel
theorem dX9_init_108 : decode cX9_init 108 = .ok (.getfield 48, 3) := by decide +kernel
theorem dX9_init_111 : decode cX9_init 111 = .ok (.ldc 52, 2) := by decide +kernel
theorem dX9_init_113 : decode cX9_init 113 = .ok (.invokevirtual 54, 3) := by decide +kernel
theorem dX9_init_116 : decode cX9_init 116 = .ok (.aload_n 0, 1) := by decide +kernel
theorem dX9_init_117 : decode cX9_init 117 = .ok (.getfield 22, 3) := by decide +kernel
theorem dX9_init_120 : decode cX9_init 120 = .ok (.invokevirtual 60, 3) := by decide +kernel
theorem dX9_init_123 : decode cX9_init 123 = .ok (.aload_n 0, 1) := by decide +kernel
theorem dX9_init_124 : decode cX9_init 124 = .ok (.getfield 10, 3) := by decide +kernel
theorem dX9_init_127 : decode cX9_init 127 = .ok (.aload_n 0, 1) := by decide +kernel
theorem dX9_init_128 : decode cX9_init 128 = .ok (.getfield 22, 3) := by decide +kernel
theorem dX9_init_131 : decode cX9_init 131 = .ok (.getfield 63, 3) := by decide +kernel
theorem dX9_init_134 : decode cX9_init 134 = .ok (.invokevirtual 66, 3) := by decide +kernel
theorem dX9_init_137 : decode cX9_init 137 = .ok (.return_, 1) := by decide +kernel
theorem dX9_appendInput_0 : decode cX9_appendInput 0 = .ok (.aload_n 0, 1) := by decide +kernel
theorem dX9_appendInput_1 : decode cX9_appendInput 1 = .ok (.getfield 22, 3) := by decide +kernel
theorem dX9_appendInput_4 : decode cX9_appendInput 4 = .ok (.getfield 48, 3) := by decide +kernel
theorem dX9_appendInput_7 : decode cX9_appendInput 7 = .ok (.astore 6, 2) := by decide +kernel
theorem dX9_appendInput_9 : decode cX9_appendInput 9 = .ok (.aload 6, 2) := by decide +kernel
theorem dX9_appendInput_11 : decode cX9_appendInput 11 = .ok (.getfield 70, 3) := by decide +kernel
theorem dX9_appendInput_14 : decode cX9_appendInput 14 = .ok (.bipush 20, 2) := by decide +kernel
theorem dX9_appendInput_16 : decode cX9_appendInput 16 = .ok (.iadd, 1) := by decide +kernel
theorem dX9_appendInput_17 : decode cX9_appendInput 17 = .ok (.sipush 600, 3) := by decide +kernel
theorem dX9_appendInput_20 : decode cX9_appendInput 20 = .ok (.if_icmp .le 13, 3) := by decide +kernel
theorem dX9_appendInput_23 : decode cX9_appendInput 23 = .ok (.new 74, 3) := by decide +kernel
theorem dX9_appendInput_26 : decode cX9_appendInput 26 = .ok (.dup, 1) := by decide +kernel
theorem dX9_appendInput_27 : decode cX9_appendInput 27 = .ok (.ldc 76, 2) := by decide +kernel
theorem dX9_appendInput_29 : decode cX9_appendInput 29 = .ok (.invokespecial 78, 3) := by decide +kernel
theorem dX9_appendInput_32 : decode cX9_appendInput 32 = .ok (.athrow, 1) := by decide +kernel
theorem dX9_appendInput_33 : decode cX9_appendInput 33 = .ok (.aload 6, 2) := by decide +kernel
theorem dX9_appendInput_35 : decode cX9_appendInput 35 = .ok (.iload_n 1, 1) := by decide +kernel
theorem dX9_appendInput_36 : decode cX9_appendInput 36 = .ok (.invokevirtual 80, 3) := by decide +kernel
theorem dX9_appendInput_39 : decode cX9_appendInput 39 = .ok (.aload 6, 2) := by decide +kernel
theorem dX9_appendInput_41 : decode cX9_appendInput 41 = .ok (.iload_n 2, 1) := by decide +kernel
theorem dX9_appendInput_42 : decode cX9_appendInput 42 = .ok (.invokevirtual 80, 3) := by decide +kernel
theorem dX9_appendInput_45 : decode cX9_appendInput 45 = .ok (.aload 6, 2) := by decide +kernel
theorem dX9_appendInput_47 : decode cX9_appendInput 47 = .ok (.iload_n 3, 1) := by decide +kernel
theorem dX9_appendInput_48 : decode cX9_appendInput 48 = .ok (.invokevirtual 80, 3) := by decide +kernel
theorem dX9_appendInput_51 : decode cX9_appendInput 51 = .ok (.aload 6, 2) := by decide +kernel
theorem dX9_appendInput_53 : decode cX9_appendInput 53 = .ok (.iload 4, 2) := by decide +kernel
theorem dX9_appendInput_55 : decode cX9_appendInput 55 = .ok (.invokevirtual 80, 3) := by decide +kernel
theorem dX9_appendInput_58 : decode cX9_appendInput 58 = .ok (.aload 6, 2) := by decide +kernel
theorem dX9_appendInput_60 : decode cX9_appendInput 60 = .ok (.iload 5, 2) := by decide +kernel
theorem dX9_appendInput_62 : decode cX9_appendInput 62 = .ok (.invokevirtual 80, 3) := by decide +kernel
theorem dX9_appendInput_65 : decode cX9_appendInput 65 = .ok (.aload 6, 2) := by decide +kernel
theorem dX9_appendInput_67 : decode cX9_appendInput 67 = .ok (.getfield 70, 3) := by decide +kernel
theorem dX9_appendInput_70 : decode cX9_appendInput 70 = .ok (.ireturn, 1) := by decide +kernel
theorem dX9_truncateInput_0 : decode cX9_truncateInput 0 = .ok (.iload_n 1, 1) := by decide +kernel
theorem dX9_truncateInput_1 : decode cX9_truncateInput 1 = .ok (.ifCond .lt 17, 3) := by decide +kernel
theorem dX9_truncateInput_4 : decode cX9_truncateInput 4 = .ok (.iload_n 1, 1) := by decide +kernel
theorem dX9_truncateInput_5 : decode cX9_truncateInput 5 = .ok (.aload_n 0, 1) := by decide +kernel
theorem dX9_truncateInput_6 : decode cX9_truncateInput 6 = .ok (.getfield 22, 3) := by decide +kernel
theorem dX9_truncateInput_9 : decode cX9_truncateInput 9 = .ok (.getfield 48, 3) := by decide +kernel
theorem dX9_truncateInput_12 : decode cX9_truncateInput 12 = .ok (.getfield 70, 3) := by decide +kernel
theorem dX9_truncateInput_15 : decode cX9_truncateInput 15 = .ok (.if_icmp .le 13, 3) := by decide +kernel
theorem dX9_truncateInput_18 : decode cX9_truncateInput 18 = .ok (.new 84, 3) := by decide +kernel
theorem dX9_truncateInput_21 : decode cX9_truncateInput 21 = .ok (.dup, 1) := by decide +kernel
theorem dX9_truncateInput_22 : decode cX9_truncateInput 22 = .ok (.ldc 86, 2) := by decide +kernel
theorem dX9_truncateInput_24 : decode cX9_truncateInput 24 = .ok (.invokespecial 88, 3) := by decide +kernel
theorem dX9_truncateInput_27 : decode cX9_truncateInput 27 = .ok (.athrow, 1) := by decide +kernel
theorem dX9_truncateInput_28 : decode cX9_truncateInput 28 = .ok (.aload_n 0, 1) := by decide +kernel
theorem dX9_truncateInput_29 : decode cX9_truncateInput 29 = .ok (.getfield 22, 3) := by decide +kernel
theorem dX9_truncateInput_32 : decode cX9_truncateInput 32 = .ok (.getfield 48, 3) := by decide +kernel
theorem dX9_truncateInput_35 : decode cX9_truncateInput 35 = .ok (.iload_n 1, 1) := by decide +kernel
theorem dX9_truncateInput_36 : decode cX9_truncateInput 36 = .ok (.putfield 70, 3) := by decide +kernel
theorem dX9_truncateInput_39 : decode cX9_truncateInput 39 = .ok (.iload_n 1, 1) := by decide +kernel
theorem dX9_truncateInput_40 : decode cX9_truncateInput 40 = .ok (.ireturn, 1) := by decide +kernel
theorem dX9_load_0 : decode cX9_load 0 = .ok (.aload_n 0, 1) := by decide +kernel
theorem dX9_load_1 : decode cX9_load 1 = .ok (.getfield 22, 3) := by decide +kernel
theorem dX9_load_4 : decode cX9_load 4 = .ok (.invokevirtual 60, 3) := by decide +kernel
theorem dX9_load_7 : decode cX9_load 7 = .ok (.aload_n 0, 1) := by decide +kernel
theorem dX9_load_8 : decode cX9_load 8 = .ok (.getfield 22, 3) := by decide +kernel
theorem dX9_load_11 : decode cX9_load 11 = .ok (.getfield 89, 3) := by decide +kernel
theorem dX9_load_14 : decode cX9_load 14 = .ok (.ifCond .eq 13, 3) := by decide +kernel
theorem dX9_load_17 : decode cX9_load 17 = .ok (.new 84, 3) := by decide +kernel
theorem dX9_load_20 : decode cX9_load 20 = .ok (.dup, 1) := by decide +kernel
theorem dX9_load_21 : decode cX9_load 21 = .ok (.ldc 92, 2) := by decide +kernel
theorem dX9_load_23 : decode cX9_load 23 = .ok (.invokespecial 88, 3) := by decide +kernel
theorem dX9_load_26 : decode cX9_load 26 = .ok (.athrow, 1) := by decide +kernel
theorem dX9_load_27 : decode cX9_load 27 = .ok (.aload_n 0, 1) := by decide +kernel
theorem dX9_load_28 : decode cX9_load 28 = .ok (.getfield 29, 3) := by decide +kernel
theorem dX9_load_31 : decode cX9_load 31 = .ok (.aload_n 0, 1) := by decide +kernel
theorem dX9_load_32 : decode cX9_load 32 = .ok (.getfield 10, 3) := by decide +kernel
theorem dX9_load_35 : decode cX9_load 35 = .ok (.invokevirtual 94, 3) := by decide +kernel
theorem dX9_load_38 : decode cX9_load 38 = .ok (.aload_n 0, 1) := by decide +kernel
theorem dX9_load_39 : decode cX9_load 39 = .ok (.getfield 10, 3) := by decide +kernel
theorem dX9_load_42 : decode cX9_load 42 = .ok (.aload_n 0, 1) := by decide +kernel
theorem dX9_load_43 : decode cX9_load 43 = .ok (.getfield 22, 3) := by decide +kernel
theorem dX9_load_46 : decode cX9_load 46 = .ok (.getfield 63, 3) := by decide +kernel
theorem dX9_load_49 : decode cX9_load 49 = .ok (.invokevirtual 66, 3) := by decide +kernel
theorem dX9_load_52 : decode cX9_load 52 = .ok (.aload_n 0, 1) := by decide +kernel
theorem dX9_load_53 : decode cX9_load 53 = .ok (.getfield 10, 3) := by decide +kernel
theorem dX9_load_56 : decode cX9_load 56 = .ok (.getfield 97, 3) := by decide +kernel
theorem dX9_load_59 : decode cX9_load 59 = .ok (.ireturn, 1) := by decide +kernel
theorem dX9_errorCode_0 : decode cX9_errorCode 0 = .ok (.aload_n 0, 1) := by decide +kernel
theorem dX9_errorCode_1 : decode cX9_errorCode 1 = .ok (.getfield 22, 3) := by decide +kernel
theorem dX9_errorCode_4 : decode cX9_errorCode 4 = .ok (.getfield 89, 3) := by decide +kernel
theorem dX9_errorCode_7 : decode cX9_errorCode 7 = .ok (.ireturn, 1) := by decide +kernel
theorem dX9_clock_0 : decode cX9_clock 0 = .ok (.aload_n 0, 1) := by decide +kernel
theorem dX9_clock_1 : decode cX9_clock 1 = .ok (.getfield 10, 3) := by decide +kernel
theorem dX9_clock_4 : decode cX9_clock 4 = .ok (.getfield 103, 3) := by decide +kernel
theorem dX9_clock_7 : decode cX9_clock 7 = .ok (.ireturn, 1) := by decide +kernel
theorem dX9_stationCount_0 : decode cX9_stationCount 0 = .ok (.aload_n 0, 1) := by decide +kernel
theorem dX9_stationCount_1 : decode cX9_stationCount 1 = .ok (.getfield 10, 3) := by decide +kernel
theorem dX9_stationCount_4 : decode cX9_stationCount 4 = .ok (.getfield 97, 3) := by decide +kernel
theorem dX9_stationCount_7 : decode cX9_stationCount 7 = .ok (.ireturn, 1) := by decide +kernel
theorem dX9_trainCount_0 : decode cX9_trainCount 0 = .ok (.aload_n 0, 1) := by decide +kernel
theorem dX9_trainCount_1 : decode cX9_trainCount 1 = .ok (.getfield 10, 3) := by decide +kernel
theorem dX9_trainCount_4 : decode cX9_trainCount 4 = .ok (.getfield 109, 3) := by decide +kernel
theorem dX9_trainCount_7 : decode cX9_trainCount 7 = .ok (.ireturn, 1) := by decide +kernel
theorem dX9_parcelCount_0 : decode cX9_parcelCount 0 = .ok (.aload_n 0, 1) := by decide +kernel
theorem dX9_parcelCount_1 : decode cX9_parcelCount 1 = .ok (.getfield 10, 3) := by decide +kernel
theorem dX9_parcelCount_4 : decode cX9_parcelCount 4 = .ok (.getfield 112, 3) := by decide +kernel
theorem dX9_parcelCount_7 : decode cX9_parcelCount 7 = .ok (.ireturn, 1) := by decide +kernel
theorem dX9_isRequestStop_0 : decode cX9_isRequestStop 0 = .ok (.aload_n 0, 1) := by decide +kernel
theorem dX9_isRequestStop_1 : decode cX9_isRequestStop 1 = .ok (.iload_n 1, 1) := by decide +kernel
theorem dX9_isRequestStop_2 : decode cX9_isRequestStop 2 = .ok (.invokevirtual 115, 3) := by decide +kernel
theorem dX9_isRequestStop_5 : decode cX9_isRequestStop 5 = .ok (.aload_n 0, 1) := by decide +kernel
theorem dX9_isRequestStop_6 : decode cX9_isRequestStop 6 = .ok (.getfield 10, 3) := by decide +kernel
theorem dX9_isRequestStop_9 : decode cX9_isRequestStop 9 = .ok (.getfield 118, 3) := by decide +kernel
theorem dX9_isRequestStop_12 : decode cX9_isRequestStop 12 = .ok (.iload_n 1, 1) := by decide +kernel
theorem dX9_isRequestStop_13 : decode cX9_isRequestStop 13 = .ok (.aaload, 1) := by decide +kernel
theorem dX9_isRequestStop_14 : decode cX9_isRequestStop 14 = .ok (.getfield 122, 3) := by decide +kernel
theorem dX9_isRequestStop_17 : decode cX9_isRequestStop 17 = .ok (.ireturn, 1) := by decide +kernel
theorem dX9_inspectionTime_0 : decode cX9_inspectionTime 0 = .ok (.aload_n 0, 1) := by decide +kernel
theorem dX9_inspectionTime_1 : decode cX9_inspectionTime 1 = .ok (.iload_n 1, 1) := by decide +kernel
theorem dX9_inspectionTime_2 : decode cX9_inspectionTime 2 = .ok (.invokevirtual 115, 3) := by decide +kernel
theorem dX9_inspectionTime_5 : decode cX9_inspectionTime 5 = .ok (.aload_n 0, 1) := by decide +kernel
theorem dX9_inspectionTime_6 : decode cX9_inspectionTime 6 = .ok (.getfield 10, 3) := by decide +kernel
theorem dX9_inspectionTime_9 : decode cX9_inspectionTime 9 = .ok (.getfield 118, 3) := by decide +kernel
theorem dX9_inspectionTime_12 : decode cX9_inspectionTime 12 = .ok (.iload_n 1, 1) := by decide +kernel
theorem dX9_inspectionTime_13 : decode cX9_inspectionTime 13 = .ok (.aaload, 1) := by decide +kernel
theorem dX9_inspectionTime_14 : decode cX9_inspectionTime 14 = .ok (.getfield 128, 3) := by decide +kernel
theorem dX9_inspectionTime_17 : decode cX9_inspectionTime 17 = .ok (.ireturn, 1) := by decide +kernel
theorem dX9_travelTime_0 : decode cX9_travelTime 0 = .ok (.aload_n 0, 1) := by decide +kernel
theorem dX9_travelTime_1 : decode cX9_travelTime 1 = .ok (.iload_n 1, 1) := by decide +kernel
theorem dX9_travelTime_2 : decode cX9_travelTime 2 = .ok (.invokevirtual 115, 3) := by decide +kernel
theorem dX9_travelTime_5 : decode cX9_travelTime 5 = .ok (.aload_n 0, 1) := by decide +kernel
theorem dX9_travelTime_6 : decode cX9_travelTime 6 = .ok (.iload_n 2, 1) := by decide +kernel
theorem dX9_travelTime_7 : decode cX9_travelTime 7 = .ok (.invokevirtual 115, 3) := by decide +kernel
theorem dX9_travelTime_10 : decode cX9_travelTime 10 = .ok (.aload_n 0, 1) := by decide +kernel
theorem dX9_travelTime_11 : decode cX9_travelTime 11 = .ok (.getfield 10, 3) := by decide +kernel
theorem dX9_travelTime_14 : decode cX9_travelTime 14 = .ok (.iload_n 1, 1) := by decide +kernel
theorem dX9_travelTime_15 : decode cX9_travelTime 15 = .ok (.iload_n 2, 1) := by decide +kernel
theorem dX9_travelTime_16 : decode cX9_travelTime 16 = .ok (.invokevirtual 144, 3) := by decide +kernel
theorem dX9_travelTime_19 : decode cX9_travelTime 19 = .ok (.istore_n 3, 1) := by decide +kernel
theorem dX9_travelTime_20 : decode cX9_travelTime 20 = .ok (.iload_n 3, 1) := by decide +kernel
theorem dX9_travelTime_21 : decode cX9_travelTime 21 = .ok (.iconst (-1), 1) := by decide +kernel
theorem dX9_travelTime_22 : decode cX9_travelTime 22 = .ok (.if_icmp .ne 7, 3) := by decide +kernel
theorem dX9_travelTime_25 : decode cX9_travelTime 25 = .ok (.iconst (-1), 1) := by decide +kernel
theorem dX9_travelTime_26 : decode cX9_travelTime 26 = .ok (.goto 15, 3) := by decide +kernel
theorem dX9_travelTime_29 : decode cX9_travelTime 29 = .ok (.aload_n 0, 1) := by decide +kernel
theorem dX9_travelTime_30 : decode cX9_travelTime 30 = .ok (.getfield 10, 3) := by decide +kernel
theorem dX9_travelTime_33 : decode cX9_travelTime 33 = .ok (.getfield 147, 3) := by decide +kernel
theorem dX9_travelTime_36 : decode cX9_travelTime 36 = .ok (.iload_n 3, 1) := by decide +kernel
theorem dX9_travelTime_37 : decode cX9_travelTime 37 = .ok (.aaload, 1) := by decide +kernel
theorem dX9_travelTime_38 : decode cX9_travelTime 38 = .ok (.getfield 151, 3) := by decide +kernel
theorem dX9_travelTime_41 : decode cX9_travelTime 41 = .ok (.ireturn, 1) := by decide +kernel
theorem dX9_isTrackOpen_0 : decode cX9_isTrackOpen 0 = .ok (.aload_n 0, 1) := by decide +kernel
theorem dX9_isTrackOpen_1 : decode cX9_isTrackOpen 1 = .ok (.iload_n 1, 1) := by decide +kernel
theorem dX9_isTrackOpen_2 : decode cX9_isTrackOpen 2 = .ok (.invokevirtual 115, 3) := by decide +kernel
theorem dX9_isTrackOpen_5 : decode cX9_isTrackOpen 5 = .ok (.aload_n 0, 1) := by decide +kernel
theorem dX9_isTrackOpen_6 : decode cX9_isTrackOpen 6 = .ok (.iload_n 2, 1) := by decide +kernel
theorem dX9_isTrackOpen_7 : decode cX9_isTrackOpen 7 = .ok (.invokevirtual 115, 3) := by decide +kernel
theorem dX9_isTrackOpen_10 : decode cX9_isTrackOpen 10 = .ok (.aload_n 0, 1) := by decide +kernel
theorem dX9_isTrackOpen_11 : decode cX9_isTrackOpen 11 = .ok (.getfield 10, 3) := by decide +kernel
theorem dX9_isTrackOpen_14 : decode cX9_isTrackOpen 14 = .ok (.iload_n 1, 1) := by decide +kernel
theorem dX9_isTrackOpen_15 : decode cX9_isTrackOpen 15 = .ok (.iload_n 2, 1) := by decide +kernel
theorem dX9_isTrackOpen_16 : decode cX9_isTrackOpen 16 = .ok (.invokevirtual 144, 3) := by decide +kernel
theorem dX9_isTrackOpen_19 : decode cX9_isTrackOpen 19 = .ok (.istore_n 3, 1) := by decide +kernel
theorem dX9_isTrackOpen_20 : decode cX9_isTrackOpen 20 = .ok (.iload_n 3, 1) := by decide +kernel
theorem dX9_isTrackOpen_21 : decode cX9_isTrackOpen 21 = .ok (.iconst (-1), 1) := by decide +kernel
theorem dX9_isTrackOpen_22 : decode cX9_isTrackOpen 22 = .ok (.if_icmp .eq 22, 3) := by decide +kernel
theorem dX9_isTrackOpen_25 : decode cX9_isTrackOpen 25 = .ok (.aload_n 0, 1) := by decide +kernel
theorem dX9_isTrackOpen_26 : decode cX9_isTrackOpen 26 = .ok (.getfield 10, 3) := by decide +kernel
theorem dX9_isTrackOpen_29 : decode cX9_isTrackOpen 29 = .ok (.getfield 147, 3) := by decide +kernel
theorem dX9_isTrackOpen_32 : decode cX9_isTrackOpen 32 = .ok (.iload_n 3, 1) := by decide +kernel
theorem dX9_isTrackOpen_33 : decode cX9_isTrackOpen 33 = .ok (.aaload, 1) := by decide +kernel
theorem dX9_isTrackOpen_34 : decode cX9_isTrackOpen 34 = .ok (.getfield 156, 3) := by decide +kernel
theorem dX9_isTrackOpen_37 : decode cX9_isTrackOpen 37 = .ok (.ifCond .eq 7, 3) := by decide +kernel
theorem dX9_isTrackOpen_40 : decode cX9_isTrackOpen 40 = .ok (.iconst 1, 1) := by decide +kernel
theorem dX9_isTrackOpen_41 : decode cX9_isTrackOpen 41 = .ok (.goto 4, 3) := by decide +kernel
theorem dX9_isTrackOpen_44 : decode cX9_isTrackOpen 44 = .ok (.iconst 0, 1) := by decide +kernel
theorem dX9_isTrackOpen_45 : decode cX9_isTrackOpen 45 = .ok (.ireturn, 1) := by decide +kernel
theorem dX9_distance_0 : decode cX9_distance 0 = .ok (.aload_n 0, 1) := by decide +kernel
theorem dX9_distance_1 : decode cX9_distance 1 = .ok (.iload_n 1, 1) := by decide +kernel
theorem dX9_distance_2 : decode cX9_distance 2 = .ok (.invokevirtual 115, 3) := by decide +kernel
theorem dX9_distance_5 : decode cX9_distance 5 = .ok (.aload_n 0, 1) := by decide +kernel
theorem dX9_distance_6 : decode cX9_distance 6 = .ok (.iload_n 2, 1) := by decide +kernel
theorem dX9_distance_7 : decode cX9_distance 7 = .ok (.invokevirtual 115, 3) := by decide +kernel
theorem dX9_distance_10 : decode cX9_distance 10 = .ok (.aload_n 0, 1) := by decide +kernel
theorem dX9_distance_11 : decode cX9_distance 11 = .ok (.getfield 10, 3) := by decide +kernel
theorem dX9_distance_14 : decode cX9_distance 14 = .ok (.iload_n 1, 1) := by decide +kernel
theorem dX9_distance_15 : decode cX9_distance 15 = .ok (.iload_n 2, 1) := by decide +kernel
theorem dX9_distance_16 : decode cX9_distance 16 = .ok (.invokevirtual 159, 3) := by decide +kernel
theorem dX9_distance_19 : decode cX9_distance 19 = .ok (.istore_n 3, 1) := by decide +kernel
theorem dX9_distance_20 : decode cX9_distance 20 = .ok (.iload_n 3, 1) := by decide +kernel
theorem dX9_distance_21 : decode cX9_distance 21 = .ok (.sipush 1000, 3) := by decide +kernel
theorem dX9_distance_24 : decode cX9_distance 24 = .ok (.if_icmp .ne 7, 3) := by decide +kernel
theorem dX9_distance_27 : decode cX9_distance 27 = .ok (.iconst (-1), 1) := by decide +kernel
theorem dX9_distance_28 : decode cX9_distance 28 = .ok (.goto 4, 3) := by decide +kernel
theorem dX9_distance_31 : decode cX9_distance 31 = .ok (.iload_n 3, 1) := by decide +kernel
theorem dX9_distance_32 : decode cX9_distance 32 = .ok (.ireturn, 1) := by decide +kernel
theorem dX9_capacity_0 : decode cX9_capacity 0 = .ok (.aload_n 0, 1) := by decide +kernel
theorem dX9_capacity_1 : decode cX9_capacity 1 = .ok (.iload_n 1, 1) := by decide +kernel
theorem dX9_capacity_2 : decode cX9_capacity 2 = .ok (.invokevirtual 162, 3) := by decide +kernel
theorem dX9_capacity_5 : decode cX9_capacity 5 = .ok (.aload_n 0, 1) := by decide +kernel
theorem dX9_capacity_6 : decode cX9_capacity 6 = .ok (.getfield 10, 3) := by decide +kernel
theorem dX9_capacity_9 : decode cX9_capacity 9 = .ok (.getfield 165, 3) := by decide +kernel
theorem dX9_capacity_12 : decode cX9_capacity 12 = .ok (.iload_n 1, 1) := by decide +kernel
theorem dX9_capacity_13 : decode cX9_capacity 13 = .ok (.aaload, 1) := by decide +kernel
theorem dX9_capacity_14 : decode cX9_capacity 14 = .ok (.getfield 169, 3) := by decide +kernel
theorem dX9_capacity_17 : decode cX9_capacity 17 = .ok (.ireturn, 1) := by decide +kernel
theorem dX9_routeLength_0 : decode cX9_routeLength 0 = .ok (.aload_n 0, 1) := by decide +kernel
theorem dX9_routeLength_1 : decode cX9_routeLength 1 = .ok (.iload_n 1, 1) := by decide +kernel
theorem dX9_routeLength_2 : decode cX9_routeLength 2 = .ok (.invokevirtual 162, 3) := by decide +kernel
theorem dX9_routeLength_5 : decode cX9_routeLength 5 = .ok (.aload_n 0, 1) := by decide +kernel
theorem dX9_routeLength_6 : decode cX9_routeLength 6 = .ok (.getfield 10, 3) := by decide +kernel
theorem dX9_routeLength_9 : decode cX9_routeLength 9 = .ok (.getfield 165, 3) := by decide +kernel
theorem dX9_routeLength_12 : decode cX9_routeLength 12 = .ok (.iload_n 1, 1) := by decide +kernel
theorem dX9_routeLength_13 : decode cX9_routeLength 13 = .ok (.aaload, 1) := by decide +kernel
theorem dX9_routeLength_14 : decode cX9_routeLength 14 = .ok (.getfield 174, 3) := by decide +kernel
theorem dX9_routeLength_17 : decode cX9_routeLength 17 = .ok (.ireturn, 1) := by decide +kernel
theorem dX9_routeStation_0 : decode cX9_routeStation 0 = .ok (.aload_n 0, 1) := by decide +kernel
theorem dX9_routeStation_1 : decode cX9_routeStation 1 = .ok (.iload_n 1, 1) := by decide +kernel
theorem dX9_routeStation_2 : decode cX9_routeStation 2 = .ok (.invokevirtual 162, 3) := by decide +kernel
theorem dX9_routeStation_5 : decode cX9_routeStation 5 = .ok (.aload_n 0, 1) := by decide +kernel
theorem dX9_routeStation_6 : decode cX9_routeStation 6 = .ok (.getfield 10, 3) := by decide +kernel
theorem dX9_routeStation_9 : decode cX9_routeStation 9 = .ok (.getfield 165, 3) := by decide +kernel
theorem dX9_routeStation_12 : decode cX9_routeStation 12 = .ok (.iload_n 1, 1) := by decide +kernel
theorem dX9_routeStation_13 : decode cX9_routeStation 13 = .ok (.aaload, 1) := by decide +kernel
theorem dX9_routeStation_14 : decode cX9_routeStation 14 = .ok (.iload_n 2, 1) := by decide +kernel
theorem dX9_routeStation_15 : decode cX9_routeStation 15 = .ok (.invokevirtual 177, 3) := by decide +kernel
theorem dX9_routeStation_18 : decode cX9_routeStation 18 = .ok (.istore_n 3, 1) := by decide +kernel
theorem dX9_routeStation_19 : decode cX9_routeStation 19 = .ok (.iload_n 3, 1) := by decide +kernel
theorem dX9_routeStation_20 : decode cX9_routeStation 20 = .ok (.iconst (-1), 1) := by decide +kernel
theorem dX9_routeStation_21 : decode cX9_routeStation 21 = .ok (.if_icmp .ne 13, 3) := by decide +kernel
theorem dX9_routeStation_24 : decode cX9_routeStation 24 = .ok (.new 139, 3) := by decide +kernel
theorem dX9_routeStation_27 : decode cX9_routeStation 27 = .ok (.dup, 1) := by decide +kernel
theorem dX9_routeStation_28 : decode cX9_routeStation 28 = .ok (.ldc 141, 2) := by decide +kernel
theorem dX9_routeStation_30 : decode cX9_routeStation 30 = .ok (.invokespecial 143, 3) := by decide +kernel
theorem dX9_routeStation_33 : decode cX9_routeStation 33 = .ok (.athrow, 1) := by decide +kernel
theorem dX9_routeStation_34 : decode cX9_routeStation 34 = .ok (.iload_n 3, 1) := by decide +kernel
theorem dX9_routeStation_35 : decode cX9_routeStation 35 = .ok (.ireturn, 1) := by decide +kernel
theorem dX9_carriedCount_0 : decode cX9_carriedCount 0 = .ok (.aload_n 0, 1) := by decide +kernel
theorem dX9_carriedCount_1 : decode cX9_carriedCount 1 = .ok (.iload_n 1, 1) := by decide +kernel
theorem dX9_carriedCount_2 : decode cX9_carriedCount 2 = .ok (.invokevirtual 162, 3) := by decide +kernel
theorem dX9_carriedCount_5 : decode cX9_carriedCount 5 = .ok (.aload_n 0, 1) := by decide +kernel
theorem dX9_carriedCount_6 : decode cX9_carriedCount 6 = .ok (.getfield 10, 3) := by decide +kernel
theorem dX9_carriedCount_9 : decode cX9_carriedCount 9 = .ok (.iload_n 1, 1) := by decide +kernel
theorem dX9_carriedCount_10 : decode cX9_carriedCount 10 = .ok (.invokevirtual 180, 3) := by decide +kernel
theorem dX9_carriedCount_13 : decode cX9_carriedCount 13 = .ok (.ireturn, 1) := by decide +kernel
theorem dX9_trainStation_0 : decode cX9_trainStation 0 = .ok (.aload_n 0, 1) := by decide +kernel
theorem dX9_trainStation_1 : decode cX9_trainStation 1 = .ok (.iload_n 1, 1) := by decide +kernel
theorem dX9_trainStation_2 : decode cX9_trainStation 2 = .ok (.invokevirtual 162, 3) := by decide +kernel
theorem dX9_trainStation_5 : decode cX9_trainStation 5 = .ok (.aload_n 0, 1) := by decide +kernel
theorem dX9_trainStation_6 : decode cX9_trainStation 6 = .ok (.getfield 10, 3) := by decide +kernel
theorem dX9_trainStation_9 : decode cX9_trainStation 9 = .ok (.getfield 165, 3) := by decide +kernel
theorem dX9_trainStation_12 : decode cX9_trainStation 12 = .ok (.iload_n 1, 1) := by decide +kernel
theorem dX9_trainStation_13 : decode cX9_trainStation 13 = .ok (.aaload, 1) := by decide +kernel
theorem dX9_trainStation_14 : decode cX9_trainStation 14 = .ok (.invokevirtual 186, 3) := by decide +kernel
theorem dX9_trainStation_17 : decode cX9_trainStation 17 = .ok (.ireturn, 1) := by decide +kernel
theorem dX9_nextStation_0 : decode cX9_nextStation 0 = .ok (.aload_n 0, 1) := by decide +kernel
theorem dX9_nextStation_1 : decode cX9_nextStation 1 = .ok (.iload_n 1, 1) := by decide +kernel
theorem dX9_nextStation_2 : decode cX9_nextStation 2 = .ok (.invokevirtual 162, 3) := by decide +kernel
theorem dX9_nextStation_5 : decode cX9_nextStation 5 = .ok (.aload_n 0, 1) := by decide +kernel
theorem dX9_nextStation_6 : decode cX9_nextStation 6 = .ok (.getfield 10, 3) := by decide +kernel
theorem dX9_nextStation_9 : decode cX9_nextStation 9 = .ok (.getfield 165, 3) := by decide +kernel
theorem dX9_nextStation_12 : decode cX9_nextStation 12 = .ok (.iload_n 1, 1) := by decide +kernel
theorem dX9_nextStation_13 : decode cX9_nextStation 13 = .ok (.aaload, 1) := by decide +kernel
theorem dX9_nextStation_14 : decode cX9_nextStation 14 = .ok (.iconst 1, 1) := by decide +kernel
theorem dX9_nextStation_15 : decode cX9_nextStation 15 = .ok (.invokevirtual 190, 3) := by decide +kernel
theorem dX9_nextStation_18 : decode cX9_nextStation 18 = .ok (.ireturn, 1) := by decide +kernel
theorem dX9_isForward_0 : decode cX9_isForward 0 = .ok (.aload_n 0, 1) := by decide +kernel
theorem dX9_isForward_1 : decode cX9_isForward 1 = .ok (.iload_n 1, 1) := by decide +kernel
theorem dX9_isForward_2 : decode cX9_isForward 2 = .ok (.invokevirtual 162, 3) := by decide +kernel
theorem dX9_isForward_5 : decode cX9_isForward 5 = .ok (.aload_n 0, 1) := by decide +kernel
theorem dX9_isForward_6 : decode cX9_isForward 6 = .ok (.getfield 10, 3) := by decide +kernel
theorem dX9_isForward_9 : decode cX9_isForward 9 = .ok (.getfield 165, 3) := by decide +kernel
theorem dX9_isForward_12 : decode cX9_isForward 12 = .ok (.iload_n 1, 1) := by decide +kernel
theorem dX9_isForward_13 : decode cX9_isForward 13 = .ok (.aaload, 1) := by decide +kernel
theorem dX9_isForward_14 : decode cX9_isForward 14 = .ok (.getfield 193, 3) := by decide +kernel
theorem dX9_isForward_17 : decode cX9_isForward 17 = .ok (.ireturn, 1) := by decide +kernel
theorem dX9_minutesToNext_0 : decode cX9_minutesToNext 0 = .ok (.aload_n 0, 1) := by decide +kernel
theorem dX9_minutesToNext_1 : decode cX9_minutesToNext 1 = .ok (.iload_n 1, 1) := by decide +kernel
theorem dX9_minutesToNext_2 : decode cX9_minutesToNext 2 = .ok (.invokevirtual 162, 3) := by decide +kernel
theorem dX9_minutesToNext_5 : decode cX9_minutesToNext 5 = .ok (.aload_n 0, 1) := by decide +kernel
theorem dX9_minutesToNext_6 : decode cX9_minutesToNext 6 = .ok (.getfield 10, 3) := by decide +kernel
theorem dX9_minutesToNext_9 : decode cX9_minutesToNext 9 = .ok (.getfield 165, 3) := by decide +kernel
theorem dX9_minutesToNext_12 : decode cX9_minutesToNext 12 = .ok (.iload_n 1, 1) := by decide +kernel
theorem dX9_minutesToNext_13 : decode cX9_minutesToNext 13 = .ok (.aaload, 1) := by decide +kernel
theorem dX9_minutesToNext_14 : decode cX9_minutesToNext 14 = .ok (.getfield 196, 3) := by decide +kernel
theorem dX9_minutesToNext_17 : decode cX9_minutesToNext 17 = .ok (.istore_n 2, 1) := by decide +kernel
theorem dX9_minutesToNext_18 : decode cX9_minutesToNext 18 = .ok (.iload_n 2, 1) := by decide +kernel
theorem dX9_minutesToNext_19 : decode cX9_minutesToNext 19 = .ok (.ifCond .ne 7, 3) := by decide +kernel
theorem dX9_minutesToNext_22 : decode cX9_minutesToNext 22 = .ok (.iconst (-1), 1) := by decide +kernel
theorem dX9_minutesToNext_23 : decode cX9_minutesToNext 23 = .ok (.goto 4, 3) := by decide +kernel
theorem dX9_minutesToNext_26 : decode cX9_minutesToNext 26 = .ok (.iload_n 2, 1) := by decide +kernel
theorem dX9_minutesToNext_27 : decode cX9_minutesToNext 27 = .ok (.ireturn, 1) := by decide +kernel
theorem dX9_delay_0 : decode cX9_delay 0 = .ok (.aload_n 0, 1) := by decide +kernel
theorem dX9_delay_1 : decode cX9_delay 1 = .ok (.iload_n 1, 1) := by decide +kernel
theorem dX9_delay_2 : decode cX9_delay 2 = .ok (.invokevirtual 162, 3) := by decide +kernel
theorem dX9_delay_5 : decode cX9_delay 5 = .ok (.aload_n 0, 1) := by decide +kernel
theorem dX9_delay_6 : decode cX9_delay 6 = .ok (.getfield 10, 3) := by decide +kernel
theorem dX9_delay_9 : decode cX9_delay 9 = .ok (.getfield 165, 3) := by decide +kernel
theorem dX9_delay_12 : decode cX9_delay 12 = .ok (.iload_n 1, 1) := by decide +kernel
theorem dX9_delay_13 : decode cX9_delay 13 = .ok (.aaload, 1) := by decide +kernel
theorem dX9_delay_14 : decode cX9_delay 14 = .ok (.getfield 199, 3) := by decide +kernel
theorem dX9_delay_17 : decode cX9_delay 17 = .ok (.ireturn, 1) := by decide +kernel
theorem dX9_stopsMade_0 : decode cX9_stopsMade 0 = .ok (.aload_n 0, 1) := by decide +kernel
theorem dX9_stopsMade_1 : decode cX9_stopsMade 1 = .ok (.iload_n 1, 1) := by decide +kernel
theorem dX9_stopsMade_2 : decode cX9_stopsMade 2 = .ok (.invokevirtual 162, 3) := by decide +kernel
theorem dX9_stopsMade_5 : decode cX9_stopsMade 5 = .ok (.aload_n 0, 1) := by decide +kernel
theorem dX9_stopsMade_6 : decode cX9_stopsMade 6 = .ok (.getfield 10, 3) := by decide +kernel
theorem dX9_stopsMade_9 : decode cX9_stopsMade 9 = .ok (.getfield 165, 3) := by decide +kernel
theorem dX9_stopsMade_12 : decode cX9_stopsMade 12 = .ok (.iload_n 1, 1) := by decide +kernel
theorem dX9_stopsMade_13 : decode cX9_stopsMade 13 = .ok (.aaload, 1) := by decide +kernel
theorem dX9_stopsMade_14 : decode cX9_stopsMade 14 = .ok (.getfield 202, 3) := by decide +kernel
theorem dX9_stopsMade_17 : decode cX9_stopsMade 17 = .ok (.ireturn, 1) := by decide +kernel
theorem dX9_stopsPassed_0 : decode cX9_stopsPassed 0 = .ok (.aload_n 0, 1) := by decide +kernel
theorem dX9_stopsPassed_1 : decode cX9_stopsPassed 1 = .ok (.iload_n 1, 1) := by decide +kernel
theorem dX9_stopsPassed_2 : decode cX9_stopsPassed 2 = .ok (.invokevirtual 162, 3) := by decide +kernel
theorem dX9_stopsPassed_5 : decode cX9_stopsPassed 5 = .ok (.aload_n 0, 1) := by decide +kernel
theorem dX9_stopsPassed_6 : decode cX9_stopsPassed 6 = .ok (.getfield 10, 3) := by decide +kernel
theorem dX9_stopsPassed_9 : decode cX9_stopsPassed 9 = .ok (.getfield 165, 3) := by decide +kernel
theorem dX9_stopsPassed_12 : decode cX9_stopsPassed 12 = .ok (.iload_n 1, 1) := by decide +kernel
theorem dX9_stopsPassed_13 : decode cX9_stopsPassed 13 = .ok (.aaload, 1) := by decide +kernel
theorem dX9_stopsPassed_14 : decode cX9_stopsPassed 14 = .ok (.getfield 205, 3) := by decide +kernel
theorem dX9_stopsPassed_17 : decode cX9_stopsPassed 17 = .ok (.ireturn, 1) := by decide +kernel
theorem dX9_origin_0 : decode cX9_origin 0 = .ok (.aload_n 0, 1) := by decide +kernel
theorem dX9_origin_1 : decode cX9_origin 1 = .ok (.iload_n 1, 1) := by decide +kernel
theorem dX9_origin_2 : decode cX9_origin 2 = .ok (.invokevirtual 208, 3) := by decide +kernel
theorem dX9_origin_5 : decode cX9_origin 5 = .ok (.aload_n 0, 1) := by decide +kernel
theorem dX9_origin_6 : decode cX9_origin 6 = .ok (.getfield 10, 3) := by decide +kernel
theorem dX9_origin_9 : decode cX9_origin 9 = .ok (.getfield 211, 3) := by decide +kernel
theorem dX9_origin_12 : decode cX9_origin 12 = .ok (.iload_n 1, 1) := by decide +kernel
theorem dX9_origin_13 : decode cX9_origin 13 = .ok (.aaload, 1) := by decide +kernel
theorem dX9_origin_14 : decode cX9_origin 14 = .ok (.getfield 215, 3) := by decide +kernel
theorem dX9_origin_17 : decode cX9_origin 17 = .ok (.ireturn, 1) := by decide +kernel
theorem dX9_destination_0 : decode cX9_destination 0 = .ok (.aload_n 0, 1) := by decide +kernel
theorem dX9_destination_1 : decode cX9_destination 1 = .ok (.iload_n 1, 1) := by decide +kernel
theorem dX9_destination_2 : decode cX9_destination 2 = .ok (.invokevirtual 208, 3) := by decide +kernel
theorem dX9_destination_5 : decode cX9_destination 5 = .ok (.aload_n 0, 1) := by decide +kernel
theorem dX9_destination_6 : decode cX9_destination 6 = .ok (.getfield 10, 3) := by decide +kernel
theorem dX9_destination_9 : decode cX9_destination 9 = .ok (.getfield 211, 3) := by decide +kernel
theorem dX9_destination_12 : decode cX9_destination 12 = .ok (.iload_n 1, 1) := by decide +kernel
theorem dX9_destination_13 : decode cX9_destination 13 = .ok (.aaload, 1) := by decide +kernel
theorem dX9_destination_14 : decode cX9_destination 14 = .ok (.getfield 220, 3) := by decide +kernel
theorem dX9_destination_17 : decode cX9_destination 17 = .ok (.ireturn, 1) := by decide +kernel
theorem dX9_priority_0 : decode cX9_priority 0 = .ok (.aload_n 0, 1) := by decide +kernel
theorem dX9_priority_1 : decode cX9_priority 1 = .ok (.iload_n 1, 1) := by decide +kernel
theorem dX9_priority_2 : decode cX9_priority 2 = .ok (.invokevirtual 208, 3) := by decide +kernel
theorem dX9_priority_5 : decode cX9_priority 5 = .ok (.aload_n 0, 1) := by decide +kernel
theorem dX9_priority_6 : decode cX9_priority 6 = .ok (.getfield 10, 3) := by decide +kernel
theorem dX9_priority_9 : decode cX9_priority 9 = .ok (.getfield 211, 3) := by decide +kernel
theorem dX9_priority_12 : decode cX9_priority 12 = .ok (.iload_n 1, 1) := by decide +kernel
theorem dX9_priority_13 : decode cX9_priority 13 = .ok (.aaload, 1) := by decide +kernel
theorem dX9_priority_14 : decode cX9_priority 14 = .ok (.getfield 223, 3) := by decide +kernel
theorem dX9_priority_17 : decode cX9_priority 17 = .ok (.ireturn, 1) := by decide +kernel
theorem dX9_parcelStation_0 : decode cX9_parcelStation 0 = .ok (.aload_n 0, 1) := by decide +kernel
theorem dX9_parcelStation_1 : decode cX9_parcelStation 1 = .ok (.iload_n 1, 1) := by decide +kernel
theorem dX9_parcelStation_2 : decode cX9_parcelStation 2 = .ok (.invokevirtual 208, 3) := by decide +kernel
theorem dX9_parcelStation_5 : decode cX9_parcelStation 5 = .ok (.aload_n 0, 1) := by decide +kernel
theorem dX9_parcelStation_6 : decode cX9_parcelStation 6 = .ok (.getfield 10, 3) := by decide +kernel
theorem dX9_parcelStation_9 : decode cX9_parcelStation 9 = .ok (.getfield 211, 3) := by decide +kernel
theorem dX9_parcelStation_12 : decode cX9_parcelStation 12 = .ok (.iload_n 1, 1) := by decide +kernel
theorem dX9_parcelStation_13 : decode cX9_parcelStation 13 = .ok (.aaload, 1) := by decide +kernel
theorem dX9_parcelStation_14 : decode cX9_parcelStation 14 = .ok (.getfield 226, 3) := by decide +kernel
theorem dX9_parcelStation_17 : decode cX9_parcelStation 17 = .ok (.ireturn, 1) := by decide +kernel
theorem dX9_parcelTrain_0 : decode cX9_parcelTrain 0 = .ok (.aload_n 0, 1) := by decide +kernel
theorem dX9_parcelTrain_1 : decode cX9_parcelTrain 1 = .ok (.iload_n 1, 1) := by decide +kernel
theorem dX9_parcelTrain_2 : decode cX9_parcelTrain 2 = .ok (.invokevirtual 208, 3) := by decide +kernel
theorem dX9_parcelTrain_5 : decode cX9_parcelTrain 5 = .ok (.aload_n 0, 1) := by decide +kernel
theorem dX9_parcelTrain_6 : decode cX9_parcelTrain 6 = .ok (.getfield 10, 3) := by decide +kernel
theorem dX9_parcelTrain_9 : decode cX9_parcelTrain 9 = .ok (.getfield 211, 3) := by decide +kernel
theorem dX9_parcelTrain_12 : decode cX9_parcelTrain 12 = .ok (.iload_n 1, 1) := by decide +kernel
theorem dX9_parcelTrain_13 : decode cX9_parcelTrain 13 = .ok (.aaload, 1) := by decide +kernel
theorem dX9_parcelTrain_14 : decode cX9_parcelTrain 14 = .ok (.getfield 229, 3) := by decide +kernel
theorem dX9_parcelTrain_17 : decode cX9_parcelTrain 17 = .ok (.ireturn, 1) := by decide +kernel
theorem dX9_dropStation_0 : decode cX9_dropStation 0 = .ok (.aload_n 0, 1) := by decide +kernel
theorem dX9_dropStation_1 : decode cX9_dropStation 1 = .ok (.iload_n 1, 1) := by decide +kernel
theorem dX9_dropStation_2 : decode cX9_dropStation 2 = .ok (.invokevirtual 208, 3) := by decide +kernel
theorem dX9_dropStation_5 : decode cX9_dropStation 5 = .ok (.aload_n 0, 1) := by decide +kernel
theorem dX9_dropStation_6 : decode cX9_dropStation 6 = .ok (.getfield 10, 3) := by decide +kernel
theorem dX9_dropStation_9 : decode cX9_dropStation 9 = .ok (.getfield 211, 3) := by decide +kernel
theorem dX9_dropStation_12 : decode cX9_dropStation 12 = .ok (.iload_n 1, 1) := by decide +kernel
theorem dX9_dropStation_13 : decode cX9_dropStation 13 = .ok (.aaload, 1) := by decide +kernel
theorem dX9_dropStation_14 : decode cX9_dropStation 14 = .ok (.getfield 232, 3) := by decide +kernel
theorem dX9_dropStation_17 : decode cX9_dropStation 17 = .ok (.ireturn, 1) := by decide +kernel
theorem dX9_transfers_0 : decode cX9_transfers 0 = .ok (.aload_n 0, 1) := by decide +kernel
theorem dX9_transfers_1 : decode cX9_transfers 1 = .ok (.iload_n 1, 1) := by decide +kernel
theorem dX9_transfers_2 : decode cX9_transfers 2 = .ok (.invokevirtual 208, 3) := by decide +kernel
theorem dX9_transfers_5 : decode cX9_transfers 5 = .ok (.aload_n 0, 1) := by decide +kernel
theorem dX9_transfers_6 : decode cX9_transfers 6 = .ok (.getfield 10, 3) := by decide +kernel
theorem dX9_transfers_9 : decode cX9_transfers 9 = .ok (.getfield 211, 3) := by decide +kernel
theorem dX9_transfers_12 : decode cX9_transfers 12 = .ok (.iload_n 1, 1) := by decide +kernel
theorem dX9_transfers_13 : decode cX9_transfers 13 = .ok (.aaload, 1) := by decide +kernel
theorem dX9_transfers_14 : decode cX9_transfers 14 = .ok (.getfield 235, 3) := by decide +kernel
theorem dX9_transfers_17 : decode cX9_transfers 17 = .ok (.ireturn, 1) := by decide +kernel
theorem dX9_isHeld_0 : decode cX9_isHeld 0 = .ok (.aload_n 0, 1) := by decide +kernel
theorem dX9_isHeld_1 : decode cX9_isHeld 1 = .ok (.iload_n 1, 1) := by decide +kernel
theorem dX9_isHeld_2 : decode cX9_isHeld 2 = .ok (.invokevirtual 208, 3) := by decide +kernel
theorem dX9_isHeld_5 : decode cX9_isHeld 5 = .ok (.aload_n 0, 1) := by decide +kernel
theorem dX9_isHeld_6 : decode cX9_isHeld 6 = .ok (.getfield 10, 3) := by decide +kernel
theorem dX9_isHeld_9 : decode cX9_isHeld 9 = .ok (.getfield 211, 3) := by decide +kernel
theorem dX9_isHeld_12 : decode cX9_isHeld 12 = .ok (.iload_n 1, 1) := by decide +kernel
theorem dX9_isHeld_13 : decode cX9_isHeld 13 = .ok (.aaload, 1) := by decide +kernel
theorem dX9_isHeld_14 : decode cX9_isHeld 14 = .ok (.aload_n 0, 1) := by decide +kernel
theorem dX9_isHeld_15 : decode cX9_isHeld 15 = .ok (.getfield 10, 3) := by decide +kernel
theorem dX9_isHeld_18 : decode cX9_isHeld 18 = .ok (.getfield 103, 3) := by decide +kernel
theorem dX9_isHeld_21 : decode cX9_isHeld 21 = .ok (.invokevirtual 238, 3) := by decide +kernel
theorem dX9_isHeld_24 : decode cX9_isHeld 24 = .ok (.ireturn, 1) := by decide +kernel
theorem dX9_deliveryClock_0 : decode cX9_deliveryClock 0 = .ok (.aload_n 0, 1) := by decide +kernel
theorem dX9_deliveryClock_1 : decode cX9_deliveryClock 1 = .ok (.iload_n 1, 1) := by decide +kernel
theorem dX9_deliveryClock_2 : decode cX9_deliveryClock 2 = .ok (.invokevirtual 208, 3) := by decide +kernel
theorem dX9_deliveryClock_5 : decode cX9_deliveryClock 5 = .ok (.aload_n 0, 1) := by decide +kernel
theorem dX9_deliveryClock_6 : decode cX9_deliveryClock 6 = .ok (.getfield 10, 3) := by decide +kernel
theorem dX9_deliveryClock_9 : decode cX9_deliveryClock 9 = .ok (.getfield 211, 3) := by decide +kernel
theorem dX9_deliveryClock_12 : decode cX9_deliveryClock 12 = .ok (.iload_n 1, 1) := by decide +kernel
theorem dX9_deliveryClock_13 : decode cX9_deliveryClock 13 = .ok (.aaload, 1) := by decide +kernel
theorem dX9_deliveryClock_14 : decode cX9_deliveryClock 14 = .ok (.getfield 242, 3) := by decide +kernel
theorem dX9_deliveryClock_17 : decode cX9_deliveryClock 17 = .ok (.ireturn, 1) := by decide +kernel
theorem dX9_deliveredCount_0 : decode cX9_deliveredCount 0 = .ok (.aload_n 0, 1) := by decide +kernel
theorem dX9_deliveredCount_1 : decode cX9_deliveredCount 1 = .ok (.getfield 10, 3) := by decide +kernel
theorem dX9_deliveredCount_4 : decode cX9_deliveredCount 4 = .ok (.invokevirtual 249, 3) := by decide +kernel
theorem dX9_deliveredCount_7 : decode cX9_deliveredCount 7 = .ok (.ireturn, 1) := by decide +kernel
theorem dX9_parcelBalance_0 : decode cX9_parcelBalance 0 = .ok (.aload_n 0, 1) := by decide +kernel
theorem dX9_parcelBalance_1 : decode cX9_parcelBalance 1 = .ok (.getfield 10, 3) := by decide +kernel
theorem dX9_parcelBalance_4 : decode cX9_parcelBalance 4 = .ok (.getfield 112, 3) := by decide +kernel
theorem dX9_parcelBalance_7 : decode cX9_parcelBalance 7 = .ok (.aload_n 0, 1) := by decide +kernel
theorem dX9_parcelBalance_8 : decode cX9_parcelBalance 8 = .ok (.getfield 10, 3) := by decide +kernel
theorem dX9_parcelBalance_11 : decode cX9_parcelBalance 11 = .ok (.invokevirtual 249, 3) := by decide +kernel
theorem dX9_parcelBalance_14 : decode cX9_parcelBalance 14 = .ok (.isub, 1) := by decide +kernel
theorem dX9_parcelBalance_15 : decode cX9_parcelBalance 15 = .ok (.istore_n 1, 1) := by decide +kernel
theorem dX9_parcelBalance_16 : decode cX9_parcelBalance 16 = .ok (.iconst 0, 1) := by decide +kernel
theorem dX9_parcelBalance_17 : decode cX9_parcelBalance 17 = .ok (.istore_n 2, 1) := by decide +kernel
theorem dX9_parcelBalance_18 : decode cX9_parcelBalance 18 = .ok (.iload_n 2, 1) := by decide +kernel
theorem dX9_parcelBalance_19 : decode cX9_parcelBalance 19 = .ok (.aload_n 0, 1) := by decide +kernel
theorem dX9_parcelBalance_20 : decode cX9_parcelBalance 20 = .ok (.getfield 10, 3) := by decide +kernel
theorem dX9_parcelBalance_23 : decode cX9_parcelBalance 23 = .ok (.getfield 97, 3) := by decide +kernel
theorem dX9_parcelBalance_26 : decode cX9_parcelBalance 26 = .ok (.if_icmp .ge 20, 3) := by decide +kernel
theorem dX9_parcelBalance_29 : decode cX9_parcelBalance 29 = .ok (.iload_n 1, 1) := by decide +kernel
theorem dX9_parcelBalance_30 : decode cX9_parcelBalance 30 = .ok (.aload_n 0, 1) := by decide +kernel
theorem dX9_parcelBalance_31 : decode cX9_parcelBalance 31 = .ok (.getfield 10, 3) := by decide +kernel
theorem dX9_parcelBalance_34 : decode cX9_parcelBalance 34 = .ok (.iload_n 2, 1) := by decide +kernel
theorem dX9_parcelBalance_35 : decode cX9_parcelBalance 35 = .ok (.invokevirtual 131, 3) := by decide +kernel
theorem dX9_parcelBalance_38 : decode cX9_parcelBalance 38 = .ok (.isub, 1) := by decide +kernel
theorem dX9_parcelBalance_39 : decode cX9_parcelBalance 39 = .ok (.istore_n 1, 1) := by decide +kernel
theorem dX9_parcelBalance_40 : decode cX9_parcelBalance 40 = .ok (.iinc 2 1, 3) := by decide +kernel
theorem dX9_parcelBalance_43 : decode cX9_parcelBalance 43 = .ok (.goto (-25), 3) := by decide +kernel
theorem dX9_parcelBalance_46 : decode cX9_parcelBalance 46 = .ok (.iload_n 1, 1) := by decide +kernel
theorem dX9_parcelBalance_47 : decode cX9_parcelBalance 47 = .ok (.aload_n 0, 1) := by decide +kernel
theorem dX9_parcelBalance_48 : decode cX9_parcelBalance 48 = .ok (.getfield 10, 3) := by decide +kernel
theorem dX9_parcelBalance_51 : decode cX9_parcelBalance 51 = .ok (.invokevirtual 252, 3) := by decide +kernel
theorem dX9_parcelBalance_54 : decode cX9_parcelBalance 54 = .ok (.isub, 1) := by decide +kernel
theorem dX9_parcelBalance_55 : decode cX9_parcelBalance 55 = .ok (.ireturn, 1) := by decide +kernel
theorem dX9_loadingBalance_0 : decode cX9_loadingBalance 0 = .ok (.aload_n 0, 1) := by decide +kernel
theorem dX9_loadingBalance_1 : decode cX9_loadingBalance 1 = .ok (.getfield 10, 3) := by decide +kernel
theorem dX9_loadingBalance_4 : decode cX9_loadingBalance 4 = .ok (.getfield 255, 3) := by decide +kernel
theorem dX9_loadingBalance_7 : decode cX9_loadingBalance 7 = .ok (.aload_n 0, 1) := by decide +kernel
theorem dX9_loadingBalance_8 : decode cX9_loadingBalance 8 = .ok (.getfield 10, 3) := by decide +kernel
theorem dX9_loadingBalance_11 : decode cX9_loadingBalance 11 = .ok (.getfield 258, 3) := by decide +kernel
theorem dX9_loadingBalance_14 : decode cX9_loadingBalance 14 = .ok (.isub, 1) := by decide +kernel
theorem dX9_loadingBalance_15 : decode cX9_loadingBalance 15 = .ok (.aload_n 0, 1) := by decide +kernel
theorem dX9_loadingBalance_16 : decode cX9_loadingBalance 16 = .ok (.getfield 10, 3) := by decide +kernel
theorem dX9_loadingBalance_19 : decode cX9_loadingBalance 19 = .ok (.invokevirtual 252, 3) := by decide +kernel
theorem dX9_loadingBalance_22 : decode cX9_loadingBalance 22 = .ok (.isub, 1) := by decide +kernel
theorem dX9_loadingBalance_23 : decode cX9_loadingBalance 23 = .ok (.ireturn, 1) := by decide +kernel
theorem dX9_pass_0 : decode cX9_pass 0 = .ok (.iload_n 1, 1) := by decide +kernel
theorem dX9_pass_1 : decode cX9_pass 1 = .ok (.iconst 1, 1) := by decide +kernel
theorem dX9_pass_2 : decode cX9_pass 2 = .ok (.bipush 60, 2) := by decide +kernel
theorem dX9_pass_4 : decode cX9_pass 4 = .ok (.invokestatic 274, 3) := by decide +kernel
theorem dX9_pass_7 : decode cX9_pass 7 = .ok (.aload_n 0, 1) := by decide +kernel
theorem dX9_pass_8 : decode cX9_pass 8 = .ok (.getfield 29, 3) := by decide +kernel
theorem dX9_pass_11 : decode cX9_pass 11 = .ok (.aload_n 0, 1) := by decide +kernel
theorem dX9_pass_12 : decode cX9_pass 12 = .ok (.getfield 10, 3) := by decide +kernel
theorem dX9_pass_15 : decode cX9_pass 15 = .ok (.invokevirtual 94, 3) := by decide +kernel
theorem dX9_pass_18 : decode cX9_pass 18 = .ok (.aload_n 0, 1) := by decide +kernel
theorem dX9_pass_19 : decode cX9_pass 19 = .ok (.getfield 10, 3) := by decide +kernel
theorem dX9_pass_22 : decode cX9_pass 22 = .ok (.invokevirtual 249, 3) := by decide +kernel
theorem dX9_pass_25 : decode cX9_pass 25 = .ok (.istore_n 2, 1) := by decide +kernel
theorem dX9_pass_26 : decode cX9_pass 26 = .ok (.aload_n 0, 1) := by decide +kernel
theorem dX9_pass_27 : decode cX9_pass 27 = .ok (.getfield 10, 3) := by decide +kernel
theorem dX9_pass_30 : decode cX9_pass 30 = .ok (.iload_n 1, 1) := by decide +kernel
theorem dX9_pass_31 : decode cX9_pass 31 = .ok (.invokevirtual 278, 3) := by decide +kernel
theorem dX9_pass_34 : decode cX9_pass 34 = .ok (.aload_n 0, 1) := by decide +kernel
theorem dX9_pass_35 : decode cX9_pass 35 = .ok (.getfield 10, 3) := by decide +kernel
theorem dX9_pass_38 : decode cX9_pass 38 = .ok (.invokevirtual 249, 3) := by decide +kernel
theorem dX9_pass_41 : decode cX9_pass 41 = .ok (.iload_n 2, 1) := by decide +kernel
theorem dX9_pass_42 : decode cX9_pass 42 = .ok (.isub, 1) := by decide +kernel
theorem dX9_pass_43 : decode cX9_pass 43 = .ok (.ireturn, 1) := by decide +kernel
theorem dX9_addParcel_0 : decode cX9_addParcel 0 = .ok (.aload_n 0, 1) := by decide +kernel
theorem dX9_addParcel_1 : decode cX9_addParcel 1 = .ok (.iload_n 1, 1) := by decide +kernel
theorem dX9_addParcel_2 : decode cX9_addParcel 2 = .ok (.invokevirtual 115, 3) := by decide +kernel
theorem dX9_addParcel_5 : decode cX9_addParcel 5 = .ok (.aload_n 0, 1) := by decide +kernel
theorem dX9_addParcel_6 : decode cX9_addParcel 6 = .ok (.iload_n 2, 1) := by decide +kernel
theorem dX9_addParcel_7 : decode cX9_addParcel 7 = .ok (.invokevirtual 115, 3) := by decide +kernel
theorem dX9_addParcel_10 : decode cX9_addParcel 10 = .ok (.iload_n 1, 1) := by decide +kernel
theorem dX9_addParcel_11 : decode cX9_addParcel 11 = .ok (.iload_n 2, 1) := by decide +kernel
theorem dX9_addParcel_12 : decode cX9_addParcel 12 = .ok (.if_icmp .ne 14, 3) := by decide +kernel
theorem dX9_addParcel_15 : decode cX9_addParcel 15 = .ok (.new 84, 3) := by decide +kernel
theorem dX9_addParcel_18 : decode cX9_addParcel 18 = .ok (.dup, 1) := by decide +kernel
theorem dX9_addParcel_19 : decode cX9_addParcel 19 = .ok (.ldc_w 287, 3) := by decide +kernel
theorem dX9_addParcel_22 : decode cX9_addParcel 22 = .ok (.invokespecial 88, 3) := by decide +kernel
theorem dX9_addParcel_25 : decode cX9_addParcel 25 = .ok (.athrow, 1) := by decide +kernel
theorem dX9_addParcel_26 : decode cX9_addParcel 26 = .ok (.iload_n 3, 1) := by decide +kernel
theorem dX9_addParcel_27 : decode cX9_addParcel 27 = .ok (.iconst 1, 1) := by decide +kernel
theorem dX9_addParcel_28 : decode cX9_addParcel 28 = .ok (.bipush 9, 2) := by decide +kernel
theorem dX9_addParcel_30 : decode cX9_addParcel 30 = .ok (.invokestatic 274, 3) := by decide +kernel
theorem dX9_addParcel_33 : decode cX9_addParcel 33 = .ok (.aload_n 0, 1) := by decide +kernel
theorem dX9_addParcel_34 : decode cX9_addParcel 34 = .ok (.getfield 10, 3) := by decide +kernel
theorem dX9_addParcel_37 : decode cX9_addParcel 37 = .ok (.getfield 112, 3) := by decide +kernel
theorem dX9_addParcel_40 : decode cX9_addParcel 40 = .ok (.bipush 12, 2) := by decide +kernel
theorem dX9_addParcel_42 : decode cX9_addParcel 42 = .ok (.if_icmp .lt 14, 3) := by decide +kernel
theorem dX9_addParcel_45 : decode cX9_addParcel 45 = .ok (.new 74, 3) := by decide +kernel
theorem dX9_addParcel_48 : decode cX9_addParcel 48 = .ok (.dup, 1) := by decide +kernel
theorem dX9_addParcel_49 : decode cX9_addParcel 49 = .ok (.ldc_w 289, 3) := by decide +kernel
theorem dX9_addParcel_52 : decode cX9_addParcel 52 = .ok (.invokespecial 78, 3) := by decide +kernel
theorem dX9_addParcel_55 : decode cX9_addParcel 55 = .ok (.athrow, 1) := by decide +kernel
theorem dX9_addParcel_56 : decode cX9_addParcel 56 = .ok (.aload_n 0, 1) := by decide +kernel
theorem dX9_addParcel_57 : decode cX9_addParcel 57 = .ok (.getfield 29, 3) := by decide +kernel
theorem dX9_addParcel_60 : decode cX9_addParcel 60 = .ok (.aload_n 0, 1) := by decide +kernel
theorem dX9_addParcel_61 : decode cX9_addParcel 61 = .ok (.getfield 10, 3) := by decide +kernel
theorem dX9_addParcel_64 : decode cX9_addParcel 64 = .ok (.invokevirtual 94, 3) := by decide +kernel
theorem dX9_addParcel_67 : decode cX9_addParcel 67 = .ok (.aload_n 0, 1) := by decide +kernel
theorem dX9_addParcel_68 : decode cX9_addParcel 68 = .ok (.getfield 10, 3) := by decide +kernel
theorem dX9_addParcel_71 : decode cX9_addParcel 71 = .ok (.iload_n 1, 1) := by decide +kernel
theorem dX9_addParcel_72 : decode cX9_addParcel 72 = .ok (.iload_n 2, 1) := by decide +kernel
theorem dX9_addParcel_73 : decode cX9_addParcel 73 = .ok (.iload_n 3, 1) := by decide +kernel
theorem dX9_addParcel_74 : decode cX9_addParcel 74 = .ok (.invokevirtual 291, 3) := by decide +kernel
theorem dX9_addParcel_77 : decode cX9_addParcel 77 = .ok (.aload_n 0, 1) := by decide +kernel
theorem dX9_addParcel_78 : decode cX9_addParcel 78 = .ok (.getfield 10, 3) := by decide +kernel
theorem dX9_addParcel_81 : decode cX9_addParcel 81 = .ok (.getfield 112, 3) := by decide +kernel
theorem dX9_addParcel_84 : decode cX9_addParcel 84 = .ok (.iconst 1, 1) := by decide +kernel
theorem dX9_addParcel_85 : decode cX9_addParcel 85 = .ok (.isub, 1) := by decide +kernel
theorem dX9_addParcel_86 : decode cX9_addParcel 86 = .ok (.ireturn, 1) := by decide +kernel
theorem dX9_setTrackOpen_0 : decode cX9_setTrackOpen 0 = .ok (.aload_n 0, 1) := by decide +kernel
theorem dX9_setTrackOpen_1 : decode cX9_setTrackOpen 1 = .ok (.iload_n 1, 1) := by decide +kernel
theorem dX9_setTrackOpen_2 : decode cX9_setTrackOpen 2 = .ok (.invokevirtual 115, 3) := by decide +kernel
theorem dX9_setTrackOpen_5 : decode cX9_setTrackOpen 5 = .ok (.aload_n 0, 1) := by decide +kernel
theorem dX9_setTrackOpen_6 : decode cX9_setTrackOpen 6 = .ok (.iload_n 2, 1) := by decide +kernel
theorem dX9_setTrackOpen_7 : decode cX9_setTrackOpen 7 = .ok (.invokevirtual 115, 3) := by decide +kernel
theorem dX9_setTrackOpen_10 : decode cX9_setTrackOpen 10 = .ok (.aload_n 0, 1) := by decide +kernel
theorem dX9_setTrackOpen_11 : decode cX9_setTrackOpen 11 = .ok (.iload_n 1, 1) := by decide +kernel
theorem dX9_setTrackOpen_12 : decode cX9_setTrackOpen 12 = .ok (.iload_n 2, 1) := by decide +kernel
theorem dX9_setTrackOpen_13 : decode cX9_setTrackOpen 13 = .ok (.invokevirtual 281, 3) := by decide +kernel
theorem dX9_setTrackOpen_16 : decode cX9_setTrackOpen 16 = .ok (.istore 4, 2) := by decide +kernel
theorem dX9_setTrackOpen_18 : decode cX9_setTrackOpen 18 = .ok (.aload_n 0, 1) := by decide +kernel
theorem dX9_setTrackOpen_19 : decode cX9_setTrackOpen 19 = .ok (.getfield 10, 3) := by decide +kernel
theorem dX9_setTrackOpen_22 : decode cX9_setTrackOpen 22 = .ok (.getfield 147, 3) := by decide +kernel
theorem dX9_setTrackOpen_25 : decode cX9_setTrackOpen 25 = .ok (.iload 4, 2) := by decide +kernel
theorem dX9_setTrackOpen_27 : decode cX9_setTrackOpen 27 = .ok (.aaload, 1) := by decide +kernel
theorem dX9_setTrackOpen_28 : decode cX9_setTrackOpen 28 = .ok (.getfield 156, 3) := by decide +kernel
theorem dX9_setTrackOpen_31 : decode cX9_setTrackOpen 31 = .ok (.istore 5, 2) := by decide +kernel
theorem dX9_setTrackOpen_33 : decode cX9_setTrackOpen 33 = .ok (.aload_n 0, 1) := by decide +kernel
theorem dX9_setTrackOpen_34 : decode cX9_setTrackOpen 34 = .ok (.getfield 29, 3) := by decide +kernel
theorem dX9_setTrackOpen_37 : decode cX9_setTrackOpen 37 = .ok (.aload_n 0, 1) := by decide +kernel
theorem dX9_setTrackOpen_38 : decode cX9_setTrackOpen 38 = .ok (.getfield 10, 3) := by decide +kernel
theorem dX9_setTrackOpen_41 : decode cX9_setTrackOpen 41 = .ok (.invokevirtual 94, 3) := by decide +kernel
theorem dX9_setTrackOpen_44 : decode cX9_setTrackOpen 44 = .ok (.aload_n 0, 1) := by decide +kernel
theorem dX9_setTrackOpen_45 : decode cX9_setTrackOpen 45 = .ok (.getfield 10, 3) := by decide +kernel
theorem dX9_setTrackOpen_48 : decode cX9_setTrackOpen 48 = .ok (.iload 4, 2) := by decide +kernel
theorem dX9_setTrackOpen_50 : decode cX9_setTrackOpen 50 = .ok (.iload_n 3, 1) := by decide +kernel
theorem dX9_setTrackOpen_51 : decode cX9_setTrackOpen 51 = .ok (.invokevirtual 294, 3) := by decide +kernel
theorem dX9_setTrackOpen_54 : decode cX9_setTrackOpen 54 = .ok (.iload 5, 2) := by decide +kernel
theorem dX9_setTrackOpen_56 : decode cX9_setTrackOpen 56 = .ok (.ireturn, 1) := by decide +kernel
theorem dX9_setPriority_0 : decode cX9_setPriority 0 = .ok (.aload_n 0, 1) := by decide +kernel
theorem dX9_setPriority_1 : decode cX9_setPriority 1 = .ok (.iload_n 1, 1) := by decide +kernel
theorem dX9_setPriority_2 : decode cX9_setPriority 2 = .ok (.invokevirtual 208, 3) := by decide +kernel
theorem dX9_setPriority_5 : decode cX9_setPriority 5 = .ok (.iload_n 2, 1) := by decide +kernel
theorem dX9_setPriority_6 : decode cX9_setPriority 6 = .ok (.iconst 1, 1) := by decide +kernel
theorem dX9_setPriority_7 : decode cX9_setPriority 7 = .ok (.bipush 9, 2) := by decide +kernel
theorem dX9_setPriority_9 : decode cX9_setPriority 9 = .ok (.invokestatic 274, 3) := by decide +kernel
theorem dX9_setPriority_12 : decode cX9_setPriority 12 = .ok (.aload_n 0, 1) := by decide +kernel
theorem dX9_setPriority_13 : decode cX9_setPriority 13 = .ok (.getfield 10, 3) := by decide +kernel
theorem dX9_setPriority_16 : decode cX9_setPriority 16 = .ok (.getfield 211, 3) := by decide +kernel
theorem dX9_setPriority_19 : decode cX9_setPriority 19 = .ok (.iload_n 1, 1) := by decide +kernel
theorem dX9_setPriority_20 : decode cX9_setPriority 20 = .ok (.aaload, 1) := by decide +kernel
theorem dX9_setPriority_21 : decode cX9_setPriority 21 = .ok (.getfield 223, 3) := by decide +kernel
theorem dX9_setPriority_24 : decode cX9_setPriority 24 = .ok (.istore_n 3, 1) := by decide +kernel
theorem dX9_setPriority_25 : decode cX9_setPriority 25 = .ok (.aload_n 0, 1) := by decide +kernel
theorem dX9_setPriority_26 : decode cX9_setPriority 26 = .ok (.getfield 29, 3) := by decide +kernel
theorem dX9_setPriority_29 : decode cX9_setPriority 29 = .ok (.aload_n 0, 1) := by decide +kernel
theorem dX9_setPriority_30 : decode cX9_setPriority 30 = .ok (.getfield 10, 3) := by decide +kernel
theorem dX9_setPriority_33 : decode cX9_setPriority 33 = .ok (.invokevirtual 94, 3) := by decide +kernel
theorem dX9_setPriority_36 : decode cX9_setPriority 36 = .ok (.aload_n 0, 1) := by decide +kernel
theorem dX9_setPriority_37 : decode cX9_setPriority 37 = .ok (.getfield 10, 3) := by decide +kernel
theorem dX9_setPriority_40 : decode cX9_setPriority 40 = .ok (.getfield 211, 3) := by decide +kernel
theorem dX9_setPriority_43 : decode cX9_setPriority 43 = .ok (.iload_n 1, 1) := by decide +kernel
theorem dX9_setPriority_44 : decode cX9_setPriority 44 = .ok (.aaload, 1) := by decide +kernel
theorem dX9_setPriority_45 : decode cX9_setPriority 45 = .ok (.iload_n 2, 1) := by decide +kernel
theorem dX9_setPriority_46 : decode cX9_setPriority 46 = .ok (.putfield 223, 3) := by decide +kernel
theorem dX9_setPriority_49 : decode cX9_setPriority 49 = .ok (.iload_n 3, 1) := by decide +kernel
theorem dX9_setPriority_50 : decode cX9_setPriority 50 = .ok (.ireturn, 1) := by decide +kernel
theorem dX9_setInspection_0 : decode cX9_setInspection 0 = .ok (.aload_n 0, 1) := by decide +kernel
theorem dX9_setInspection_1 : decode cX9_setInspection 1 = .ok (.iload_n 1, 1) := by decide +kernel
theorem dX9_setInspection_2 : decode cX9_setInspection 2 = .ok (.invokevirtual 115, 3) := by decide +kernel
theorem dX9_setInspection_5 : decode cX9_setInspection 5 = .ok (.iload_n 2, 1) := by decide +kernel
theorem dX9_setInspection_6 : decode cX9_setInspection 6 = .ok (.iconst 0, 1) := by decide +kernel
theorem dX9_setInspection_7 : decode cX9_setInspection 7 = .ok (.bipush 9, 2) := by decide +kernel
theorem dX9_setInspection_9 : decode cX9_setInspection 9 = .ok (.invokestatic 274, 3) := by decide +kernel
theorem dX9_setInspection_12 : decode cX9_setInspection 12 = .ok (.aload_n 0, 1) := by decide +kernel
theorem dX9_setInspection_13 : decode cX9_setInspection 13 = .ok (.getfield 10, 3) := by decide +kernel
theorem dX9_setInspection_16 : decode cX9_setInspection 16 = .ok (.getfield 118, 3) := by decide +kernel
theorem dX9_setInspection_19 : decode cX9_setInspection 19 = .ok (.iload_n 1, 1) := by decide +kernel
theorem dX9_setInspection_20 : decode cX9_setInspection 20 = .ok (.aaload, 1) := by decide +kernel
theorem dX9_setInspection_21 : decode cX9_setInspection 21 = .ok (.getfield 128, 3) := by decide +kernel
theorem dX9_setInspection_24 : decode cX9_setInspection 24 = .ok (.istore_n 3, 1) := by decide +kernel
theorem dX9_setInspection_25 : decode cX9_setInspection 25 = .ok (.aload_n 0, 1) := by decide +kernel
theorem dX9_setInspection_26 : decode cX9_setInspection 26 = .ok (.getfield 29, 3) := by decide +kernel
theorem dX9_setInspection_29 : decode cX9_setInspection 29 = .ok (.aload_n 0, 1) := by decide +kernel
theorem dX9_setInspection_30 : decode cX9_setInspection 30 = .ok (.getfield 10, 3) := by decide +kernel
theorem dX9_setInspection_33 : decode cX9_setInspection 33 = .ok (.invokevirtual 94, 3) := by decide +kernel
theorem dX9_setInspection_36 : decode cX9_setInspection 36 = .ok (.aload_n 0, 1) := by decide +kernel
theorem dX9_setInspection_37 : decode cX9_setInspection 37 = .ok (.getfield 10, 3) := by decide +kernel
theorem dX9_setInspection_40 : decode cX9_setInspection 40 = .ok (.getfield 118, 3) := by decide +kernel
theorem dX9_setInspection_43 : decode cX9_setInspection 43 = .ok (.iload_n 1, 1) := by decide +kernel
theorem dX9_setInspection_44 : decode cX9_setInspection 44 = .ok (.aaload, 1) := by decide +kernel
theorem dX9_setInspection_45 : decode cX9_setInspection 45 = .ok (.iload_n 2, 1) := by decide +kernel
theorem dX9_setInspection_46 : decode cX9_setInspection 46 = .ok (.putfield 128, 3) := by decide +kernel
theorem dX9_setInspection_49 : decode cX9_setInspection 49 = .ok (.iload_n 3, 1) := by decide +kernel
theorem dX9_setInspection_50 : decode cX9_setInspection 50 = .ok (.ireturn, 1) := by decide +kernel
theorem dX9_withdraw_0 : decode cX9_withdraw 0 = .ok (.aload_n 0, 1) := by decide +kernel
theorem dX9_withdraw_1 : decode cX9_withdraw 1 = .ok (.iload_n 1, 1) := by decide +kernel
theorem dX9_withdraw_2 : decode cX9_withdraw 2 = .ok (.invokevirtual 208, 3) := by decide +kernel
theorem dX9_withdraw_5 : decode cX9_withdraw 5 = .ok (.aload_n 0, 1) := by decide +kernel
theorem dX9_withdraw_6 : decode cX9_withdraw 6 = .ok (.getfield 10, 3) := by decide +kernel
theorem dX9_withdraw_9 : decode cX9_withdraw 9 = .ok (.getfield 211, 3) := by decide +kernel
theorem dX9_withdraw_12 : decode cX9_withdraw 12 = .ok (.iload_n 1, 1) := by decide +kernel
theorem dX9_withdraw_13 : decode cX9_withdraw 13 = .ok (.aaload, 1) := by decide +kernel
theorem dX9_withdraw_14 : decode cX9_withdraw 14 = .ok (.astore_n 2, 1) := by decide +kernel
theorem dX9_withdraw_15 : decode cX9_withdraw 15 = .ok (.aload_n 2, 1) := by decide +kernel
theorem dX9_withdraw_16 : decode cX9_withdraw 16 = .ok (.getfield 226, 3) := by decide +kernel
theorem dX9_withdraw_19 : decode cX9_withdraw 19 = .ok (.iconst (-1), 1) := by decide +kernel
theorem dX9_withdraw_20 : decode cX9_withdraw 20 = .ok (.if_icmp .ne 14, 3) := by decide +kernel
theorem dX9_withdraw_23 : decode cX9_withdraw 23 = .ok (.new 74, 3) := by decide +kernel
theorem dX9_withdraw_26 : decode cX9_withdraw 26 = .ok (.dup, 1) := by decide +kernel
theorem dX9_withdraw_27 : decode cX9_withdraw 27 = .ok (.ldc_w 298, 3) := by decide +kernel
theorem dX9_withdraw_30 : decode cX9_withdraw 30 = .ok (.invokespecial 78, 3) := by decide +kernel
theorem dX9_withdraw_33 : decode cX9_withdraw 33 = .ok (.athrow, 1) := by decide +kernel
theorem dX9_withdraw_34 : decode cX9_withdraw 34 = .ok (.aload_n 0, 1) := by decide +kernel
theorem dX9_withdraw_35 : decode cX9_withdraw 35 = .ok (.getfield 29, 3) := by decide +kernel
theorem dX9_withdraw_38 : decode cX9_withdraw 38 = .ok (.aload_n 0, 1) := by decide +kernel
theorem dX9_withdraw_39 : decode cX9_withdraw 39 = .ok (.getfield 10, 3) := by decide +kernel
theorem dX9_withdraw_42 : decode cX9_withdraw 42 = .ok (.invokevirtual 94, 3) := by decide +kernel
theorem dX9_withdraw_45 : decode cX9_withdraw 45 = .ok (.aload_n 2, 1) := by decide +kernel
theorem dX9_withdraw_46 : decode cX9_withdraw 46 = .ok (.aload_n 0, 1) := by decide +kernel
theorem dX9_withdraw_47 : decode cX9_withdraw 47 = .ok (.getfield 10, 3) := by decide +kernel
theorem dX9_withdraw_50 : decode cX9_withdraw 50 = .ok (.getfield 103, 3) := by decide +kernel
theorem dX9_withdraw_53 : decode cX9_withdraw 53 = .ok (.invokevirtual 300, 3) := by decide +kernel
theorem dX9_withdraw_56 : decode cX9_withdraw 56 = .ok (.aload_n 2, 1) := by decide +kernel
theorem dX9_withdraw_57 : decode cX9_withdraw 57 = .ok (.invokevirtual 264, 3) := by decide +kernel
theorem dX9_withdraw_60 : decode cX9_withdraw 60 = .ok (.ifCond .eq 7, 3) := by decide +kernel
theorem dX9_withdraw_63 : decode cX9_withdraw 63 = .ok (.iconst (-1), 1) := by decide +kernel
theorem dX9_withdraw_64 : decode cX9_withdraw 64 = .ok (.goto 7, 3) := by decide +kernel
theorem dX9_withdraw_67 : decode cX9_withdraw 67 = .ok (.aload_n 2, 1) := by decide +kernel
theorem dX9_withdraw_68 : decode cX9_withdraw 68 = .ok (.getfield 220, 3) := by decide +kernel
theorem dX9_withdraw_71 : decode cX9_withdraw 71 = .ok (.ireturn, 1) := by decide +kernel
theorem dX9_checkStation_0 : decode cX9_checkStation 0 = .ok (.iload_n 1, 1) := by decide +kernel
theorem dX9_checkStation_1 : decode cX9_checkStation 1 = .ok (.ifCond .lt 14, 3) := by decide +kernel
theorem dX9_checkStation_4 : decode cX9_checkStation 4 = .ok (.iload_n 1, 1) := by decide +kernel
theorem dX9_checkStation_5 : decode cX9_checkStation 5 = .ok (.aload_n 0, 1) := by decide +kernel
theorem dX9_checkStation_6 : decode cX9_checkStation 6 = .ok (.getfield 10, 3) := by decide +kernel
theorem dX9_checkStation_9 : decode cX9_checkStation 9 = .ok (.getfield 97, 3) := by decide +kernel
theorem dX9_checkStation_12 : decode cX9_checkStation 12 = .ok (.if_icmp .lt 14, 3) := by decide +kernel
theorem dX9_checkStation_15 : decode cX9_checkStation 15 = .ok (.new 334, 3) := by decide +kernel
theorem dX9_checkStation_18 : decode cX9_checkStation 18 = .ok (.dup, 1) := by decide +kernel
theorem dX9_checkStation_19 : decode cX9_checkStation 19 = .ok (.ldc_w 336, 3) := by decide +kernel
theorem dX9_checkStation_22 : decode cX9_checkStation 22 = .ok (.invokespecial 338, 3) := by decide +kernel
theorem dX9_checkStation_25 : decode cX9_checkStation 25 = .ok (.athrow, 1) := by decide +kernel
theorem dX9_checkStation_26 : decode cX9_checkStation 26 = .ok (.return_, 1) := by decide +kernel
theorem dX9_checkTrain_0 : decode cX9_checkTrain 0 = .ok (.iload_n 1, 1) := by decide +kernel
theorem dX9_checkTrain_1 : decode cX9_checkTrain 1 = .ok (.ifCond .lt 14, 3) := by decide +kernel
theorem dX9_checkTrain_4 : decode cX9_checkTrain 4 = .ok (.iload_n 1, 1) := by decide +kernel
theorem dX9_checkTrain_5 : decode cX9_checkTrain 5 = .ok (.aload_n 0, 1) := by decide +kernel
theorem dX9_checkTrain_6 : decode cX9_checkTrain 6 = .ok (.getfield 10, 3) := by decide +kernel
theorem dX9_checkTrain_9 : decode cX9_checkTrain 9 = .ok (.getfield 109, 3) := by decide +kernel
theorem dX9_checkTrain_12 : decode cX9_checkTrain 12 = .ok (.if_icmp .lt 14, 3) := by decide +kernel
theorem dX9_checkTrain_15 : decode cX9_checkTrain 15 = .ok (.new 334, 3) := by decide +kernel
theorem dX9_checkTrain_18 : decode cX9_checkTrain 18 = .ok (.dup, 1) := by decide +kernel
theorem dX9_checkTrain_19 : decode cX9_checkTrain 19 = .ok (.ldc_w 339, 3) := by decide +kernel
theorem dX9_checkTrain_22 : decode cX9_checkTrain 22 = .ok (.invokespecial 338, 3) := by decide +kernel
theorem dX9_checkTrain_25 : decode cX9_checkTrain 25 = .ok (.athrow, 1) := by decide +kernel
theorem dX9_checkTrain_26 : decode cX9_checkTrain 26 = .ok (.return_, 1) := by decide +kernel
theorem dX9_checkParcel_0 : decode cX9_checkParcel 0 = .ok (.iload_n 1, 1) := by decide +kernel
theorem dX9_checkParcel_1 : decode cX9_checkParcel 1 = .ok (.ifCond .lt 14, 3) := by decide +kernel
theorem dX9_checkParcel_4 : decode cX9_checkParcel 4 = .ok (.iload_n 1, 1) := by decide +kernel
theorem dX9_checkParcel_5 : decode cX9_checkParcel 5 = .ok (.aload_n 0, 1) := by decide +kernel
theorem dX9_checkParcel_6 : decode cX9_checkParcel 6 = .ok (.getfield 10, 3) := by decide +kernel
theorem dX9_checkParcel_9 : decode cX9_checkParcel 9 = .ok (.getfield 112, 3) := by decide +kernel
theorem dX9_checkParcel_12 : decode cX9_checkParcel 12 = .ok (.if_icmp .lt 14, 3) := by decide +kernel
theorem dX9_checkParcel_15 : decode cX9_checkParcel 15 = .ok (.new 334, 3) := by decide +kernel
theorem dX9_checkParcel_18 : decode cX9_checkParcel 18 = .ok (.dup, 1) := by decide +kernel
theorem dX9_checkParcel_19 : decode cX9_checkParcel 19 = .ok (.ldc_w 341, 3) := by decide +kernel
theorem dX9_checkParcel_22 : decode cX9_checkParcel 22 = .ok (.invokespecial 338, 3) := by decide +kernel
theorem dX9_checkParcel_25 : decode cX9_checkParcel 25 = .ok (.athrow, 1) := by decide +kernel
theorem dX9_checkParcel_26 : decode cX9_checkParcel 26 = .ok (.return_, 1) := by decide +kernel
theorem dX9_checkRange_0 : decode cX9_checkRange 0 = .ok (.iload_n 0, 1) := by decide +kernel
theorem dX9_checkRange_1 : decode cX9_checkRange 1 = .ok (.iload_n 1, 1) := by decide +kernel
theorem dX9_checkRange_2 : decode cX9_checkRange 2 = .ok (.if_icmp .lt 8, 3) := by decide +kernel
theorem dX9_checkRange_5 : decode cX9_checkRange 5 = .ok (.iload_n 0, 1) := by decide +kernel
theorem dX9_checkRange_6 : decode cX9_checkRange 6 = .ok (.iload_n 2, 1) := by decide +kernel
theorem dX9_checkRange_7 : decode cX9_checkRange 7 = .ok (.if_icmp .le 14, 3) := by decide +kernel
theorem dX9_checkRange_10 : decode cX9_checkRange 10 = .ok (.new 84, 3) := by decide +kernel
theorem dX9_checkRange_13 : decode cX9_checkRange 13 = .ok (.dup, 1) := by decide +kernel
theorem dX9_checkRange_14 : decode cX9_checkRange 14 = .ok (.ldc_w 345, 3) := by decide +kernel
theorem dX9_checkRange_17 : decode cX9_checkRange 17 = .ok (.invokespecial 88, 3) := by decide +kernel
theorem dX9_checkRange_20 : decode cX9_checkRange 20 = .ok (.athrow, 1) := by decide +kernel
theorem dX9_checkRange_21 : decode cX9_checkRange 21 = .ok (.return_, 1) := by decide +kernel
theorem dX9_requireTrack_0 : decode cX9_requireTrack 0 = .ok (.aload_n 0, 1) := by decide +kernel
theorem dX9_requireTrack_1 : decode cX9_requireTrack 1 = .ok (.getfield 10, 3) := by decide +kernel
theorem dX9_requireTrack_4 : decode cX9_requireTrack 4 = .ok (.iload_n 1, 1) := by decide +kernel
theorem dX9_requireTrack_5 : decode cX9_requireTrack 5 = .ok (.iload_n 2, 1) := by decide +kernel
theorem dX9_requireTrack_6 : decode cX9_requireTrack 6 = .ok (.invokevirtual 144, 3) := by decide +kernel
theorem dX9_requireTrack_9 : decode cX9_requireTrack 9 = .ok (.istore_n 3, 1) := by decide +kernel
theorem dX9_requireTrack_10 : decode cX9_requireTrack 10 = .ok (.iload_n 3, 1) := by decide +kernel
theorem dX9_requireTrack_11 : decode cX9_requireTrack 11 = .ok (.iconst (-1), 1) := by decide +kernel
theorem dX9_requireTrack_12 : decode cX9_requireTrack 12 = .ok (.if_icmp .ne 14, 3) := by decide +kernel
theorem dX9_requireTrack_15 : decode cX9_requireTrack 15 = .ok (.new 84, 3) := by decide +kernel
theorem dX9_requireTrack_18 : decode cX9_requireTrack 18 = .ok (.dup, 1) := by decide +kernel
theorem dX9_requireTrack_19 : decode cX9_requireTrack 19 = .ok (.ldc_w 347, 3) := by decide +kernel
theorem dX9_requireTrack_22 : decode cX9_requireTrack 22 = .ok (.invokespecial 88, 3) := by decide +kernel
theorem dX9_requireTrack_25 : decode cX9_requireTrack 25 = .ok (.athrow, 1) := by decide +kernel
theorem dX9_requireTrack_26 : decode cX9_requireTrack 26 = .ok (.iload_n 3, 1) := by decide +kernel
theorem dX9_requireTrack_27 : decode cX9_requireTrack 27 = .ok (.ireturn, 1) := by decide +kernel
theorem dX10_init_0 : decode cX10_init 0 = .ok (.aload_n 0, 1) := by decide +kernel
theorem dX10_init_1 : decode cX10_init 1 = .ok (.invokespecial 1, 3) := by decide +kernel
theorem dX10_init_4 : decode cX10_init 4 = .ok (.aload_n 0, 1) := by decide +kernel
theorem dX10_init_5 : decode cX10_init 5 = .ok (.bipush 12, 2) := by decide +kernel
theorem dX10_init_7 : decode cX10_init 7 = .ok (.bipush 9, 2) := by decide +kernel
theorem dX10_init_9 : decode cX10_init 9 = .ok (.multianewarray 7 2, 4) := by decide +kernel
theorem dX10_init_13 : decode cX10_init 13 = .ok (.putfield 9, 3) := by decide +kernel
theorem dX10_init_16 : decode cX10_init 16 = .ok (.aload_n 0, 1) := by decide +kernel
theorem dX10_init_17 : decode cX10_init 17 = .ok (.aload_n 1, 1) := by decide +kernel
theorem dX10_init_18 : decode cX10_init 18 = .ok (.invokevirtual 14, 3) := by decide +kernel
theorem dX10_init_21 : decode cX10_init 21 = .ok (.putfield 20, 3) := by decide +kernel
theorem dX10_init_24 : decode cX10_init 24 = .ok (.aload_n 0, 1) := by decide +kernel
theorem dX10_init_25 : decode cX10_init 25 = .ok (.aload_n 1, 1) := by decide +kernel
theorem dX10_init_26 : decode cX10_init 26 = .ok (.invokevirtual 24, 3) := by decide +kernel
theorem dX10_init_29 : decode cX10_init 29 = .ok (.putfield 27, 3) := by decide +kernel
theorem dX10_init_32 : decode cX10_init 32 = .ok (.aload_n 0, 1) := by decide +kernel
theorem dX10_init_33 : decode cX10_init 33 = .ok (.aload_n 0, 1) := by decide +kernel
theorem dX10_init_34 : decode cX10_init 34 = .ok (.getfield 20, 3) := by decide +kernel
theorem dX10_init_37 : decode cX10_init 37 = .ok (.aload_n 0, 1) := by decide +kernel
theorem dX10_init_38 : decode cX10_init 38 = .ok (.getfield 20, 3) := by decide +kernel
theorem dX10_init_41 : decode cX10_init 41 = .ok (.multianewarray 7 2, 4) := by decide +kernel
theorem dX10_init_45 : decode cX10_init 45 = .ok (.putfield 30, 3) := by decide +kernel
theorem dX10_init_48 : decode cX10_init 48 = .ok (.aload_n 0, 1) := by decide +kernel
theorem dX10_init_49 : decode cX10_init 49 = .ok (.aload_n 0, 1) := by decide +kernel
theorem dX10_init_50 : decode cX10_init 50 = .ok (.getfield 20, 3) := by decide +kernel
theorem dX10_init_53 : decode cX10_init 53 = .ok (.aload_n 0, 1) := by decide +kernel
theorem dX10_init_54 : decode cX10_init 54 = .ok (.getfield 20, 3) := by decide +kernel
theorem dX10_init_57 : decode cX10_init 57 = .ok (.multianewarray 33 2, 4) := by decide +kernel
theorem dX10_init_61 : decode cX10_init 61 = .ok (.putfield 35, 3) := by decide +kernel
theorem dX10_init_64 : decode cX10_init 64 = .ok (.aload_n 0, 1) := by decide +kernel
theorem dX10_init_65 : decode cX10_init 65 = .ok (.aload_n 0, 1) := by decide +kernel
theorem dX10_init_66 : decode cX10_init 66 = .ok (.getfield 20, 3) := by decide +kernel
theorem dX10_init_69 : decode cX10_init 69 = .ok (.newarray .boolean, 2) := by decide +kernel
theorem dX10_init_71 : decode cX10_init 71 = .ok (.putfield 38, 3) := by decide +kernel
theorem dX10_init_74 : decode cX10_init 74 = .ok (.aload_n 0, 1) := by decide +kernel
theorem dX10_init_75 : decode cX10_init 75 = .ok (.aload_n 0, 1) := by decide +kernel
theorem dX10_init_76 : decode cX10_init 76 = .ok (.getfield 20, 3) := by decide +kernel
theorem dX10_init_79 : decode cX10_init 79 = .ok (.newarray .int, 2) := by decide +kernel
theorem dX10_init_81 : decode cX10_init 81 = .ok (.putfield 42, 3) := by decide +kernel
theorem dX10_init_84 : decode cX10_init 84 = .ok (.iconst 0, 1) := by decide +kernel
theorem dX10_init_85 : decode cX10_init 85 = .ok (.istore_n 2, 1) := by decide +kernel
theorem dX10_init_86 : decode cX10_init 86 = .ok (.iload_n 2, 1) := by decide +kernel
theorem dX10_init_87 : decode cX10_init 87 = .ok (.aload_n 0, 1) := by decide +kernel
theorem dX10_init_88 : decode cX10_init 88 = .ok (.getfield 20, 3) := by decide +kernel
theorem dX10_init_91 : decode cX10_init 91 = .ok (.if_icmp .ge 75, 3) := by decide +kernel
theorem dX10_init_94 : decode cX10_init 94 = .ok (.aload_n 0, 1) := by decide +kernel
theorem dX10_init_95 : decode cX10_init 95 = .ok (.getfield 38, 3) := by decide +kernel
theorem dX10_init_98 : decode cX10_init 98 = .ok (.iload_n 2, 1) := by decide +kernel
theorem dX10_init_99 : decode cX10_init 99 = .ok (.aload_n 1, 1) := by decide +kernel
theorem dX10_init_100 : decode cX10_init 100 = .ok (.iload_n 2, 1) := by decide +kernel
theorem dX10_init_101 : decode cX10_init 101 = .ok (.invokevirtual 46, 3) := by decide +kernel
theorem dX10_init_104 : decode cX10_init 104 = .ok (.bastore, 1) := by decide +kernel
theorem dX10_init_105 : decode cX10_init 105 = .ok (.aload_n 0, 1) := by decide +kernel
theorem dX10_init_106 : decode cX10_init 106 = .ok (.getfield 42, 3) := by decide +kernel
theorem dX10_init_109 : decode cX10_init 109 = .ok (.iload_n 2, 1) := by decide +kernel
theorem dX10_init_110 : decode cX10_init 110 = .ok (.aload_n 1, 1) := by decide +kernel
theorem dX10_init_111 : decode cX10_init 111 = .ok (.iload_n 2, 1) := by decide +kernel
theorem dX10_init_112 : decode cX10_init 112 = .ok (.invokevirtual 50, 3) := by decide +kernel
theorem dX10_init_115 : decode cX10_init 115 = .ok (.iastore, 1) := by decide +kernel
theorem dX10_init_116 : decode cX10_init 116 = .ok (.iconst 0, 1) := by decide +kernel
theorem dX10_init_117 : decode cX10_init 117 = .ok (.istore_n 3, 1) := by decide +kernel
theorem dX10_init_118 : decode cX10_init 118 = .ok (.iload_n 3, 1) := by decide +kernel
theorem dX10_init_119 : decode cX10_init 119 = .ok (.aload_n 0, 1) := by decide +kernel
theorem dX10_init_120 : decode cX10_init 120 = .ok (.getfield 20, 3) := by decide +kernel
theorem dX10_init_123 : decode cX10_init 123 = .ok (.if_icmp .ge 37, 3) := by decide +kernel
theorem dX10_init_126 : decode cX10_init 126 = .ok (.aload_n 0, 1) := by decide +kernel
theorem dX10_init_127 : decode cX10_init 127 = .ok (.getfield 30, 3) := by decide +kernel
theorem dX10_init_130 : decode cX10_init 130 = .ok (.iload_n 2, 1) := by decide +kernel
theorem dX10_init_131 : decode cX10_init 131 = .ok (.aaload, 1) := by decide +kernel
theorem dX10_init_132 : decode cX10_init 132 = .ok (.iload_n 3, 1) := by decide +kernel
theorem dX10_init_133 : decode cX10_init 133 = .ok (.aload_n 1, 1) := by decide +kernel
theorem dX10_init_134 : decode cX10_init 134 = .ok (.iload_n 2, 1) := by decide +kernel
theorem dX10_init_135 : decode cX10_init 135 = .ok (.iload_n 3, 1) := by decide +kernel
theorem dX10_init_136 : decode cX10_init 136 = .ok (.invokevirtual 54, 3) := by decide +kernel
theorem dX10_init_139 : decode cX10_init 139 = .ok (.iastore, 1) := by decide +kernel
theorem dX10_init_140 : decode cX10_init 140 = .ok (.aload_n 0, 1) := by decide +kernel
theorem dX10_init_141 : decode cX10_init 141 = .ok (.getfield 35, 3) := by decide +kernel
theorem dX10_init_144 : decode cX10_init 144 = .ok (.iload_n 2, 1) := by decide +kernel
theorem dX10_init_145 : decode cX10_init 145 = .ok (.aaload, 1) := by decide +kernel
theorem dX10_init_146 : decode cX10_init 146 = .ok (.iload_n 3, 1) := by decide +kernel
theorem dX10_init_147 : decode cX10_init 147 = .ok (.aload_n 1, 1) := by decide +kernel
theorem dX10_init_148 : decode cX10_init 148 = .ok (.iload_n 2, 1) := by decide +kernel
theorem dX10_init_149 : decode cX10_init 149 = .ok (.iload_n 3, 1) := by decide +kernel
theorem dX10_init_150 : decode cX10_init 150 = .ok (.invokevirtual 58, 3) := by decide +kernel
theorem dX10_init_153 : decode cX10_init 153 = .ok (.bastore, 1) := by decide +kernel
theorem dX10_init_154 : decode cX10_init 154 = .ok (.iinc 3 1, 3) := by decide +kernel
theorem dX10_init_157 : decode cX10_init 157 = .ok (.goto (-39), 3) := by decide +kernel
theorem dX10_init_160 : decode cX10_init 160 = .ok (.iinc 2 1, 3) := by decide +kernel
theorem dX10_init_163 : decode cX10_init 163 = .ok (.goto (-77), 3) := by decide +kernel
theorem dX10_init_166 : decode cX10_init 166 = .ok (.aload_n 0, 1) := by decide +kernel
theorem dX10_init_167 : decode cX10_init 167 = .ok (.aload_n 0, 1) := by decide +kernel
theorem dX10_init_168 : decode cX10_init 168 = .ok (.getfield 27, 3) := by decide +kernel
theorem dX10_init_171 : decode cX10_init 171 = .ok (.anewarray 62, 3) := by decide +kernel
theorem dX10_init_174 : decode cX10_init 174 = .ok (.putfield 63, 3) := by decide +kernel
theorem dX10_init_177 : decode cX10_init 177 = .ok (.aload_n 0, 1) := by decide +kernel
theorem dX10_init_178 : decode cX10_init 178 = .ok (.aload_n 0, 1) := by decide +kernel
theorem dX10_init_179 : decode cX10_init 179 = .ok (.getfield 27, 3) := by decide +kernel
theorem dX10_init_182 : decode cX10_init 182 = .ok (.newarray .int, 2) := by decide +kernel
theorem dX10_init_184 : decode cX10_init 184 = .ok (.putfield 66, 3) := by decide +kernel
theorem dX10_init_187 : decode cX10_init 187 = .ok (.aload_n 0, 1) := by decide +kernel
theorem dX10_init_188 : decode cX10_init 188 = .ok (.aload_n 0, 1) := by decide +kernel
theorem dX10_init_189 : decode cX10_init 189 = .ok (.getfield 27, 3) := by decide +kernel
theorem dX10_init_192 : decode cX10_init 192 = .ok (.newarray .int, 2) := by decide +kernel
theorem dX10_init_194 : decode cX10_init 194 = .ok (.putfield 69, 3) := by decide +kernel
theorem dX10_init_197 : decode cX10_init 197 = .ok (.aload_n 0, 1) := by decide +kernel
theorem dX10_init_198 : decode cX10_init 198 = .ok (.aload_n 0, 1) := by decide +kernel
theorem dX10_init_199 : decode cX10_init 199 = .ok (.getfield 27, 3) := by decide +kernel
theorem dX10_init_202 : decode cX10_init 202 = .ok (.newarray .int, 2) := by decide +kernel
theorem dX10_init_204 : decode cX10_init 204 = .ok (.putfield 72, 3) := by decide +kernel
theorem dX10_init_207 : decode cX10_init 207 = .ok (.aload_n 0, 1) := by decide +kernel
theorem dX10_init_208 : decode cX10_init 208 = .ok (.aload_n 0, 1) := by decide +kernel
theorem dX10_init_209 : decode cX10_init 209 = .ok (.getfield 27, 3) := by decide +kernel
theorem dX10_init_212 : decode cX10_init 212 = .ok (.newarray .int, 2) := by decide +kernel
theorem dX10_init_214 : decode cX10_init 214 = .ok (.putfield 75, 3) := by decide +kernel
theorem dX10_init_217 : decode cX10_init 217 = .ok (.aload_n 0, 1) := by decide +kernel
theorem dX10_init_218 : decode cX10_init 218 = .ok (.aload_n 0, 1) := by decide +kernel
theorem dX10_init_219 : decode cX10_init 219 = .ok (.getfield 27, 3) := by decide +kernel
theorem dX10_init_222 : decode cX10_init 222 = .ok (.newarray .int, 2) := by decide +kernel
theorem dX10_init_224 : decode cX10_init 224 = .ok (.putfield 78, 3) := by decide +kernel
theorem dX10_init_227 : decode cX10_init 227 = .ok (.aload_n 0, 1) := by decide +kernel
theorem dX10_init_228 : decode cX10_init 228 = .ok (.aload_n 0, 1) := by decide +kernel
theorem dX10_init_229 : decode cX10_init 229 = .ok (.getfield 27, 3) := by decide +kernel
theorem dX10_init_232 : decode cX10_init 232 = .ok (.newarray .int, 2) := by decide +kernel
theorem dX10_init_234 : decode cX10_init 234 = .ok (.putfield 81, 3) := by decide +kernel
theorem dX10_init_237 : decode cX10_init 237 = .ok (.aload_n 0, 1) := by decide +kernel
theorem dX10_init_238 : decode cX10_init 238 = .ok (.aload_n 0, 1) := by decide +kernel
theorem dX10_init_239 : decode cX10_init 239 = .ok (.getfield 27, 3) := by decide +kernel
theorem dX10_init_242 : decode cX10_init 242 = .ok (.newarray .int, 2) := by decide +kernel
theorem dX10_init_244 : decode cX10_init 244 = .ok (.putfield 84, 3) := by decide +kernel
theorem dX10_init_247 : decode cX10_init 247 = .ok (.iconst 0, 1) := by decide +kernel
theorem dX10_init_248 : decode cX10_init 248 = .ok (.istore_n 2, 1) := by decide +kernel
theorem dX10_init_249 : decode cX10_init 249 = .ok (.iload_n 2, 1) := by decide +kernel
theorem dX10_init_250 : decode cX10_init 250 = .ok (.aload_n 0, 1) := by decide +kernel
theorem dX10_init_251 : decode cX10_init 251 = .ok (.getfield 27, 3) := by decide +kernel
theorem dX10_init_254 : decode cX10_init 254 = .ok (.if_icmp .ge 73, 3) := by decide +kernel
theorem dX10_init_257 : decode cX10_init 257 = .ok (.aload_n 0, 1) := by decide +kernel
theorem dX10_init_258 : decode cX10_init 258 = .ok (.getfield 63, 3) := by decide +kernel
theorem dX10_init_261 : decode cX10_init 261 = .ok (.iload_n 2, 1) := by decide +kernel
theorem dX10_init_262 : decode cX10_init 262 = .ok (.aload_n 1, 1) := by decide +kernel
theorem dX10_init_263 : decode cX10_init 263 = .ok (.iload_n 2, 1) := by decide +kernel
theorem dX10_init_264 : decode cX10_init 264 = .ok (.invokevirtual 87, 3) := by decide +kernel
theorem dX10_init_267 : decode cX10_init 267 = .ok (.newarray .int, 2) := by decide +kernel
theorem dX10_init_269 : decode cX10_init 269 = .ok (.aastore, 1) := by decide +kernel
theorem dX10_init_270 : decode cX10_init 270 = .ok (.iconst 0, 1) := by decide +kernel
theorem dX10_init_271 : decode cX10_init 271 = .ok (.istore_n 3, 1) := by decide +kernel
theorem dX10_init_272 : decode cX10_init 272 = .ok (.iload_n 3, 1) := by decide +kernel
theorem dX10_init_273 : decode cX10_init 273 = .ok (.aload_n 0, 1) := by decide +kernel
theorem dX10_init_274 : decode cX10_init 274 = .ok (.getfield 63, 3) := by decide +kernel
theorem dX10_init_277 : decode cX10_init 277 = .ok (.iload_n 2, 1) := by decide +kernel
theorem dX10_init_278 : decode cX10_init 278 = .ok (.aaload, 1) := by decide +kernel
theorem dX10_init_279 : decode cX10_init 279 = .ok (.arraylength, 1) := by decide +kernel
theorem dX10_init_280 : decode cX10_init 280 = .ok (.if_icmp .ge 23, 3) := by decide +kernel
theorem dX10_init_283 : decode cX10_init 283 = .ok (.aload_n 0, 1) := by decide +kernel
theorem dX10_init_284 : decode cX10_init 284 = .ok (.getfield 63, 3) := by decide +kernel
theorem dX10_init_287 : decode cX10_init 287 = .ok (.iload_n 2, 1) := by decide +kernel
theorem dX10_init_288 : decode cX10_init 288 = .ok (.aaload, 1) := by decide +kernel
theorem dX10_init_289 : decode cX10_init 289 = .ok (.iload_n 3, 1) := by decide +kernel
theorem dX10_init_290 : decode cX10_init 290 = .ok (.aload_n 1, 1) := by decide +kernel
theorem dX10_init_291 : decode cX10_init 291 = .ok (.iload_n 2, 1) := by decide +kernel
theorem dX10_init_292 : decode cX10_init 292 = .ok (.iload_n 3, 1) := by decide +kernel
theorem dX10_init_293 : decode cX10_init 293 = .ok (.invokevirtual 90, 3) := by decide +kernel
theorem dX10_init_296 : decode cX10_init 296 = .ok (.iastore, 1) := by decide +kernel
theorem dX10_init_297 : decode cX10_init 297 = .ok (.iinc 3 1, 3) := by decide +kernel
theorem dX10_init_300 : decode cX10_init 300 = .ok (.goto (-28), 3) := by decide +kernel
theorem dX10_init_303 : decode cX10_init 303 = .ok (.aload_n 0, 1) := by decide +kernel
theorem dX10_init_304 : decode cX10_init 304 = .ok (.getfield 66, 3) := by decide +kernel
theorem dX10_init_307 : decode cX10_init 307 = .ok (.iload_n 2, 1) := by decide +kernel
theorem dX10_init_308 : decode cX10_init 308 = .ok (.aload_n 1, 1) := by decide +kernel
theorem dX10_init_309 : decode cX10_init 309 = .ok (.iload_n 2, 1) := by decide +kernel
theorem dX10_init_310 : decode cX10_init 310 = .ok (.invokevirtual 93, 3) := by decide +kernel
theorem dX10_init_313 : decode cX10_init 313 = .ok (.iastore, 1) := by decide +kernel
theorem dX10_init_314 : decode cX10_init 314 = .ok (.aload_n 0, 1) := by decide +kernel
theorem dX10_init_315 : decode cX10_init 315 = .ok (.getfield 72, 3) := by decide +kernel
theorem dX10_init_318 : decode cX10_init 318 = .ok (.iload_n 2, 1) := by decide +kernel
theorem dX10_init_319 : decode cX10_init 319 = .ok (.iconst 1, 1) := by decide +kernel
theorem dX10_init_320 : decode cX10_init 320 = .ok (.iastore, 1) := by decide +kernel
theorem dX10_init_321 : decode cX10_init 321 = .ok (.iinc 2 1, 3) := by decide +kernel
theorem dX10_init_324 : decode cX10_init 324 = .ok (.goto (-75), 3) := by decide +kernel
theorem dX10_init_327 : decode cX10_init 327 = .ok (.iconst 0, 1) := by decide +kernel
theorem dX10_init_328 : decode cX10_init 328 = .ok (.istore_n 2, 1) := by decide +kernel
theorem dX10_init_329 : decode cX10_init 329 = .ok (.iload_n 2, 1) := by decide +kernel
theorem dX10_init_330 : decode cX10_init 330 = .ok (.aload_n 1, 1) := by decide +kernel
theorem dX10_init_331 : decode cX10_init 331 = .ok (.invokevirtual 95, 3) := by decide +kernel
theorem dX10_init_334 : decode cX10_init 334 = .ok (.if_icmp .ge 28, 3) := by decide +kernel
theorem dX10_init_337 : decode cX10_init 337 = .ok (.aload_n 0, 1) := by decide +kernel
theorem dX10_init_338 : decode cX10_init 338 = .ok (.aload_n 1, 1) := by decide +kernel
theorem dX10_init_339 : decode cX10_init 339 = .ok (.iload_n 2, 1) := by decide +kernel
theorem dX10_init_340 : decode cX10_init 340 = .ok (.invokevirtual 98, 3) := by decide +kernel
theorem dX10_init_343 : decode cX10_init 343 = .ok (.aload_n 1, 1) := by decide +kernel
theorem dX10_init_344 : decode cX10_init 344 = .ok (.iload_n 2, 1) := by decide +kernel
theorem dX10_init_345 : decode cX10_init 345 = .ok (.invokevirtual 101, 3) := by decide +kernel
theorem dX10_init_348 : decode cX10_init 348 = .ok (.aload_n 1, 1) := by decide +kernel
theorem dX10_init_349 : decode cX10_init 349 = .ok (.iload_n 2, 1) := by decide +kernel
theorem dX10_init_350 : decode cX10_init 350 = .ok (.invokevirtual 104, 3) := by decide +kernel
theorem dX10_init_353 : decode cX10_init 353 = .ok (.invokevirtual 107, 3) := by decide +kernel
theorem dX10_init_356 : decode cX10_init 356 = .ok (.iinc 2 1, 3) := by decide +kernel
theorem dX10_init_359 : decode cX10_init 359 = .ok (.goto (-30), 3) := by decide +kernel
theorem dX10_init_362 : decode cX10_init 362 = .ok (.return_, 1) := by decide +kernel
theorem dX10_add_0 : decode cX10_add 0 = .ok (.aload_n 0, 1) := by decide +kernel
theorem dX10_add_1 : decode cX10_add 1 = .ok (.getfield 9, 3) := by decide +kernel
theorem dX10_add_4 : decode cX10_add 4 = .ok (.aload_n 0, 1) := by decide +kernel
theorem dX10_add_5 : decode cX10_add 5 = .ok (.getfield 111, 3) := by decide +kernel
theorem dX10_add_8 : decode cX10_add 8 = .ok (.bipush 9, 2) := by decide +kernel
theorem dX10_add_10 : decode cX10_add 10 = .ok (.newarray .int, 2) := by decide +kernel
theorem dX10_add_12 : decode cX10_add 12 = .ok (.dup, 1) := by decide +kernel
theorem dX10_add_13 : decode cX10_add 13 = .ok (.iconst 0, 1) := by decide +kernel
theorem dX10_add_14 : decode cX10_add 14 = .ok (.iload_n 1, 1) := by decide +kernel
theorem dX10_add_15 : decode cX10_add 15 = .ok (.iastore, 1) := by decide +kernel
theorem dX10_add_16 : decode cX10_add 16 = .ok (.dup, 1) := by decide +kernel
theorem dX10_add_17 : decode cX10_add 17 = .ok (.iconst 1, 1) := by decide +kernel
theorem dX10_add_18 : decode cX10_add 18 = .ok (.iload_n 2, 1) := by decide +kernel
theorem dX10_add_19 : decode cX10_add 19 = .ok (.iastore, 1) := by decide +kernel
theorem dX10_add_20 : decode cX10_add 20 = .ok (.dup, 1) := by decide +kernel
theorem dX10_add_21 : decode cX10_add 21 = .ok (.iconst 2, 1) := by decide +kernel
theorem dX10_add_22 : decode cX10_add 22 = .ok (.iload_n 3, 1) := by decide +kernel
theorem dX10_add_23 : decode cX10_add 23 = .ok (.iastore, 1) := by decide +kernel
theorem dX10_add_24 : decode cX10_add 24 = .ok (.dup, 1) := by decide +kernel
theorem dX10_add_25 : decode cX10_add 25 = .ok (.iconst 3, 1) := by decide +kernel
theorem dX10_add_26 : decode cX10_add 26 = .ok (.iload_n 1, 1) := by decide +kernel
theorem dX10_add_27 : decode cX10_add 27 = .ok (.iastore, 1) := by decide +kernel
theorem dX10_add_28 : decode cX10_add 28 = .ok (.dup, 1) := by decide +kernel
theorem dX10_add_29 : decode cX10_add 29 = .ok (.iconst 4, 1) := by decide +kernel
theorem dX10_add_30 : decode cX10_add 30 = .ok (.iconst (-1), 1) := by decide +kernel
theorem dX10_add_31 : decode cX10_add 31 = .ok (.iastore, 1) := by decide +kernel
theorem dX10_add_32 : decode cX10_add 32 = .ok (.dup, 1) := by decide +kernel
theorem dX10_add_33 : decode cX10_add 33 = .ok (.iconst 5, 1) := by decide +kernel
theorem dX10_add_34 : decode cX10_add 34 = .ok (.iconst (-1), 1) := by decide +kernel
theorem dX10_add_35 : decode cX10_add 35 = .ok (.iastore, 1) := by decide +kernel
theorem dX10_add_36 : decode cX10_add 36 = .ok (.dup, 1) := by decide +kernel
theorem dX10_add_37 : decode cX10_add 37 = .ok (.bipush 6, 2) := by decide +kernel
theorem dX10_add_39 : decode cX10_add 39 = .ok (.iconst 0, 1) := by decide +kernel
theorem dX10_add_40 : decode cX10_add 40 = .ok (.iastore, 1) := by decide +kernel
theorem dX10_add_41 : decode cX10_add 41 = .ok (.dup, 1) := by decide +kernel
theorem dX10_add_42 : decode cX10_add 42 = .ok (.bipush 7, 2) := by decide +kernel
theorem dX10_add_44 : decode cX10_add 44 = .ok (.iconst 0, 1) := by decide +kernel
theorem dX10_add_45 : decode cX10_add 45 = .ok (.iastore, 1) := by decide +kernel
theorem dX10_add_46 : decode cX10_add 46 = .ok (.dup, 1) := by decide +kernel
theorem dX10_add_47 : decode cX10_add 47 = .ok (.bipush 8, 2) := by decide +kernel
theorem dX10_add_49 : decode cX10_add 49 = .ok (.iconst (-1), 1) := by decide +kernel
theorem dX10_add_50 : decode cX10_add 50 = .ok (.iastore, 1) := by decide +kernel
theorem dX10_add_51 : decode cX10_add 51 = .ok (.aastore, 1) := by decide +kernel
theorem dX10_add_52 : decode cX10_add 52 = .ok (.aload_n 0, 1) := by decide +kernel
theorem dX10_add_53 : decode cX10_add 53 = .ok (.dup, 1) := by decide +kernel
theorem dX10_add_54 : decode cX10_add 54 = .ok (.getfield 111, 3) := by decide +kernel
theorem dX10_add_57 : decode cX10_add 57 = .ok (.iconst 1, 1) := by decide +kernel
theorem dX10_add_58 : decode cX10_add 58 = .ok (.iadd, 1) := by decide +kernel
theorem dX10_add_59 : decode cX10_add 59 = .ok (.putfield 111, 3) := by decide +kernel
theorem dX10_add_62 : decode cX10_add 62 = .ok (.return_, 1) := by decide +kernel
theorem dX10_follow_0 : decode cX10_follow 0 = .ok (.iload_n 2, 1) := by decide +kernel
theorem dX10_follow_1 : decode cX10_follow 1 = .ok (.bipush 16, 2) := by decide +kernel
theorem dX10_follow_3 : decode cX10_follow 3 = .ok (.idiv, 1) := by decide +kernel
theorem dX10_follow_4 : decode cX10_follow 4 = .ok (.istore_n 3, 1) := by decide +kernel
theorem dX10_follow_5 : decode cX10_follow 5 = .ok (.iload_n 3, 1) := by decide +kernel
theorem dX10_follow_6 : decode cX10_follow 6 = .ok (.aload_n 0, 1) := by decide +kernel
theorem dX10_follow_7 : decode cX10_follow 7 = .ok (.getfield 20, 3) := by decide +kernel
theorem dX10_follow_10 : decode cX10_follow 10 = .ok (.irem, 1) := by decide +kernel
theorem dX10_follow_11 : decode cX10_follow 11 = .ok (.istore 4, 2) := by decide +kernel
theorem dX10_follow_13 : decode cX10_follow 13 = .ok (.iload_n 3, 1) := by decide +kernel
theorem dX10_follow_14 : decode cX10_follow 14 = .ok (.bipush 64, 2) := by decide +kernel
theorem dX10_follow_16 : decode cX10_follow 16 = .ok (.idiv, 1) := by decide +kernel
theorem dX10_follow_17 : decode cX10_follow 17 = .ok (.istore 5, 2) := by decide +kernel
theorem dX10_follow_19 : decode cX10_follow 19 = .ok (.iload_n 2, 1) := by decide +kernel
theorem dX10_follow_20 : decode cX10_follow 20 = .ok (.bipush 16, 2) := by decide +kernel
theorem dX10_follow_22 : decode cX10_follow 22 = .ok (.irem, 1) := by decide +kernel
theorem dX10_follow_23 : decode cX10_follow 23 = .ok (.istore 6, 2) := by decide +kernel
theorem dX10_follow_25 : decode cX10_follow 25 = .ok (.iload 6, 2) := by decide +kernel
theorem dX10_follow_27 : decode cX10_follow 27 = .ok (.iconst 2, 1) := by decide +kernel
theorem dX10_follow_28 : decode cX10_follow 28 = .ok (.if_icmp .ge 37, 3) := by decide +kernel
theorem dX10_follow_31 : decode cX10_follow 31 = .ok (.aload_n 0, 1) := by decide +kernel
theorem dX10_follow_32 : decode cX10_follow 32 = .ok (.iload 4, 2) := by decide +kernel
theorem dX10_follow_34 : decode cX10_follow 34 = .ok (.iload 4, 2) := by decide +kernel
theorem dX10_follow_36 : decode cX10_follow 36 = .ok (.iconst 1, 1) := by decide +kernel
theorem dX10_follow_37 : decode cX10_follow 37 = .ok (.iadd, 1) := by decide +kernel
theorem dX10_follow_38 : decode cX10_follow 38 = .ok (.iload_n 3, 1) := by decide +kernel
theorem dX10_follow_39 : decode cX10_follow 39 = .ok (.bipush 8, 2) := by decide +kernel
theorem dX10_follow_41 : decode cX10_follow 41 = .ok (.idiv, 1) := by decide +kernel
theorem dX10_follow_42 : decode cX10_follow 42 = .ok (.aload_n 0, 1) := by decide +kernel
theorem dX10_follow_43 : decode cX10_follow 43 = .ok (.getfield 20, 3) := by decide +kernel
theorem dX10_follow_46 : decode cX10_follow 46 = .ok (.iconst 1, 1) := by decide +kernel
theorem dX10_follow_47 : decode cX10_follow 47 = .ok (.isub, 1) := by decide +kernel
theorem dX10_follow_48 : decode cX10_follow 48 = .ok (.irem, 1) := by decide +kernel
theorem dX10_follow_49 : decode cX10_follow 49 = .ok (.iadd, 1) := by decide +kernel
theorem dX10_follow_50 : decode cX10_follow 50 = .ok (.aload_n 0, 1) := by decide +kernel
theorem dX10_follow_51 : decode cX10_follow 51 = .ok (.getfield 20, 3) := by decide +kernel
theorem dX10_follow_54 : decode cX10_follow 54 = .ok (.irem, 1) := by decide +kernel
theorem dX10_follow_55 : decode cX10_follow 55 = .ok (.iconst 1, 1) := by decide +kernel
theorem dX10_follow_56 : decode cX10_follow 56 = .ok (.iload 5, 2) := by decide +kernel
theorem dX10_follow_58 : decode cX10_follow 58 = .ok (.bipush 9, 2) := by decide +kernel
theorem dX10_follow_60 : decode cX10_follow 60 = .ok (.irem, 1) := by decide +kernel
theorem dX10_follow_61 : decode cX10_follow 61 = .ok (.iadd, 1) := by decide +kernel
theorem dX10_follow_62 : decode cX10_follow 62 = .ok (.invokevirtual 107, 3) := by decide +kernel
theorem dX10_follow_65 : decode cX10_follow 65 = .ok (.iload 6, 2) := by decide +kernel
theorem dX10_follow_67 : decode cX10_follow 67 = .ok (.iconst 2, 1) := by decide +kernel
theorem dX10_follow_68 : decode cX10_follow 68 = .ok (.if_icmp .ne 23, 3) := by decide +kernel
theorem dX10_follow_71 : decode cX10_follow 71 = .ok (.aload_n 0, 1) := by decide +kernel
theorem dX10_follow_72 : decode cX10_follow 72 = .ok (.getfield 9, 3) := by decide +kernel
theorem dX10_follow_75 : decode cX10_follow 75 = .ok (.iload_n 3, 1) := by decide +kernel
theorem dX10_follow_76 : decode cX10_follow 76 = .ok (.aload_n 0, 1) := by decide +kernel
theorem dX10_follow_77 : decode cX10_follow 77 = .ok (.getfield 111, 3) := by decide +kernel
theorem dX10_follow_80 : decode cX10_follow 80 = .ok (.irem, 1) := by decide +kernel
theorem dX10_follow_81 : decode cX10_follow 81 = .ok (.aaload, 1) := by decide +kernel
theorem dX10_follow_82 : decode cX10_follow 82 = .ok (.iconst 2, 1) := by decide +kernel
theorem dX10_follow_83 : decode cX10_follow 83 = .ok (.iconst 1, 1) := by decide +kernel
theorem dX10_follow_84 : decode cX10_follow 84 = .ok (.iload 5, 2) := by decide +kernel
theorem dX10_follow_86 : decode cX10_follow 86 = .ok (.bipush 9, 2) := by decide +kernel
theorem dX10_follow_88 : decode cX10_follow 88 = .ok (.irem, 1) := by decide +kernel
theorem dX10_follow_89 : decode cX10_follow 89 = .ok (.iadd, 1) := by decide +kernel
theorem dX10_follow_90 : decode cX10_follow 90 = .ok (.iastore, 1) := by decide +kernel
theorem dX10_follow_91 : decode cX10_follow 91 = .ok (.iload 6, 2) := by decide +kernel
theorem dX10_follow_93 : decode cX10_follow 93 = .ok (.iconst 3, 1) := by decide +kernel
theorem dX10_follow_94 : decode cX10_follow 94 = .ok (.if_icmp .ne 15, 3) := by decide +kernel
theorem dX10_follow_97 : decode cX10_follow 97 = .ok (.aload_n 0, 1) := by decide +kernel
theorem dX10_follow_98 : decode cX10_follow 98 = .ok (.getfield 42, 3) := by decide +kernel
theorem dX10_follow_101 : decode cX10_follow 101 = .ok (.iload 4, 2) := by decide +kernel
theorem dX10_follow_103 : decode cX10_follow 103 = .ok (.iload 5, 2) := by decide +kernel
theorem dX10_follow_105 : decode cX10_follow 105 = .ok (.bipush 6, 2) := by decide +kernel
theorem dX10_follow_107 : decode cX10_follow 107 = .ok (.irem, 1) := by decide +kernel
theorem dX10_follow_108 : decode cX10_follow 108 = .ok (.iastore, 1) := by decide +kernel
theorem dX10_follow_109 : decode cX10_follow 109 = .ok (.iload 6, 2) := by decide +kernel
theorem dX10_follow_111 : decode cX10_follow 111 = .ok (.iconst 5, 1) := by decide +kernel
theorem dX10_follow_112 : decode cX10_follow 112 = .ok (.if_icmp .eq 10, 3) := by decide +kernel
theorem dX10_follow_115 : decode cX10_follow 115 = .ok (.iload 6, 2) := by decide +kernel
theorem dX10_follow_117 : decode cX10_follow 117 = .ok (.bipush 6, 2) := by decide +kernel
theorem dX10_follow_119 : decode cX10_follow 119 = .ok (.if_icmp .ne 61, 3) := by decide +kernel
theorem dX10_follow_122 : decode cX10_follow 122 = .ok (.aload_n 0, 1) := by decide +kernel
theorem dX10_follow_123 : decode cX10_follow 123 = .ok (.getfield 35, 3) := by decide +kernel
theorem dX10_follow_126 : decode cX10_follow 126 = .ok (.iload 4, 2) := by decide +kernel
theorem dX10_follow_128 : decode cX10_follow 128 = .ok (.aaload, 1) := by decide +kernel
theorem dX10_follow_129 : decode cX10_follow 129 = .ok (.iload 4, 2) := by decide +kernel
theorem dX10_follow_131 : decode cX10_follow 131 = .ok (.iconst 1, 1) := by decide +kernel
theorem dX10_follow_132 : decode cX10_follow 132 = .ok (.iadd, 1) := by decide +kernel
theorem dX10_follow_133 : decode cX10_follow 133 = .ok (.aload_n 0, 1) := by decide +kernel
theorem dX10_follow_134 : decode cX10_follow 134 = .ok (.getfield 20, 3) := by decide +kernel
theorem dX10_follow_137 : decode cX10_follow 137 = .ok (.irem, 1) := by decide +kernel
theorem dX10_follow_138 : decode cX10_follow 138 = .ok (.iload 5, 2) := by decide +kernel
theorem dX10_follow_140 : decode cX10_follow 140 = .ok (.iconst 3, 1) := by decide +kernel
theorem dX10_follow_141 : decode cX10_follow 141 = .ok (.irem, 1) := by decide +kernel
theorem dX10_follow_142 : decode cX10_follow 142 = .ok (.ifCond .le 7, 3) := by decide +kernel
theorem dX10_follow_145 : decode cX10_follow 145 = .ok (.iconst 1, 1) := by decide +kernel
theorem dX10_follow_146 : decode cX10_follow 146 = .ok (.goto 4, 3) := by decide +kernel
theorem dX10_follow_149 : decode cX10_follow 149 = .ok (.iconst 0, 1) := by decide +kernel
theorem dX10_follow_150 : decode cX10_follow 150 = .ok (.bastore, 1) := by decide +kernel
theorem dX10_follow_151 : decode cX10_follow 151 = .ok (.aload_n 0, 1) := by decide +kernel
theorem dX10_follow_152 : decode cX10_follow 152 = .ok (.getfield 35, 3) := by decide +kernel
theorem dX10_follow_155 : decode cX10_follow 155 = .ok (.iload 4, 2) := by decide +kernel
theorem dX10_follow_157 : decode cX10_follow 157 = .ok (.iconst 1, 1) := by decide +kernel
theorem dX10_follow_158 : decode cX10_follow 158 = .ok (.iadd, 1) := by decide +kernel
theorem dX10_follow_159 : decode cX10_follow 159 = .ok (.aload_n 0, 1) := by decide +kernel
theorem dX10_follow_160 : decode cX10_follow 160 = .ok (.getfield 20, 3) := by decide +kernel
theorem dX10_follow_163 : decode cX10_follow 163 = .ok (.irem, 1) := by decide +kernel
theorem dX10_follow_164 : decode cX10_follow 164 = .ok (.aaload, 1) := by decide +kernel
theorem dX10_follow_165 : decode cX10_follow 165 = .ok (.iload 4, 2) := by decide +kernel
theorem dX10_follow_167 : decode cX10_follow 167 = .ok (.iload 5, 2) := by decide +kernel
theorem dX10_follow_169 : decode cX10_follow 169 = .ok (.iconst 3, 1) := by decide +kernel
theorem dX10_follow_170 : decode cX10_follow 170 = .ok (.irem, 1) := by decide +kernel
theorem dX10_follow_171 : decode cX10_follow 171 = .ok (.ifCond .le 7, 3) := by decide +kernel
theorem dX10_follow_174 : decode cX10_follow 174 = .ok (.iconst 1, 1) := by decide +kernel
theorem dX10_follow_175 : decode cX10_follow 175 = .ok (.goto 4, 3) := by decide +kernel
theorem dX10_follow_178 : decode cX10_follow 178 = .ok (.iconst 0, 1) := by decide +kernel
theorem dX10_follow_179 : decode cX10_follow 179 = .ok (.bastore, 1) := by decide +kernel
theorem dX10_follow_180 : decode cX10_follow 180 = .ok (.iload 6, 2) := by decide +kernel
theorem dX10_follow_182 : decode cX10_follow 182 = .ok (.iconst 4, 1) := by decide +kernel
theorem dX10_follow_183 : decode cX10_follow 183 = .ok (.if_icmp .eq 4, 3) := by decide +kernel
theorem dX10_follow_186 : decode cX10_follow 186 = .ok (.return_, 1) := by decide +kernel
theorem dX10_follow_187 : decode cX10_follow 187 = .ok (.aload_n 0, 1) := by decide +kernel
theorem dX10_follow_188 : decode cX10_follow 188 = .ok (.getfield 9, 3) := by decide +kernel
theorem dX10_follow_191 : decode cX10_follow 191 = .ok (.iload_n 3, 1) := by decide +kernel
theorem dX10_follow_192 : decode cX10_follow 192 = .ok (.aload_n 0, 1) := by decide +kernel
theorem dX10_follow_193 : decode cX10_follow 193 = .ok (.getfield 111, 3) := by decide +kernel
theorem dX10_follow_196 : decode cX10_follow 196 = .ok (.irem, 1) := by decide +kernel
theorem dX10_follow_197 : decode cX10_follow 197 = .ok (.aaload, 1) := by decide +kernel
theorem dX10_follow_198 : decode cX10_follow 198 = .ok (.astore 7, 2) := by decide +kernel
theorem dX10_follow_200 : decode cX10_follow 200 = .ok (.aload 7, 2) := by decide +kernel
theorem dX10_follow_202 : decode cX10_follow 202 = .ok (.iconst 3, 1) := by decide +kernel
theorem dX10_follow_203 : decode cX10_follow 203 = .ok (.iaload, 1) := by decide +kernel
theorem dX10_follow_204 : decode cX10_follow 204 = .ok (.aload 7, 2) := by decide +kernel
theorem dX10_follow_206 : decode cX10_follow 206 = .ok (.iconst 0, 1) := by decide +kernel
theorem dX10_follow_207 : decode cX10_follow 207 = .ok (.iaload, 1) := by decide +kernel
theorem dX10_follow_208 : decode cX10_follow 208 = .ok (.if_icmp .ne 20, 3) := by decide +kernel
theorem dX10_follow_211 : decode cX10_follow 211 = .ok (.aload 7, 2) := by decide +kernel
theorem dX10_follow_213 : decode cX10_follow 213 = .ok (.iconst 3, 1) := by decide +kernel
theorem dX10_follow_214 : decode cX10_follow 214 = .ok (.iconst (-1), 1) := by decide +kernel
theorem dX10_follow_215 : decode cX10_follow 215 = .ok (.iastore, 1) := by decide +kernel
theorem dX10_follow_216 : decode cX10_follow 216 = .ok (.aload 7, 2) := by decide +kernel
theorem dX10_follow_218 : decode cX10_follow 218 = .ok (.bipush 8, 2) := by decide +kernel
theorem dX10_follow_220 : decode cX10_follow 220 = .ok (.aload_n 0, 1) := by decide +kernel
theorem dX10_follow_221 : decode cX10_follow 221 = .ok (.getfield 114, 3) := by decide +kernel
theorem dX10_follow_224 : decode cX10_follow 224 = .ok (.iastore, 1) := by decide +kernel
theorem dX10_follow_225 : decode cX10_follow 225 = .ok (.goto 25, 3) := by decide +kernel
theorem dX10_follow_228 : decode cX10_follow 228 = .ok (.aload 7, 2) := by decide +kernel
theorem dX10_follow_230 : decode cX10_follow 230 = .ok (.iconst 1, 1) := by decide +kernel
theorem dX10_follow_231 : decode cX10_follow 231 = .ok (.aload 7, 2) := by decide +kernel
theorem dX10_follow_233 : decode cX10_follow 233 = .ok (.iconst 0, 1) := by decide +kernel
theorem dX10_follow_234 : decode cX10_follow 234 = .ok (.iaload, 1) := by decide +kernel
theorem dX10_follow_235 : decode cX10_follow 235 = .ok (.iastore, 1) := by decide +kernel
theorem dX10_follow_236 : decode cX10_follow 236 = .ok (.aload 7, 2) := by decide +kernel
theorem dX10_follow_238 : decode cX10_follow 238 = .ok (.iconst 0, 1) := by decide +kernel
theorem dX10_follow_239 : decode cX10_follow 239 = .ok (.aload 7, 2) := by decide +kernel
theorem dX10_follow_241 : decode cX10_follow 241 = .ok (.iconst 3, 1) := by decide +kernel
theorem dX10_follow_242 : decode cX10_follow 242 = .ok (.iaload, 1) := by decide +kernel
theorem dX10_follow_243 : decode cX10_follow 243 = .ok (.iastore, 1) := by decide +kernel
theorem dX10_follow_244 : decode cX10_follow 244 = .ok (.aload 7, 2) := by decide +kernel
theorem dX10_follow_246 : decode cX10_follow 246 = .ok (.bipush 7, 2) := by decide +kernel
theorem dX10_follow_248 : decode cX10_follow 248 = .ok (.iconst 0, 1) := by decide +kernel
theorem dX10_follow_249 : decode cX10_follow 249 = .ok (.iastore, 1) := by decide +kernel
theorem dX10_follow_250 : decode cX10_follow 250 = .ok (.return_, 1) := by decide +kernel
theorem dX10_delivered_0 : decode cX10_delivered 0 = .ok (.iconst 0, 1) := by decide +kernel
theorem dX10_delivered_1 : decode cX10_delivered 1 = .ok (.istore_n 1, 1) := by decide +kernel
theorem dX10_delivered_2 : decode cX10_delivered 2 = .ok (.iconst 0, 1) := by decide +kernel
theorem dX10_delivered_3 : decode cX10_delivered 3 = .ok (.istore_n 2, 1) := by decide +kernel
theorem dX10_delivered_4 : decode cX10_delivered 4 = .ok (.iload_n 2, 1) := by decide +kernel
theorem dX10_delivered_5 : decode cX10_delivered 5 = .ok (.aload_n 0, 1) := by decide +kernel
theorem dX10_delivered_6 : decode cX10_delivered 6 = .ok (.getfield 111, 3) := by decide +kernel
theorem dX10_delivered_9 : decode cX10_delivered 9 = .ok (.if_icmp .ge 24, 3) := by decide +kernel
theorem dX10_delivered_12 : decode cX10_delivered 12 = .ok (.aload_n 0, 1) := by decide +kernel
theorem dX10_delivered_13 : decode cX10_delivered 13 = .ok (.getfield 9, 3) := by decide +kernel
theorem dX10_delivered_16 : decode cX10_delivered 16 = .ok (.iload_n 2, 1) := by decide +kernel
theorem dX10_delivered_17 : decode cX10_delivered 17 = .ok (.aaload, 1) := by decide +kernel
theorem dX10_delivered_18 : decode cX10_delivered 18 = .ok (.bipush 8, 2) := by decide +kernel
theorem dX10_delivered_20 : decode cX10_delivered 20 = .ok (.iaload, 1) := by decide +kernel
theorem dX10_delivered_21 : decode cX10_delivered 21 = .ok (.ifCond .lt 6, 3) := by decide +kernel
theorem dX10_delivered_24 : decode cX10_delivered 24 = .ok (.iinc 1 1, 3) := by decide +kernel
theorem dX10_delivered_27 : decode cX10_delivered 27 = .ok (.iinc 2 1, 3) := by decide +kernel
theorem dX10_delivered_30 : decode cX10_delivered 30 = .ok (.goto (-26), 3) := by decide +kernel
theorem dX10_delivered_33 : decode cX10_delivered 33 = .ok (.iload_n 1, 1) := by decide +kernel
theorem dX10_delivered_34 : decode cX10_delivered 34 = .ok (.ireturn, 1) := by decide +kernel
theorem dX10_far_0 : decode cX10_far 0 = .ok (.aload_n 0, 1) := by decide +kernel
theorem dX10_far_1 : decode cX10_far 1 = .ok (.getfield 20, 3) := by decide +kernel
theorem dX10_far_4 : decode cX10_far 4 = .ok (.newarray .int, 2) := by decide +kernel
theorem dX10_far_6 : decode cX10_far 6 = .ok (.astore_n 3, 1) := by decide +kernel
theorem dX10_far_7 : decode cX10_far 7 = .ok (.iconst 0, 1) := by decide +kernel
theorem dX10_far_8 : decode cX10_far 8 = .ok (.istore 4, 2) := by decide +kernel
theorem dX10_far_10 : decode cX10_far 10 = .ok (.iload 4, 2) := by decide +kernel
theorem dX10_far_12 : decode cX10_far 12 = .ok (.aload_n 0, 1) := by decide +kernel
theorem dX10_far_13 : decode cX10_far 13 = .ok (.getfield 20, 3) := by decide +kernel
theorem dX10_far_16 : decode cX10_far 16 = .ok (.if_icmp .ge 26, 3) := by decide +kernel
theorem dX10_far_19 : decode cX10_far 19 = .ok (.aload_n 3, 1) := by decide +kernel
theorem dX10_far_20 : decode cX10_far 20 = .ok (.iload 4, 2) := by decide +kernel
theorem dX10_far_22 : decode cX10_far 22 = .ok (.iload 4, 2) := by decide +kernel
theorem dX10_far_24 : decode cX10_far 24 = .ok (.iload_n 1, 1) := by decide +kernel
theorem dX10_far_25 : decode cX10_far 25 = .ok (.if_icmp .ne 7, 3) := by decide +kernel
theorem dX10_far_28 : decode cX10_far 28 = .ok (.iconst 0, 1) := by decide +kernel
theorem dX10_far_29 : decode cX10_far 29 = .ok (.goto 6, 3) := by decide +kernel
theorem dX10_far_32 : decode cX10_far 32 = .ok (.sipush 9999, 3) := by decide +kernel
theorem dX10_far_35 : decode cX10_far 35 = .ok (.iastore, 1) := by decide +kernel
theorem dX10_far_36 : decode cX10_far 36 = .ok (.iinc 4 1, 3) := by decide +kernel
theorem dX10_far_39 : decode cX10_far 39 = .ok (.goto (-29), 3) := by decide +kernel
theorem dX10_far_42 : decode cX10_far 42 = .ok (.iconst 0, 1) := by decide +kernel
theorem dX10_far_43 : decode cX10_far 43 = .ok (.istore 4, 2) := by decide +kernel
theorem dX10_far_45 : decode cX10_far 45 = .ok (.iload 4, 2) := by decide +kernel
theorem dX10_far_47 : decode cX10_far 47 = .ok (.aload_n 0, 1) := by decide +kernel
theorem dX10_far_48 : decode cX10_far 48 = .ok (.getfield 20, 3) := by decide +kernel
theorem dX10_far_51 : decode cX10_far 51 = .ok (.if_icmp .ge 84, 3) := by decide +kernel
theorem dX10_far_54 : decode cX10_far 54 = .ok (.iconst 0, 1) := by decide +kernel
theorem dX10_far_55 : decode cX10_far 55 = .ok (.istore 5, 2) := by decide +kernel
theorem dX10_far_57 : decode cX10_far 57 = .ok (.iload 5, 2) := by decide +kernel
theorem dX10_far_59 : decode cX10_far 59 = .ok (.aload_n 0, 1) := by decide +kernel
theorem dX10_far_60 : decode cX10_far 60 = .ok (.getfield 20, 3) := by decide +kernel
theorem dX10_far_63 : decode cX10_far 63 = .ok (.if_icmp .ge 66, 3) := by decide +kernel
theorem dX10_far_66 : decode cX10_far 66 = .ok (.iconst 0, 1) := by decide +kernel
theorem dX10_far_67 : decode cX10_far 67 = .ok (.istore 6, 2) := by decide +kernel
theorem dX10_far_69 : decode cX10_far 69 = .ok (.iload 6, 2) := by decide +kernel
theorem dX10_far_71 : decode cX10_far 71 = .ok (.aload_n 0, 1) := by decide +kernel
theorem dX10_far_72 : decode cX10_far 72 = .ok (.getfield 20, 3) := by decide +kernel
theorem dX10_far_75 : decode cX10_far 75 = .ok (.if_icmp .ge 48, 3) := by decide +kernel
theorem dX10_far_78 : decode cX10_far 78 = .ok (.aload_n 0, 1) := by decide +kernel
theorem dX10_far_79 : decode cX10_far 79 = .ok (.getfield 35, 3) := by decide +kernel
theorem dX10_far_82 : decode cX10_far 82 = .ok (.iload 5, 2) := by decide +kernel
theorem dX10_far_84 : decode cX10_far 84 = .ok (.aaload, 1) := by decide +kernel
theorem dX10_far_85 : decode cX10_far 85 = .ok (.iload 6, 2) := by decide +kernel
theorem dX10_far_87 : decode cX10_far 87 = .ok (.baload, 1) := by decide +kernel
theorem dX10_far_88 : decode cX10_far 88 = .ok (.ifCond .eq 29, 3) := by decide +kernel
theorem dX10_far_91 : decode cX10_far 91 = .ok (.aload_n 3, 1) := by decide +kernel
theorem dX10_far_92 : decode cX10_far 92 = .ok (.iload 6, 2) := by decide +kernel
theorem dX10_far_94 : decode cX10_far 94 = .ok (.aload_n 3, 1) := by decide +kernel
theorem dX10_far_95 : decode cX10_far 95 = .ok (.iload 6, 2) := by decide +kernel
theorem dX10_far_97 : decode cX10_far 97 = .ok (.iaload, 1) := by decide +kernel
theorem dX10_far_98 : decode cX10_far 98 = .ok (.aload_n 3, 1) := by decide +kernel
theorem dX10_far_99 : decode cX10_far 99 = .ok (.iload 5, 2) := by decide +kernel
theorem dX10_far_101 : decode cX10_far 101 = .ok (.iaload, 1) := by decide +kernel
theorem dX10_far_102 : decode cX10_far 102 = .ok (.aload_n 0, 1) := by decide +kernel
theorem dX10_far_103 : decode cX10_far 103 = .ok (.getfield 30, 3) := by decide +kernel
theorem dX10_far_106 : decode cX10_far 106 = .ok (.iload 5, 2) := by decide +kernel
theorem dX10_far_108 : decode cX10_far 108 = .ok (.aaload, 1) := by decide +kernel
theorem dX10_far_109 : decode cX10_far 109 = .ok (.iload 6, 2) := by decide +kernel
theorem dX10_far_111 : decode cX10_far 111 = .ok (.iaload, 1) := by decide +kernel
theorem dX10_far_112 : decode cX10_far 112 = .ok (.iadd, 1) := by decide +kernel
theorem dX10_far_113 : decode cX10_far 113 = .ok (.invokestatic 117, 3) := by decide +kernel
theorem dX10_far_116 : decode cX10_far 116 = .ok (.iastore, 1) := by decide +kernel
theorem dX10_far_117 : decode cX10_far 117 = .ok (.iinc 6 1, 3) := by decide +kernel
theorem dX10_far_120 : decode cX10_far 120 = .ok (.goto (-51), 3) := by decide +kernel
theorem dX10_far_123 : decode cX10_far 123 = .ok (.iinc 5 1, 3) := by decide +kernel
theorem dX10_far_126 : decode cX10_far 126 = .ok (.goto (-69), 3) := by decide +kernel
theorem dX10_far_129 : decode cX10_far 129 = .ok (.iinc 4 1, 3) := by decide +kernel
theorem dX10_far_132 : decode cX10_far 132 = .ok (.goto (-87), 3) := by decide +kernel
theorem dX10_far_135 : decode cX10_far 135 = .ok (.aload_n 3, 1) := by decide +kernel
theorem dX10_far_136 : decode cX10_far 136 = .ok (.iload_n 2, 1) := by decide +kernel
theorem dX10_far_137 : decode cX10_far 137 = .ok (.iaload, 1) := by decide +kernel
theorem dX10_far_138 : decode cX10_far 138 = .ok (.ireturn, 1) := by decide +kernel
theorem dX10_carried_0 : decode cX10_carried 0 = .ok (.iconst 0, 1) := by decide +kernel
theorem dX10_carried_1 : decode cX10_carried 1 = .ok (.istore_n 2, 1) := by decide +kernel
theorem dX10_carried_2 : decode cX10_carried 2 = .ok (.iconst 0, 1) := by decide +kernel
theorem dX10_carried_3 : decode cX10_carried 3 = .ok (.istore_n 3, 1) := by decide +kernel
theorem dX10_carried_4 : decode cX10_carried 4 = .ok (.iload_n 3, 1) := by decide +kernel
theorem dX10_carried_5 : decode cX10_carried 5 = .ok (.aload_n 0, 1) := by decide +kernel
theorem dX10_carried_6 : decode cX10_carried 6 = .ok (.getfield 111, 3) := by decide +kernel
theorem dX10_carried_9 : decode cX10_carried 9 = .ok (.if_icmp .ge 24, 3) := by decide +kernel
theorem dX10_carried_12 : decode cX10_carried 12 = .ok (.aload_n 0, 1) := by decide +kernel
theorem dX10_carried_13 : decode cX10_carried 13 = .ok (.getfield 9, 3) := by decide +kernel
theorem dX10_carried_16 : decode cX10_carried 16 = .ok (.iload_n 3, 1) := by decide +kernel
theorem dX10_carried_17 : decode cX10_carried 17 = .ok (.aaload, 1) := by decide +kernel
theorem dX10_carried_18 : decode cX10_carried 18 = .ok (.iconst 4, 1) := by decide +kernel
theorem dX10_carried_19 : decode cX10_carried 19 = .ok (.iaload, 1) := by decide +kernel
theorem dX10_carried_20 : decode cX10_carried 20 = .ok (.iload_n 1, 1) := by decide +kernel
theorem dX10_carried_21 : decode cX10_carried 21 = .ok (.if_icmp .ne 6, 3) := by decide +kernel
theorem dX10_carried_24 : decode cX10_carried 24 = .ok (.iinc 2 1, 3) := by decide +kernel
theorem dX10_carried_27 : decode cX10_carried 27 = .ok (.iinc 3 1, 3) := by decide +kernel
theorem dX10_carried_30 : decode cX10_carried 30 = .ok (.goto (-26), 3) := by decide +kernel
theorem dX10_carried_33 : decode cX10_carried 33 = .ok (.iload_n 2, 1) := by decide +kernel
theorem dX10_carried_34 : decode cX10_carried 34 = .ok (.ireturn, 1) := by decide +kernel
theorem dX10_drop_0 : decode cX10_drop 0 = .ok (.iconst (-1), 1) := by decide +kernel
theorem dX10_drop_1 : decode cX10_drop 1 = .ok (.istore_n 3, 1) := by decide +kernel
theorem dX10_drop_2 : decode cX10_drop 2 = .ok (.aload_n 0, 1) := by decide +kernel
theorem dX10_drop_3 : decode cX10_drop 3 = .ok (.aload_n 0, 1) := by decide +kernel
theorem dX10_drop_4 : decode cX10_drop 4 = .ok (.getfield 63, 3) := by decide +kernel
theorem dX10_drop_7 : decode cX10_drop 7 = .ok (.iload_n 1, 1) := by decide +kernel
theorem dX10_drop_8 : decode cX10_drop 8 = .ok (.aaload, 1) := by decide +kernel
theorem dX10_drop_9 : decode cX10_drop 9 = .ok (.aload_n 0, 1) := by decide +kernel
theorem dX10_drop_10 : decode cX10_drop 10 = .ok (.getfield 69, 3) := by decide +kernel
theorem dX10_drop_13 : decode cX10_drop 13 = .ok (.iload_n 1, 1) := by decide +kernel
theorem dX10_drop_14 : decode cX10_drop 14 = .ok (.iaload, 1) := by decide +kernel
theorem dX10_drop_15 : decode cX10_drop 15 = .ok (.iaload, 1) := by decide +kernel
theorem dX10_drop_16 : decode cX10_drop 16 = .ok (.aload_n 0, 1) := by decide +kernel
theorem dX10_drop_17 : decode cX10_drop 17 = .ok (.getfield 9, 3) := by decide +kernel
theorem dX10_drop_20 : decode cX10_drop 20 = .ok (.iload_n 2, 1) := by decide +kernel
theorem dX10_drop_21 : decode cX10_drop 21 = .ok (.aaload, 1) := by decide +kernel
theorem dX10_drop_22 : decode cX10_drop 22 = .ok (.iconst 1, 1) := by decide +kernel
theorem dX10_drop_23 : decode cX10_drop 23 = .ok (.iaload, 1) := by decide +kernel
theorem dX10_drop_24 : decode cX10_drop 24 = .ok (.invokevirtual 122, 3) := by decide +kernel
theorem dX10_drop_27 : decode cX10_drop 27 = .ok (.istore 4, 2) := by decide +kernel
theorem dX10_drop_29 : decode cX10_drop 29 = .ok (.aload_n 0, 1) := by decide +kernel
theorem dX10_drop_30 : decode cX10_drop 30 = .ok (.getfield 69, 3) := by decide +kernel
theorem dX10_drop_33 : decode cX10_drop 33 = .ok (.iload_n 1, 1) := by decide +kernel
theorem dX10_drop_34 : decode cX10_drop 34 = .ok (.iaload, 1) := by decide +kernel
theorem dX10_drop_35 : decode cX10_drop 35 = .ok (.aload_n 0, 1) := by decide +kernel
theorem dX10_drop_36 : decode cX10_drop 36 = .ok (.getfield 72, 3) := by decide +kernel
theorem dX10_drop_39 : decode cX10_drop 39 = .ok (.iload_n 1, 1) := by decide +kernel
theorem dX10_drop_40 : decode cX10_drop 40 = .ok (.iaload, 1) := by decide +kernel
theorem dX10_drop_41 : decode cX10_drop 41 = .ok (.iadd, 1) := by decide +kernel
theorem dX10_drop_42 : decode cX10_drop 42 = .ok (.istore 5, 2) := by decide +kernel
theorem dX10_drop_44 : decode cX10_drop 44 = .ok (.iload 5, 2) := by decide +kernel
theorem dX10_drop_46 : decode cX10_drop 46 = .ok (.ifCond .lt 76, 3) := by decide +kernel
theorem dX10_drop_49 : decode cX10_drop 49 = .ok (.iload 5, 2) := by decide +kernel
theorem dX10_drop_51 : decode cX10_drop 51 = .ok (.aload_n 0, 1) := by decide +kernel
theorem dX10_drop_52 : decode cX10_drop 52 = .ok (.getfield 63, 3) := by decide +kernel
theorem dX10_drop_55 : decode cX10_drop 55 = .ok (.iload_n 1, 1) := by decide +kernel
theorem dX10_drop_56 : decode cX10_drop 56 = .ok (.aaload, 1) := by decide +kernel
theorem dX10_drop_57 : decode cX10_drop 57 = .ok (.arraylength, 1) := by decide +kernel
theorem dX10_drop_58 : decode cX10_drop 58 = .ok (.if_icmp .ge 64, 3) := by decide +kernel
theorem dX10_drop_61 : decode cX10_drop 61 = .ok (.aload_n 0, 1) := by decide +kernel
theorem dX10_drop_62 : decode cX10_drop 62 = .ok (.aload_n 0, 1) := by decide +kernel
theorem dX10_drop_63 : decode cX10_drop 63 = .ok (.getfield 63, 3) := by decide +kernel
theorem dX10_drop_66 : decode cX10_drop 66 = .ok (.iload_n 1, 1) := by decide +kernel
theorem dX10_drop_67 : decode cX10_drop 67 = .ok (.aaload, 1) := by decide +kernel
theorem dX10_drop_68 : decode cX10_drop 68 = .ok (.iload 5, 2) := by decide +kernel
theorem dX10_drop_70 : decode cX10_drop 70 = .ok (.iaload, 1) := by decide +kernel
theorem dX10_drop_71 : decode cX10_drop 71 = .ok (.aload_n 0, 1) := by decide +kernel
theorem dX10_drop_72 : decode cX10_drop 72 = .ok (.getfield 9, 3) := by decide +kernel
theorem dX10_drop_75 : decode cX10_drop 75 = .ok (.iload_n 2, 1) := by decide +kernel
theorem dX10_drop_76 : decode cX10_drop 76 = .ok (.aaload, 1) := by decide +kernel
theorem dX10_drop_77 : decode cX10_drop 77 = .ok (.iconst 1, 1) := by decide +kernel
theorem dX10_drop_78 : decode cX10_drop 78 = .ok (.iaload, 1) := by decide +kernel
theorem dX10_drop_79 : decode cX10_drop 79 = .ok (.invokevirtual 122, 3) := by decide +kernel
theorem dX10_drop_82 : decode cX10_drop 82 = .ok (.istore 6, 2) := by decide +kernel
theorem dX10_drop_84 : decode cX10_drop 84 = .ok (.iload 6, 2) := by decide +kernel
theorem dX10_drop_86 : decode cX10_drop 86 = .ok (.iload 4, 2) := by decide +kernel
theorem dX10_drop_88 : decode cX10_drop 88 = .ok (.if_icmp .lt 6, 3) := by decide +kernel
theorem dX10_drop_91 : decode cX10_drop 91 = .ok (.goto 17, 3) := by decide +kernel
theorem dX10_drop_94 : decode cX10_drop 94 = .ok (.iload 6, 2) := by decide +kernel
theorem dX10_drop_96 : decode cX10_drop 96 = .ok (.istore 4, 2) := by decide +kernel
theorem dX10_drop_98 : decode cX10_drop 98 = .ok (.aload_n 0, 1) := by decide +kernel
theorem dX10_drop_99 : decode cX10_drop 99 = .ok (.getfield 63, 3) := by decide +kernel
theorem dX10_drop_102 : decode cX10_drop 102 = .ok (.iload_n 1, 1) := by decide +kernel
theorem dX10_drop_103 : decode cX10_drop 103 = .ok (.aaload, 1) := by decide +kernel
theorem dX10_drop_104 : decode cX10_drop 104 = .ok (.iload 5, 2) := by decide +kernel
theorem dX10_drop_106 : decode cX10_drop 106 = .ok (.iaload, 1) := by decide +kernel
theorem dX10_drop_107 : decode cX10_drop 107 = .ok (.istore_n 3, 1) := by decide +kernel
theorem dX10_drop_108 : decode cX10_drop 108 = .ok (.iload 5, 2) := by decide +kernel
theorem dX10_drop_110 : decode cX10_drop 110 = .ok (.aload_n 0, 1) := by decide +kernel
theorem dX10_drop_111 : decode cX10_drop 111 = .ok (.getfield 72, 3) := by decide +kernel
theorem dX10_drop_114 : decode cX10_drop 114 = .ok (.iload_n 1, 1) := by decide +kernel
theorem dX10_drop_115 : decode cX10_drop 115 = .ok (.iaload, 1) := by decide +kernel
theorem dX10_drop_116 : decode cX10_drop 116 = .ok (.iadd, 1) := by decide +kernel
theorem dX10_drop_117 : decode cX10_drop 117 = .ok (.istore 5, 2) := by decide +kernel
theorem dX10_drop_119 : decode cX10_drop 119 = .ok (.goto (-75), 3) := by decide +kernel
theorem dX10_drop_122 : decode cX10_drop 122 = .ok (.iload_n 3, 1) := by decide +kernel
theorem dX10_drop_123 : decode cX10_drop 123 = .ok (.ireturn, 1) := by decide +kernel
theorem dX10_fits_0 : decode cX10_fits 0 = .ok (.aload_n 0, 1) := by decide +kernel
theorem dX10_fits_1 : decode cX10_fits 1 = .ok (.getfield 9, 3) := by decide +kernel
theorem dX10_fits_4 : decode cX10_fits 4 = .ok (.iload_n 2, 1) := by decide +kernel
theorem dX10_fits_5 : decode cX10_fits 5 = .ok (.aaload, 1) := by decide +kernel
theorem dX10_fits_6 : decode cX10_fits 6 = .ok (.iconst 3, 1) := by decide +kernel
theorem dX10_fits_7 : decode cX10_fits 7 = .ok (.iaload, 1) := by decide +kernel
theorem dX10_fits_8 : decode cX10_fits 8 = .ok (.aload_n 0, 1) := by decide +kernel
theorem dX10_fits_9 : decode cX10_fits 9 = .ok (.getfield 63, 3) := by decide +kernel
theorem dX10_fits_12 : decode cX10_fits 12 = .ok (.iload_n 1, 1) := by decide +kernel
theorem dX10_fits_13 : decode cX10_fits 13 = .ok (.aaload, 1) := by decide +kernel
theorem dX10_fits_14 : decode cX10_fits 14 = .ok (.aload_n 0, 1) := by decide +kernel
theorem dX10_fits_15 : decode cX10_fits 15 = .ok (.getfield 69, 3) := by decide +kernel
theorem dX10_fits_18 : decode cX10_fits 18 = .ok (.iload_n 1, 1) := by decide +kernel
theorem dX10_fits_19 : decode cX10_fits 19 = .ok (.iaload, 1) := by decide +kernel
theorem dX10_fits_20 : decode cX10_fits 20 = .ok (.iaload, 1) := by decide +kernel
theorem dX10_fits_21 : decode cX10_fits 21 = .ok (.if_icmp .ne 46, 3) := by decide +kernel
theorem dX10_fits_24 : decode cX10_fits 24 = .ok (.aload_n 0, 1) := by decide +kernel
theorem dX10_fits_25 : decode cX10_fits 25 = .ok (.getfield 114, 3) := by decide +kernel
theorem dX10_fits_28 : decode cX10_fits 28 = .ok (.aload_n 0, 1) := by decide +kernel
theorem dX10_fits_29 : decode cX10_fits 29 = .ok (.getfield 9, 3) := by decide +kernel
theorem dX10_fits_32 : decode cX10_fits 32 = .ok (.iload_n 2, 1) := by decide +kernel
theorem dX10_fits_33 : decode cX10_fits 33 = .ok (.aaload, 1) := by decide +kernel
theorem dX10_fits_34 : decode cX10_fits 34 = .ok (.bipush 7, 2) := by decide +kernel
theorem dX10_fits_36 : decode cX10_fits 36 = .ok (.iaload, 1) := by decide +kernel
theorem dX10_fits_37 : decode cX10_fits 37 = .ok (.if_icmp .lt 30, 3) := by decide +kernel
theorem dX10_fits_40 : decode cX10_fits 40 = .ok (.aload_n 0, 1) := by decide +kernel
theorem dX10_fits_41 : decode cX10_fits 41 = .ok (.iload_n 1, 1) := by decide +kernel
theorem dX10_fits_42 : decode cX10_fits 42 = .ok (.invokevirtual 125, 3) := by decide +kernel
theorem dX10_fits_45 : decode cX10_fits 45 = .ok (.aload_n 0, 1) := by decide +kernel
theorem dX10_fits_46 : decode cX10_fits 46 = .ok (.getfield 66, 3) := by decide +kernel
theorem dX10_fits_49 : decode cX10_fits 49 = .ok (.iload_n 1, 1) := by decide +kernel
theorem dX10_fits_50 : decode cX10_fits 50 = .ok (.iaload, 1) := by decide +kernel
theorem dX10_fits_51 : decode cX10_fits 51 = .ok (.if_icmp .ge 16, 3) := by decide +kernel
theorem dX10_fits_54 : decode cX10_fits 54 = .ok (.aload_n 0, 1) := by decide +kernel
theorem dX10_fits_55 : decode cX10_fits 55 = .ok (.iload_n 1, 1) := by decide +kernel
theorem dX10_fits_56 : decode cX10_fits 56 = .ok (.iload_n 2, 1) := by decide +kernel
theorem dX10_fits_57 : decode cX10_fits 57 = .ok (.invokevirtual 128, 3) := by decide +kernel
theorem dX10_fits_60 : decode cX10_fits 60 = .ok (.ifCond .lt 7, 3) := by decide +kernel
theorem dX10_fits_63 : decode cX10_fits 63 = .ok (.iconst 1, 1) := by decide +kernel
theorem dX10_fits_64 : decode cX10_fits 64 = .ok (.goto 4, 3) := by decide +kernel
theorem dX10_fits_67 : decode cX10_fits 67 = .ok (.iconst 0, 1) := by decide +kernel
theorem dX10_fits_68 : decode cX10_fits 68 = .ok (.ireturn, 1) := by decide +kernel
theorem dX10_loads_0 : decode cX10_loads 0 = .ok (.bipush 9, 2) := by decide +kernel
theorem dX10_loads_2 : decode cX10_loads 2 = .ok (.istore_n 2, 1) := by decide +kernel
theorem dX10_loads_3 : decode cX10_loads 3 = .ok (.iload_n 2, 1) := by decide +kernel
theorem dX10_loads_4 : decode cX10_loads 4 = .ok (.ifCond .le 81, 3) := by decide +kernel
theorem dX10_loads_7 : decode cX10_loads 7 = .ok (.iconst 0, 1) := by decide +kernel
theorem dX10_loads_8 : decode cX10_loads 8 = .ok (.istore_n 3, 1) := by decide +kernel
theorem dX10_loads_9 : decode cX10_loads 9 = .ok (.iload_n 3, 1) := by decide +kernel
theorem dX10_loads_10 : decode cX10_loads 10 = .ok (.aload_n 0, 1) := by decide +kernel
theorem dX10_loads_11 : decode cX10_loads 11 = .ok (.getfield 111, 3) := by decide +kernel
theorem dX10_loads_14 : decode cX10_loads 14 = .ok (.if_icmp .ge 65, 3) := by decide +kernel
theorem dX10_loads_17 : decode cX10_loads 17 = .ok (.aload_n 0, 1) := by decide +kernel
theorem dX10_loads_18 : decode cX10_loads 18 = .ok (.getfield 9, 3) := by decide +kernel
theorem dX10_loads_21 : decode cX10_loads 21 = .ok (.iload_n 3, 1) := by decide +kernel
theorem dX10_loads_22 : decode cX10_loads 22 = .ok (.aaload, 1) := by decide +kernel
theorem dX10_loads_23 : decode cX10_loads 23 = .ok (.iconst 2, 1) := by decide +kernel
theorem dX10_loads_24 : decode cX10_loads 24 = .ok (.iaload, 1) := by decide +kernel
theorem dX10_loads_25 : decode cX10_loads 25 = .ok (.iload_n 2, 1) := by decide +kernel
theorem dX10_loads_26 : decode cX10_loads 26 = .ok (.if_icmp .ne 47, 3) := by decide +kernel
theorem dX10_loads_29 : decode cX10_loads 29 = .ok (.aload_n 0, 1) := by decide +kernel
theorem dX10_loads_30 : decode cX10_loads 30 = .ok (.iload_n 1, 1) := by decide +kernel
theorem dX10_loads_31 : decode cX10_loads 31 = .ok (.iload_n 3, 1) := by decide +kernel
theorem dX10_loads_32 : decode cX10_loads 32 = .ok (.invokevirtual 131, 3) := by decide +kernel
theorem dX10_loads_35 : decode cX10_loads 35 = .ok (.ifCond .ne 6, 3) := by decide +kernel
theorem dX10_loads_38 : decode cX10_loads 38 = .ok (.goto 35, 3) := by decide +kernel
theorem dX10_loads_41 : decode cX10_loads 41 = .ok (.aload_n 0, 1) := by decide +kernel
theorem dX10_loads_42 : decode cX10_loads 42 = .ok (.getfield 9, 3) := by decide +kernel
theorem dX10_loads_45 : decode cX10_loads 45 = .ok (.iload_n 3, 1) := by decide +kernel
theorem dX10_loads_46 : decode cX10_loads 46 = .ok (.aaload, 1) := by decide +kernel
theorem dX10_loads_47 : decode cX10_loads 47 = .ok (.iconst 5, 1) := by decide +kernel
theorem dX10_loads_48 : decode cX10_loads 48 = .ok (.aload_n 0, 1) := by decide +kernel
theorem dX10_loads_49 : decode cX10_loads 49 = .ok (.iload_n 1, 1) := by decide +kernel
theorem dX10_loads_50 : decode cX10_loads 50 = .ok (.iload_n 3, 1) := by decide +kernel
theorem dX10_loads_51 : decode cX10_loads 51 = .ok (.invokevirtual 128, 3) := by decide +kernel
theorem dX10_loads_54 : decode cX10_loads 54 = .ok (.iastore, 1) := by decide +kernel
theorem dX10_loads_55 : decode cX10_loads 55 = .ok (.aload_n 0, 1) := by decide +kernel
theorem dX10_loads_56 : decode cX10_loads 56 = .ok (.getfield 9, 3) := by decide +kernel
theorem dX10_loads_59 : decode cX10_loads 59 = .ok (.iload_n 3, 1) := by decide +kernel
theorem dX10_loads_60 : decode cX10_loads 60 = .ok (.aaload, 1) := by decide +kernel
theorem dX10_loads_61 : decode cX10_loads 61 = .ok (.iconst 3, 1) := by decide +kernel
theorem dX10_loads_62 : decode cX10_loads 62 = .ok (.iconst (-1), 1) := by decide +kernel
theorem dX10_loads_63 : decode cX10_loads 63 = .ok (.iastore, 1) := by decide +kernel
theorem dX10_loads_64 : decode cX10_loads 64 = .ok (.aload_n 0, 1) := by decide +kernel
theorem dX10_loads_65 : decode cX10_loads 65 = .ok (.getfield 9, 3) := by decide +kernel
theorem dX10_loads_68 : decode cX10_loads 68 = .ok (.iload_n 3, 1) := by decide +kernel
theorem dX10_loads_69 : decode cX10_loads 69 = .ok (.aaload, 1) := by decide +kernel
theorem dX10_loads_70 : decode cX10_loads 70 = .ok (.iconst 4, 1) := by decide +kernel
theorem dX10_loads_71 : decode cX10_loads 71 = .ok (.iload_n 1, 1) := by decide +kernel
theorem dX10_loads_72 : decode cX10_loads 72 = .ok (.iastore, 1) := by decide +kernel
theorem dX10_loads_73 : decode cX10_loads 73 = .ok (.iinc 3 1, 3) := by decide +kernel
theorem dX10_loads_76 : decode cX10_loads 76 = .ok (.goto (-67), 3) := by decide +kernel
theorem dX10_loads_79 : decode cX10_loads 79 = .ok (.iinc 2 (-1), 3) := by decide +kernel
theorem dX10_loads_82 : decode cX10_loads 82 = .ok (.goto (-79), 3) := by decide +kernel
theorem dX10_loads_85 : decode cX10_loads 85 = .ok (.return_, 1) := by decide +kernel
theorem dX10_departs_0 : decode cX10_departs 0 = .ok (.aload_n 0, 1) := by decide +kernel
theorem dX10_departs_1 : decode cX10_departs 1 = .ok (.getfield 63, 3) := by decide +kernel
theorem dX10_departs_4 : decode cX10_departs 4 = .ok (.iload_n 1, 1) := by decide +kernel
theorem dX10_departs_5 : decode cX10_departs 5 = .ok (.aaload, 1) := by decide +kernel
theorem dX10_departs_6 : decode cX10_departs 6 = .ok (.aload_n 0, 1) := by decide +kernel
theorem dX10_departs_7 : decode cX10_departs 7 = .ok (.getfield 69, 3) := by decide +kernel
theorem dX10_departs_10 : decode cX10_departs 10 = .ok (.iload_n 1, 1) := by decide +kernel
theorem dX10_departs_11 : decode cX10_departs 11 = .ok (.iaload, 1) := by decide +kernel
theorem dX10_departs_12 : decode cX10_departs 12 = .ok (.iaload, 1) := by decide +kernel
theorem dX10_departs_13 : decode cX10_departs 13 = .ok (.istore_n 2, 1) := by decide +kernel
theorem dX10_departs_14 : decode cX10_departs 14 = .ok (.aload_n 0, 1) := by decide +kernel
theorem dX10_departs_15 : decode cX10_departs 15 = .ok (.getfield 63, 3) := by decide +kernel
theorem dX10_departs_18 : decode cX10_departs 18 = .ok (.iload_n 1, 1) := by decide +kernel
theorem dX10_departs_19 : decode cX10_departs 19 = .ok (.aaload, 1) := by decide +kernel
theorem dX10_departs_20 : decode cX10_departs 20 = .ok (.aload_n 0, 1) := by decide +kernel
theorem dX10_departs_21 : decode cX10_departs 21 = .ok (.getfield 69, 3) := by decide +kernel
theorem dX10_departs_24 : decode cX10_departs 24 = .ok (.iload_n 1, 1) := by decide +kernel
theorem dX10_departs_25 : decode cX10_departs 25 = .ok (.iaload, 1) := by decide +kernel
theorem dX10_departs_26 : decode cX10_departs 26 = .ok (.aload_n 0, 1) := by decide +kernel
theorem dX10_departs_27 : decode cX10_departs 27 = .ok (.getfield 72, 3) := by decide +kernel
theorem dX10_departs_30 : decode cX10_departs 30 = .ok (.iload_n 1, 1) := by decide +kernel
theorem dX10_departs_31 : decode cX10_departs 31 = .ok (.iaload, 1) := by decide +kernel
theorem dX10_departs_32 : decode cX10_departs 32 = .ok (.iadd, 1) := by decide +kernel
theorem dX10_departs_33 : decode cX10_departs 33 = .ok (.iaload, 1) := by decide +kernel
theorem dX10_departs_34 : decode cX10_departs 34 = .ok (.istore_n 3, 1) := by decide +kernel
theorem dX10_departs_35 : decode cX10_departs 35 = .ok (.aload_n 0, 1) := by decide +kernel
theorem dX10_departs_36 : decode cX10_departs 36 = .ok (.getfield 35, 3) := by decide +kernel
theorem dX10_departs_39 : decode cX10_departs 39 = .ok (.iload_n 2, 1) := by decide +kernel
theorem dX10_departs_40 : decode cX10_departs 40 = .ok (.aaload, 1) := by decide +kernel
theorem dX10_departs_41 : decode cX10_departs 41 = .ok (.iload_n 3, 1) := by decide +kernel
theorem dX10_departs_42 : decode cX10_departs 42 = .ok (.baload, 1) := by decide +kernel
theorem dX10_departs_43 : decode cX10_departs 43 = .ok (.ifCond .eq 20, 3) := by decide +kernel
theorem dX10_departs_46 : decode cX10_departs 46 = .ok (.aload_n 0, 1) := by decide +kernel
theorem dX10_departs_47 : decode cX10_departs 47 = .ok (.getfield 75, 3) := by decide +kernel
theorem dX10_departs_50 : decode cX10_departs 50 = .ok (.iload_n 1, 1) := by decide +kernel
theorem dX10_departs_51 : decode cX10_departs 51 = .ok (.aload_n 0, 1) := by decide +kernel
theorem dX10_departs_52 : decode cX10_departs 52 = .ok (.getfield 30, 3) := by decide +kernel
theorem dX10_departs_55 : decode cX10_departs 55 = .ok (.iload_n 2, 1) := by decide +kernel
theorem dX10_departs_56 : decode cX10_departs 56 = .ok (.aaload, 1) := by decide +kernel
theorem dX10_departs_57 : decode cX10_departs 57 = .ok (.iload_n 3, 1) := by decide +kernel
theorem dX10_departs_58 : decode cX10_departs 58 = .ok (.iaload, 1) := by decide +kernel
theorem dX10_departs_59 : decode cX10_departs 59 = .ok (.iastore, 1) := by decide +kernel
theorem dX10_departs_60 : decode cX10_departs 60 = .ok (.goto 13, 3) := by decide +kernel
theorem dX10_departs_63 : decode cX10_departs 63 = .ok (.aload_n 0, 1) := by decide +kernel
theorem dX10_departs_64 : decode cX10_departs 64 = .ok (.getfield 78, 3) := by decide +kernel
theorem dX10_departs_67 : decode cX10_departs 67 = .ok (.iload_n 1, 1) := by decide +kernel
theorem dX10_departs_68 : decode cX10_departs 68 = .ok (.dup2, 1) := by decide +kernel
theorem dX10_departs_69 : decode cX10_departs 69 = .ok (.iaload, 1) := by decide +kernel
theorem dX10_departs_70 : decode cX10_departs 70 = .ok (.iconst 1, 1) := by decide +kernel
theorem dX10_departs_71 : decode cX10_departs 71 = .ok (.iadd, 1) := by decide +kernel
theorem dX10_departs_72 : decode cX10_departs 72 = .ok (.iastore, 1) := by decide +kernel
theorem dX10_departs_73 : decode cX10_departs 73 = .ok (.return_, 1) := by decide +kernel
theorem dX10_arrives_0 : decode cX10_arrives 0 = .ok (.aload_n 0, 1) := by decide +kernel
theorem dX10_arrives_1 : decode cX10_arrives 1 = .ok (.getfield 69, 3) := by decide +kernel
theorem dX10_arrives_4 : decode cX10_arrives 4 = .ok (.iload_n 1, 1) := by decide +kernel
theorem dX10_arrives_5 : decode cX10_arrives 5 = .ok (.dup2, 1) := by decide +kernel
theorem dX10_arrives_6 : decode cX10_arrives 6 = .ok (.iaload, 1) := by decide +kernel
theorem dX10_arrives_7 : decode cX10_arrives 7 = .ok (.aload_n 0, 1) := by decide +kernel
theorem dX10_arrives_8 : decode cX10_arrives 8 = .ok (.getfield 72, 3) := by decide +kernel
theorem dX10_arrives_11 : decode cX10_arrives 11 = .ok (.iload_n 1, 1) := by decide +kernel
theorem dX10_arrives_12 : decode cX10_arrives 12 = .ok (.iaload, 1) := by decide +kernel
theorem dX10_arrives_13 : decode cX10_arrives 13 = .ok (.iadd, 1) := by decide +kernel
theorem dX10_arrives_14 : decode cX10_arrives 14 = .ok (.iastore, 1) := by decide +kernel
theorem dX10_arrives_15 : decode cX10_arrives 15 = .ok (.aload_n 0, 1) := by decide +kernel
theorem dX10_arrives_16 : decode cX10_arrives 16 = .ok (.getfield 69, 3) := by decide +kernel
theorem dX10_arrives_19 : decode cX10_arrives 19 = .ok (.iload_n 1, 1) := by decide +kernel
theorem dX10_arrives_20 : decode cX10_arrives 20 = .ok (.iaload, 1) := by decide +kernel
theorem dX10_arrives_21 : decode cX10_arrives 21 = .ok (.ifCond .eq 21, 3) := by decide +kernel
theorem dX10_arrives_24 : decode cX10_arrives 24 = .ok (.aload_n 0, 1) := by decide +kernel
theorem dX10_arrives_25 : decode cX10_arrives 25 = .ok (.getfield 69, 3) := by decide +kernel
theorem dX10_arrives_28 : decode cX10_arrives 28 = .ok (.iload_n 1, 1) := by decide +kernel
theorem dX10_arrives_29 : decode cX10_arrives 29 = .ok (.iaload, 1) := by decide +kernel
theorem dX10_arrives_30 : decode cX10_arrives 30 = .ok (.aload_n 0, 1) := by decide +kernel
theorem dX10_arrives_31 : decode cX10_arrives 31 = .ok (.getfield 63, 3) := by decide +kernel
theorem dX10_arrives_34 : decode cX10_arrives 34 = .ok (.iload_n 1, 1) := by decide +kernel
theorem dX10_arrives_35 : decode cX10_arrives 35 = .ok (.aaload, 1) := by decide +kernel
theorem dX10_arrives_36 : decode cX10_arrives 36 = .ok (.arraylength, 1) := by decide +kernel
theorem dX10_arrives_37 : decode cX10_arrives 37 = .ok (.iconst 1, 1) := by decide +kernel
theorem dX10_arrives_38 : decode cX10_arrives 38 = .ok (.isub, 1) := by decide +kernel
theorem dX10_arrives_39 : decode cX10_arrives 39 = .ok (.if_icmp .ne 7, 3) := by decide +kernel
theorem dX10_arrives_42 : decode cX10_arrives 42 = .ok (.iconst 1, 1) := by decide +kernel
theorem dX10_arrives_43 : decode cX10_arrives 43 = .ok (.goto 4, 3) := by decide +kernel
theorem dX10_arrives_46 : decode cX10_arrives 46 = .ok (.iconst 0, 1) := by decide +kernel
theorem dX10_arrives_47 : decode cX10_arrives 47 = .ok (.istore_n 2, 1) := by decide +kernel
theorem dX10_arrives_48 : decode cX10_arrives 48 = .ok (.iload_n 2, 1) := by decide +kernel
theorem dX10_arrives_49 : decode cX10_arrives 49 = .ok (.ifCond .eq 16, 3) := by decide +kernel
theorem dX10_arrives_52 : decode cX10_arrives 52 = .ok (.aload_n 0, 1) := by decide +kernel
theorem dX10_arrives_53 : decode cX10_arrives 53 = .ok (.getfield 72, 3) := by decide +kernel
theorem dX10_arrives_56 : decode cX10_arrives 56 = .ok (.iload_n 1, 1) := by decide +kernel
theorem dX10_arrives_57 : decode cX10_arrives 57 = .ok (.aload_n 0, 1) := by decide +kernel
theorem dX10_arrives_58 : decode cX10_arrives 58 = .ok (.getfield 72, 3) := by decide +kernel
theorem dX10_arrives_61 : decode cX10_arrives 61 = .ok (.iload_n 1, 1) := by decide +kernel
theorem dX10_arrives_62 : decode cX10_arrives 62 = .ok (.iaload, 1) := by decide +kernel
theorem dX10_arrives_63 : decode cX10_arrives 63 = .ok (.ineg, 1) := by decide +kernel
theorem dX10_arrives_64 : decode cX10_arrives 64 = .ok (.iastore, 1) := by decide +kernel
theorem dX10_arrives_65 : decode cX10_arrives 65 = .ok (.aload_n 0, 1) := by decide +kernel
theorem dX10_arrives_66 : decode cX10_arrives 66 = .ok (.getfield 63, 3) := by decide +kernel
theorem dX10_arrives_69 : decode cX10_arrives 69 = .ok (.iload_n 1, 1) := by decide +kernel
theorem dX10_arrives_70 : decode cX10_arrives 70 = .ok (.aaload, 1) := by decide +kernel
theorem dX10_arrives_71 : decode cX10_arrives 71 = .ok (.aload_n 0, 1) := by decide +kernel
theorem dX10_arrives_72 : decode cX10_arrives 72 = .ok (.getfield 69, 3) := by decide +kernel
theorem dX10_arrives_75 : decode cX10_arrives 75 = .ok (.iload_n 1, 1) := by decide +kernel
theorem dX10_arrives_76 : decode cX10_arrives 76 = .ok (.iaload, 1) := by decide +kernel
theorem dX10_arrives_77 : decode cX10_arrives 77 = .ok (.iaload, 1) := by decide +kernel
theorem dX10_arrives_78 : decode cX10_arrives 78 = .ok (.istore_n 3, 1) := by decide +kernel
theorem dX10_arrives_79 : decode cX10_arrives 79 = .ok (.iload_n 2, 1) := by decide +kernel
theorem dX10_arrives_80 : decode cX10_arrives 80 = .ok (.ifCond .ne 12, 3) := by decide +kernel
theorem dX10_arrives_83 : decode cX10_arrives 83 = .ok (.aload_n 0, 1) := by decide +kernel
theorem dX10_arrives_84 : decode cX10_arrives 84 = .ok (.getfield 38, 3) := by decide +kernel
theorem dX10_arrives_87 : decode cX10_arrives 87 = .ok (.iload_n 3, 1) := by decide +kernel
theorem dX10_arrives_88 : decode cX10_arrives 88 = .ok (.baload, 1) := by decide +kernel
theorem dX10_arrives_89 : decode cX10_arrives 89 = .ok (.ifCond .ne 7, 3) := by decide +kernel
theorem dX10_arrives_92 : decode cX10_arrives 92 = .ok (.iconst 1, 1) := by decide +kernel
theorem dX10_arrives_93 : decode cX10_arrives 93 = .ok (.goto 4, 3) := by decide +kernel
theorem dX10_arrives_96 : decode cX10_arrives 96 = .ok (.iconst 0, 1) := by decide +kernel
theorem dX10_arrives_97 : decode cX10_arrives 97 = .ok (.istore 4, 2) := by decide +kernel
theorem dX10_arrives_99 : decode cX10_arrives 99 = .ok (.iconst 0, 1) := by decide +kernel
theorem dX10_arrives_100 : decode cX10_arrives 100 = .ok (.istore 5, 2) := by decide +kernel
theorem dX10_arrives_102 : decode cX10_arrives 102 = .ok (.iload 5, 2) := by decide +kernel
theorem dX10_arrives_104 : decode cX10_arrives 104 = .ok (.aload_n 0, 1) := by decide +kernel
theorem dX10_arrives_105 : decode cX10_arrives 105 = .ok (.getfield 111, 3) := by decide +kernel
theorem dX10_arrives_108 : decode cX10_arrives 108 = .ok (.if_icmp .ge 48, 3) := by decide +kernel
theorem dX10_arrives_111 : decode cX10_arrives 111 = .ok (.aload_n 0, 1) := by decide +kernel
theorem dX10_arrives_112 : decode cX10_arrives 112 = .ok (.getfield 9, 3) := by decide +kernel
theorem dX10_arrives_115 : decode cX10_arrives 115 = .ok (.iload 5, 2) := by decide +kernel
theorem dX10_arrives_117 : decode cX10_arrives 117 = .ok (.aaload, 1) := by decide +kernel
theorem dX10_arrives_118 : decode cX10_arrives 118 = .ok (.iconst 4, 1) := by decide +kernel
theorem dX10_arrives_119 : decode cX10_arrives 119 = .ok (.iaload, 1) := by decide +kernel
theorem dX10_arrives_120 : decode cX10_arrives 120 = .ok (.iload_n 1, 1) := by decide +kernel
theorem dX10_arrives_121 : decode cX10_arrives 121 = .ok (.if_icmp .ne 16, 3) := by decide +kernel
theorem dX10_arrives_124 : decode cX10_arrives 124 = .ok (.aload_n 0, 1) := by decide +kernel
theorem dX10_arrives_125 : decode cX10_arrives 125 = .ok (.getfield 9, 3) := by decide +kernel
theorem dX10_arrives_128 : decode cX10_arrives 128 = .ok (.iload 5, 2) := by decide +kernel
theorem dX10_arrives_130 : decode cX10_arrives 130 = .ok (.aaload, 1) := by decide +kernel
theorem dX10_arrives_131 : decode cX10_arrives 131 = .ok (.iconst 5, 1) := by decide +kernel
theorem dX10_arrives_132 : decode cX10_arrives 132 = .ok (.iaload, 1) := by decide +kernel
theorem dX10_arrives_133 : decode cX10_arrives 133 = .ok (.iload_n 3, 1) := by decide +kernel
theorem dX10_arrives_134 : decode cX10_arrives 134 = .ok (.if_icmp .eq 13, 3) := by decide +kernel
theorem dX10_arrives_137 : decode cX10_arrives 137 = .ok (.aload_n 0, 1) := by decide +kernel
theorem dX10_arrives_138 : decode cX10_arrives 138 = .ok (.iload_n 1, 1) := by decide +kernel
theorem dX10_arrives_139 : decode cX10_arrives 139 = .ok (.iload 5, 2) := by decide +kernel
theorem dX10_arrives_141 : decode cX10_arrives 141 = .ok (.invokevirtual 131, 3) := by decide +kernel
theorem dX10_arrives_144 : decode cX10_arrives 144 = .ok (.ifCond .eq 6, 3) := by decide +kernel
theorem dX10_arrives_147 : decode cX10_arrives 147 = .ok (.iconst 1, 1) := by decide +kernel
theorem dX10_arrives_148 : decode cX10_arrives 148 = .ok (.istore 4, 2) := by decide +kernel
theorem dX10_arrives_150 : decode cX10_arrives 150 = .ok (.iinc 5 1, 3) := by decide +kernel
theorem dX10_arrives_153 : decode cX10_arrives 153 = .ok (.goto (-51), 3) := by decide +kernel
theorem dX10_arrives_156 : decode cX10_arrives 156 = .ok (.iload 4, 2) := by decide +kernel
theorem dX10_arrives_158 : decode cX10_arrives 158 = .ok (.ifCond .ne 19, 3) := by decide +kernel
theorem dX10_arrives_161 : decode cX10_arrives 161 = .ok (.aload_n 0, 1) := by decide +kernel
theorem dX10_arrives_162 : decode cX10_arrives 162 = .ok (.getfield 84, 3) := by decide +kernel
theorem dX10_arrives_165 : decode cX10_arrives 165 = .ok (.iload_n 1, 1) := by decide +kernel
theorem dX10_arrives_166 : decode cX10_arrives 166 = .ok (.dup2, 1) := by decide +kernel
theorem dX10_arrives_167 : decode cX10_arrives 167 = .ok (.iaload, 1) := by decide +kernel
theorem dX10_arrives_168 : decode cX10_arrives 168 = .ok (.iconst 1, 1) := by decide +kernel
theorem dX10_arrives_169 : decode cX10_arrives 169 = .ok (.iadd, 1) := by decide +kernel
theorem dX10_arrives_170 : decode cX10_arrives 170 = .ok (.iastore, 1) := by decide +kernel
theorem dX10_arrives_171 : decode cX10_arrives 171 = .ok (.aload_n 0, 1) := by decide +kernel
theorem dX10_arrives_172 : decode cX10_arrives 172 = .ok (.iload_n 1, 1) := by decide +kernel
theorem dX10_arrives_173 : decode cX10_arrives 173 = .ok (.invokevirtual 134, 3) := by decide +kernel
theorem dX10_arrives_176 : decode cX10_arrives 176 = .ok (.return_, 1) := by decide +kernel
theorem dX10_arrives_177 : decode cX10_arrives 177 = .ok (.aload_n 0, 1) := by decide +kernel
theorem dX10_arrives_178 : decode cX10_arrives 178 = .ok (.getfield 81, 3) := by decide +kernel
