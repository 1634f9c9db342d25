theorem dX0_init_0 : decode cX0_init 0 = .ok (.aload_n 0, 1) := by decide +kernel
theorem dX0_init_1 : decode cX0_init 1 = .ok (.invokespecial 3, 3) := by decide +kernel
theorem dX0_init_4 : decode cX0_init 4 = .ok (.aload_n 0, 1) := by decide +kernel
theorem dX0_init_5 : decode cX0_init 5 = .ok (.bipush 8, 2) := by decide +kernel
theorem dX0_init_7 : decode cX0_init 7 = .ok (.anewarray 9, 3) := by decide +kernel
theorem dX0_init_10 : decode cX0_init 10 = .ok (.putfield 11, 3) := by decide +kernel
theorem dX0_init_13 : decode cX0_init 13 = .ok (.iconst 0, 1) := by decide +kernel
theorem dX0_init_14 : decode cX0_init 14 = .ok (.istore_n 1, 1) := by decide +kernel
theorem dX0_init_15 : decode cX0_init 15 = .ok (.iload_n 1, 1) := by decide +kernel
theorem dX0_init_16 : decode cX0_init 16 = .ok (.aload_n 0, 1) := by decide +kernel
theorem dX0_init_17 : decode cX0_init 17 = .ok (.getfield 11, 3) := by decide +kernel
theorem dX0_init_20 : decode cX0_init 20 = .ok (.arraylength, 1) := by decide +kernel
theorem dX0_init_21 : decode cX0_init 21 = .ok (.if_icmp .ge 22, 3) := by decide +kernel
theorem dX0_init_24 : decode cX0_init 24 = .ok (.aload_n 0, 1) := by decide +kernel
theorem dX0_init_25 : decode cX0_init 25 = .ok (.getfield 11, 3) := by decide +kernel
theorem dX0_init_28 : decode cX0_init 28 = .ok (.iload_n 1, 1) := by decide +kernel
theorem dX0_init_29 : decode cX0_init 29 = .ok (.new 9, 3) := by decide +kernel
theorem dX0_init_32 : decode cX0_init 32 = .ok (.dup, 1) := by decide +kernel
theorem dX0_init_33 : decode cX0_init 33 = .ok (.invokespecial 17, 3) := by decide +kernel
theorem dX0_init_36 : decode cX0_init 36 = .ok (.aastore, 1) := by decide +kernel
theorem dX0_init_37 : decode cX0_init 37 = .ok (.iinc 1 1, 3) := by decide +kernel
theorem dX0_init_40 : decode cX0_init 40 = .ok (.goto (-25), 3) := by decide +kernel
theorem dX0_init_43 : decode cX0_init 43 = .ok (.return_, 1) := by decide +kernel
theorem dX0_remember_0 : decode cX0_remember 0 = .ok (.aload_n 0, 1) := by decide +kernel
theorem dX0_remember_1 : decode cX0_remember 1 = .ok (.getfield 18, 3) := by decide +kernel
theorem dX0_remember_4 : decode cX0_remember 4 = .ok (.ifCond .lt 12, 3) := by decide +kernel
theorem dX0_remember_7 : decode cX0_remember 7 = .ok (.aload_n 0, 1) := by decide +kernel
theorem dX0_remember_8 : decode cX0_remember 8 = .ok (.getfield 18, 3) := by decide +kernel
theorem dX0_remember_11 : decode cX0_remember 11 = .ok (.bipush 8, 2) := by decide +kernel
theorem dX0_remember_13 : decode cX0_remember 13 = .ok (.if_icmp .lt 4, 3) := by decide +kernel
theorem dX0_remember_16 : decode cX0_remember 16 = .ok (.return_, 1) := by decide +kernel
theorem dX0_remember_17 : decode cX0_remember 17 = .ok (.aload_n 0, 1) := by decide +kernel
theorem dX0_remember_18 : decode cX0_remember 18 = .ok (.getfield 11, 3) := by decide +kernel
theorem dX0_remember_21 : decode cX0_remember 21 = .ok (.aload_n 0, 1) := by decide +kernel
theorem dX0_remember_22 : decode cX0_remember 22 = .ok (.getfield 18, 3) := by decide +kernel
theorem dX0_remember_25 : decode cX0_remember 25 = .ok (.aaload, 1) := by decide +kernel
theorem dX0_remember_26 : decode cX0_remember 26 = .ok (.aload_n 1, 1) := by decide +kernel
theorem dX0_remember_27 : decode cX0_remember 27 = .ok (.invokevirtual 22, 3) := by decide +kernel
theorem dX0_remember_30 : decode cX0_remember 30 = .ok (.aload_n 0, 1) := by decide +kernel
theorem dX0_remember_31 : decode cX0_remember 31 = .ok (.aload_n 0, 1) := by decide +kernel
theorem dX0_remember_32 : decode cX0_remember 32 = .ok (.getfield 18, 3) := by decide +kernel
theorem dX0_remember_35 : decode cX0_remember 35 = .ok (.bipush 7, 2) := by decide +kernel
theorem dX0_remember_37 : decode cX0_remember 37 = .ok (.if_icmp .ne 7, 3) := by decide +kernel
theorem dX0_remember_40 : decode cX0_remember 40 = .ok (.iconst 0, 1) := by decide +kernel
theorem dX0_remember_41 : decode cX0_remember 41 = .ok (.goto 9, 3) := by decide +kernel
theorem dX0_remember_44 : decode cX0_remember 44 = .ok (.aload_n 0, 1) := by decide +kernel
theorem dX0_remember_45 : decode cX0_remember 45 = .ok (.getfield 18, 3) := by decide +kernel
theorem dX0_remember_48 : decode cX0_remember 48 = .ok (.iconst 1, 1) := by decide +kernel
theorem dX0_remember_49 : decode cX0_remember 49 = .ok (.iadd, 1) := by decide +kernel
theorem dX0_remember_50 : decode cX0_remember 50 = .ok (.putfield 18, 3) := by decide +kernel
theorem dX0_remember_53 : decode cX0_remember 53 = .ok (.aload_n 0, 1) := by decide +kernel
theorem dX0_remember_54 : decode cX0_remember 54 = .ok (.aload_n 0, 1) := by decide +kernel
theorem dX0_remember_55 : decode cX0_remember 55 = .ok (.getfield 26, 3) := by decide +kernel
theorem dX0_remember_58 : decode cX0_remember 58 = .ok (.bipush 8, 2) := by decide +kernel
theorem dX0_remember_60 : decode cX0_remember 60 = .ok (.if_icmp .ne 8, 3) := by decide +kernel
theorem dX0_remember_63 : decode cX0_remember 63 = .ok (.bipush 8, 2) := by decide +kernel
theorem dX0_remember_65 : decode cX0_remember 65 = .ok (.goto 9, 3) := by decide +kernel
theorem dX0_remember_68 : decode cX0_remember 68 = .ok (.aload_n 0, 1) := by decide +kernel
theorem dX0_remember_69 : decode cX0_remember 69 = .ok (.getfield 26, 3) := by decide +kernel
theorem dX0_remember_72 : decode cX0_remember 72 = .ok (.iconst 1, 1) := by decide +kernel
theorem dX0_remember_73 : decode cX0_remember 73 = .ok (.iadd, 1) := by decide +kernel
theorem dX0_remember_74 : decode cX0_remember 74 = .ok (.putfield 26, 3) := by decide +kernel
theorem dX0_remember_77 : decode cX0_remember 77 = .ok (.return_, 1) := by decide +kernel
theorem dX1_init_0 : decode cX1_init 0 = .ok (.aload_n 0, 1) := by decide +kernel
theorem dX1_init_1 : decode cX1_init 1 = .ok (.invokespecial 3, 3) := by decide +kernel
theorem dX1_init_4 : decode cX1_init 4 = .ok (.aload_n 0, 1) := by decide +kernel
theorem dX1_init_5 : decode cX1_init 5 = .ok (.bipush 71, 2) := by decide +kernel
theorem dX1_init_7 : decode cX1_init 7 = .ok (.newarray .byte, 2) := by decide +kernel
theorem dX1_init_9 : decode cX1_init 9 = .ok (.putfield 9, 3) := by decide +kernel
theorem dX1_init_12 : decode cX1_init 12 = .ok (.return_, 1) := by decide +kernel
theorem dX2_init_0 : decode cX2_init 0 = .ok (.aload_n 0, 1) := by decide +kernel
theorem dX2_init_1 : decode cX2_init 1 = .ok (.invokespecial 3, 3) := by decide +kernel
theorem dX2_init_4 : decode cX2_init 4 = .ok (.aload_n 0, 1) := by decide +kernel
theorem dX2_init_5 : decode cX2_init 5 = .ok (.iload_n 1, 1) := by decide +kernel
theorem dX2_init_6 : decode cX2_init 6 = .ok (.putfield 9, 3) := by decide +kernel
theorem dX2_init_9 : decode cX2_init 9 = .ok (.return_, 1) := by decide +kernel
theorem dX2_copyFrom_0 : decode cX2_copyFrom 0 = .ok (.aload_n 0, 1) := by decide +kernel
theorem dX2_copyFrom_1 : decode cX2_copyFrom 1 = .ok (.aload_n 1, 1) := by decide +kernel
theorem dX2_copyFrom_2 : decode cX2_copyFrom 2 = .ok (.getfield 15, 3) := by decide +kernel
theorem dX2_copyFrom_5 : decode cX2_copyFrom 5 = .ok (.putfield 15, 3) := by decide +kernel
theorem dX2_copyFrom_8 : decode cX2_copyFrom 8 = .ok (.aload_n 0, 1) := by decide +kernel
theorem dX2_copyFrom_9 : decode cX2_copyFrom 9 = .ok (.aload_n 1, 1) := by decide +kernel
theorem dX2_copyFrom_10 : decode cX2_copyFrom 10 = .ok (.getfield 18, 3) := by decide +kernel
theorem dX2_copyFrom_13 : decode cX2_copyFrom 13 = .ok (.putfield 18, 3) := by decide +kernel
theorem dX2_copyFrom_16 : decode cX2_copyFrom 16 = .ok (.aload_n 0, 1) := by decide +kernel
theorem dX2_copyFrom_17 : decode cX2_copyFrom 17 = .ok (.aload_n 1, 1) := by decide +kernel
theorem dX2_copyFrom_18 : decode cX2_copyFrom 18 = .ok (.getfield 21, 3) := by decide +kernel
theorem dX2_copyFrom_21 : decode cX2_copyFrom 21 = .ok (.putfield 21, 3) := by decide +kernel
theorem dX2_copyFrom_24 : decode cX2_copyFrom 24 = .ok (.aload_n 0, 1) := by decide +kernel
theorem dX2_copyFrom_25 : decode cX2_copyFrom 25 = .ok (.aload_n 1, 1) := by decide +kernel
theorem dX2_copyFrom_26 : decode cX2_copyFrom 26 = .ok (.getfield 24, 3) := by decide +kernel
theorem dX2_copyFrom_29 : decode cX2_copyFrom 29 = .ok (.putfield 24, 3) := by decide +kernel
theorem dX2_copyFrom_32 : decode cX2_copyFrom 32 = .ok (.aload_n 0, 1) := by decide +kernel
theorem dX2_copyFrom_33 : decode cX2_copyFrom 33 = .ok (.aload_n 1, 1) := by decide +kernel
theorem dX2_copyFrom_34 : decode cX2_copyFrom 34 = .ok (.getfield 27, 3) := by decide +kernel
theorem dX2_copyFrom_37 : decode cX2_copyFrom 37 = .ok (.putfield 27, 3) := by decide +kernel
theorem dX2_copyFrom_40 : decode cX2_copyFrom 40 = .ok (.aload_n 0, 1) := by decide +kernel
theorem dX2_copyFrom_41 : decode cX2_copyFrom 41 = .ok (.aload_n 1, 1) := by decide +kernel
theorem dX2_copyFrom_42 : decode cX2_copyFrom 42 = .ok (.getfield 30, 3) := by decide +kernel
theorem dX2_copyFrom_45 : decode cX2_copyFrom 45 = .ok (.putfield 30, 3) := by decide +kernel
theorem dX2_copyFrom_48 : decode cX2_copyFrom 48 = .ok (.aload_n 0, 1) := by decide +kernel
theorem dX2_copyFrom_49 : decode cX2_copyFrom 49 = .ok (.aload_n 1, 1) := by decide +kernel
theorem dX2_copyFrom_50 : decode cX2_copyFrom 50 = .ok (.getfield 33, 3) := by decide +kernel
theorem dX2_copyFrom_53 : decode cX2_copyFrom 53 = .ok (.putfield 33, 3) := by decide +kernel
theorem dX2_copyFrom_56 : decode cX2_copyFrom 56 = .ok (.aload_n 0, 1) := by decide +kernel
theorem dX2_copyFrom_57 : decode cX2_copyFrom 57 = .ok (.aload_n 1, 1) := by decide +kernel
theorem dX2_copyFrom_58 : decode cX2_copyFrom 58 = .ok (.getfield 36, 3) := by decide +kernel
theorem dX2_copyFrom_61 : decode cX2_copyFrom 61 = .ok (.putfield 36, 3) := by decide +kernel
theorem dX2_copyFrom_64 : decode cX2_copyFrom 64 = .ok (.aload_n 0, 1) := by decide +kernel
theorem dX2_copyFrom_65 : decode cX2_copyFrom 65 = .ok (.aload_n 1, 1) := by decide +kernel
theorem dX2_copyFrom_66 : decode cX2_copyFrom 66 = .ok (.getfield 39, 3) := by decide +kernel
theorem dX2_copyFrom_69 : decode cX2_copyFrom 69 = .ok (.putfield 39, 3) := by decide +kernel
theorem dX2_copyFrom_72 : decode cX2_copyFrom 72 = .ok (.return_, 1) := by decide +kernel
theorem dX2_isDelivered_0 : decode cX2_isDelivered 0 = .ok (.aload_n 0, 1) := by decide +kernel
theorem dX2_isDelivered_1 : decode cX2_isDelivered 1 = .ok (.getfield 30, 3) := by decide +kernel
theorem dX2_isDelivered_4 : decode cX2_isDelivered 4 = .ok (.iconst (-1), 1) := by decide +kernel
theorem dX2_isDelivered_5 : decode cX2_isDelivered 5 = .ok (.if_icmp .eq 7, 3) := by decide +kernel
theorem dX2_isDelivered_8 : decode cX2_isDelivered 8 = .ok (.iconst 1, 1) := by decide +kernel
theorem dX2_isDelivered_9 : decode cX2_isDelivered 9 = .ok (.goto 4, 3) := by decide +kernel
theorem dX2_isDelivered_12 : decode cX2_isDelivered 12 = .ok (.iconst 0, 1) := by decide +kernel
theorem dX2_isDelivered_13 : decode cX2_isDelivered 13 = .ok (.ireturn, 1) := by decide +kernel
theorem dX2_isHeldAt_0 : decode cX2_isHeldAt 0 = .ok (.aload_n 0, 1) := by decide +kernel
theorem dX2_isHeldAt_1 : decode cX2_isHeldAt 1 = .ok (.getfield 24, 3) := by decide +kernel
theorem dX2_isHeldAt_4 : decode cX2_isHeldAt 4 = .ok (.iconst (-1), 1) := by decide +kernel
theorem dX2_isHeldAt_5 : decode cX2_isHeldAt 5 = .ok (.if_icmp .eq 15, 3) := by decide +kernel
theorem dX2_isHeldAt_8 : decode cX2_isHeldAt 8 = .ok (.iload_n 1, 1) := by decide +kernel
theorem dX2_isHeldAt_9 : decode cX2_isHeldAt 9 = .ok (.aload_n 0, 1) := by decide +kernel
theorem dX2_isHeldAt_10 : decode cX2_isHeldAt 10 = .ok (.getfield 39, 3) := by decide +kernel
theorem dX2_isHeldAt_13 : decode cX2_isHeldAt 13 = .ok (.if_icmp .ge 7, 3) := by decide +kernel
theorem dX2_isHeldAt_16 : decode cX2_isHeldAt 16 = .ok (.iconst 1, 1) := by decide +kernel
theorem dX2_isHeldAt_17 : decode cX2_isHeldAt 17 = .ok (.goto 4, 3) := by decide +kernel
theorem dX2_isHeldAt_20 : decode cX2_isHeldAt 20 = .ok (.iconst 0, 1) := by decide +kernel
theorem dX2_isHeldAt_21 : decode cX2_isHeldAt 21 = .ok (.ireturn, 1) := by decide +kernel
theorem dX2_isReadyAt_0 : decode cX2_isReadyAt 0 = .ok (.aload_n 0, 1) := by decide +kernel
theorem dX2_isReadyAt_1 : decode cX2_isReadyAt 1 = .ok (.getfield 24, 3) := by decide +kernel
theorem dX2_isReadyAt_4 : decode cX2_isReadyAt 4 = .ok (.iconst (-1), 1) := by decide +kernel
theorem dX2_isReadyAt_5 : decode cX2_isReadyAt 5 = .ok (.if_icmp .eq 23, 3) := by decide +kernel
theorem dX2_isReadyAt_8 : decode cX2_isReadyAt 8 = .ok (.aload_n 0, 1) := by decide +kernel
theorem dX2_isReadyAt_9 : decode cX2_isReadyAt 9 = .ok (.getfield 24, 3) := by decide +kernel
theorem dX2_isReadyAt_12 : decode cX2_isReadyAt 12 = .ok (.iload_n 1, 1) := by decide +kernel
theorem dX2_isReadyAt_13 : decode cX2_isReadyAt 13 = .ok (.if_icmp .ne 15, 3) := by decide +kernel
theorem dX2_isReadyAt_16 : decode cX2_isReadyAt 16 = .ok (.iload_n 2, 1) := by decide +kernel
theorem dX2_isReadyAt_17 : decode cX2_isReadyAt 17 = .ok (.aload_n 0, 1) := by decide +kernel
theorem dX2_isReadyAt_18 : decode cX2_isReadyAt 18 = .ok (.getfield 39, 3) := by decide +kernel
theorem dX2_isReadyAt_21 : decode cX2_isReadyAt 21 = .ok (.if_icmp .lt 7, 3) := by decide +kernel
theorem dX2_isReadyAt_24 : decode cX2_isReadyAt 24 = .ok (.iconst 1, 1) := by decide +kernel
theorem dX2_isReadyAt_25 : decode cX2_isReadyAt 25 = .ok (.goto 4, 3) := by decide +kernel
theorem dX2_isReadyAt_28 : decode cX2_isReadyAt 28 = .ok (.iconst 0, 1) := by decide +kernel
theorem dX2_isReadyAt_29 : decode cX2_isReadyAt 29 = .ok (.ireturn, 1) := by decide +kernel
theorem dX2_isConsideredBefore_0 : decode cX2_isConsideredBefore 0 = .ok (.aload_n 0, 1) := by decide +kernel
theorem dX2_isConsideredBefore_1 : decode cX2_isConsideredBefore 1 = .ok (.getfield 21, 3) := by decide +kernel
theorem dX2_isConsideredBefore_4 : decode cX2_isConsideredBefore 4 = .ok (.aload_n 1, 1) := by decide +kernel
theorem dX2_isConsideredBefore_5 : decode cX2_isConsideredBefore 5 = .ok (.getfield 21, 3) := by decide +kernel
theorem dX2_isConsideredBefore_8 : decode cX2_isConsideredBefore 8 = .ok (.if_icmp .gt 25, 3) := by decide +kernel
theorem dX2_isConsideredBefore_11 : decode cX2_isConsideredBefore 11 = .ok (.aload_n 0, 1) := by decide +kernel
theorem dX2_isConsideredBefore_12 : decode cX2_isConsideredBefore 12 = .ok (.getfield 21, 3) := by decide +kernel
theorem dX2_isConsideredBefore_15 : decode cX2_isConsideredBefore 15 = .ok (.aload_n 1, 1) := by decide +kernel
theorem dX2_isConsideredBefore_16 : decode cX2_isConsideredBefore 16 = .ok (.getfield 21, 3) := by decide +kernel
theorem dX2_isConsideredBefore_19 : decode cX2_isConsideredBefore 19 = .ok (.if_icmp .ne 18, 3) := by decide +kernel
theorem dX2_isConsideredBefore_22 : decode cX2_isConsideredBefore 22 = .ok (.aload_n 0, 1) := by decide +kernel
theorem dX2_isConsideredBefore_23 : decode cX2_isConsideredBefore 23 = .ok (.getfield 9, 3) := by decide +kernel
theorem dX2_isConsideredBefore_26 : decode cX2_isConsideredBefore 26 = .ok (.aload_n 1, 1) := by decide +kernel
theorem dX2_isConsideredBefore_27 : decode cX2_isConsideredBefore 27 = .ok (.getfield 9, 3) := by decide +kernel
theorem dX2_isConsideredBefore_30 : decode cX2_isConsideredBefore 30 = .ok (.if_icmp .ge 7, 3) := by decide +kernel
theorem dX2_isConsideredBefore_33 : decode cX2_isConsideredBefore 33 = .ok (.iconst 1, 1) := by decide +kernel
theorem dX2_isConsideredBefore_34 : decode cX2_isConsideredBefore 34 = .ok (.goto 4, 3) := by decide +kernel
theorem dX2_isConsideredBefore_37 : decode cX2_isConsideredBefore 37 = .ok (.iconst 0, 1) := by decide +kernel
theorem dX2_isConsideredBefore_38 : decode cX2_isConsideredBefore 38 = .ok (.ireturn, 1) := by decide +kernel
theorem dX2_board_0 : decode cX2_board 0 = .ok (.aload_n 0, 1) := by decide +kernel
theorem dX2_board_1 : decode cX2_board 1 = .ok (.iconst (-1), 1) := by decide +kernel
theorem dX2_board_2 : decode cX2_board 2 = .ok (.putfield 24, 3) := by decide +kernel
theorem dX2_board_5 : decode cX2_board 5 = .ok (.aload_n 0, 1) := by decide +kernel
theorem dX2_board_6 : decode cX2_board 6 = .ok (.iload_n 1, 1) := by decide +kernel
theorem dX2_board_7 : decode cX2_board 7 = .ok (.putfield 27, 3) := by decide +kernel
theorem dX2_board_10 : decode cX2_board 10 = .ok (.aload_n 0, 1) := by decide +kernel
theorem dX2_board_11 : decode cX2_board 11 = .ok (.iload_n 2, 1) := by decide +kernel
theorem dX2_board_12 : decode cX2_board 12 = .ok (.putfield 33, 3) := by decide +kernel
theorem dX2_board_15 : decode cX2_board 15 = .ok (.return_, 1) := by decide +kernel
theorem dX2_deliver_0 : decode cX2_deliver 0 = .ok (.aload_n 0, 1) := by decide +kernel
theorem dX2_deliver_1 : decode cX2_deliver 1 = .ok (.iconst (-1), 1) := by decide +kernel
theorem dX2_deliver_2 : decode cX2_deliver 2 = .ok (.putfield 24, 3) := by decide +kernel
theorem dX2_deliver_5 : decode cX2_deliver 5 = .ok (.aload_n 0, 1) := by decide +kernel
theorem dX2_deliver_6 : decode cX2_deliver 6 = .ok (.iconst (-1), 1) := by decide +kernel
theorem dX2_deliver_7 : decode cX2_deliver 7 = .ok (.putfield 27, 3) := by decide +kernel
theorem dX2_deliver_10 : decode cX2_deliver 10 = .ok (.aload_n 0, 1) := by decide +kernel
theorem dX2_deliver_11 : decode cX2_deliver 11 = .ok (.iconst (-1), 1) := by decide +kernel
theorem dX2_deliver_12 : decode cX2_deliver 12 = .ok (.putfield 33, 3) := by decide +kernel
theorem dX2_deliver_15 : decode cX2_deliver 15 = .ok (.aload_n 0, 1) := by decide +kernel
theorem dX2_deliver_16 : decode cX2_deliver 16 = .ok (.iload_n 1, 1) := by decide +kernel
theorem dX2_deliver_17 : decode cX2_deliver 17 = .ok (.putfield 30, 3) := by decide +kernel
theorem dX2_deliver_20 : decode cX2_deliver 20 = .ok (.return_, 1) := by decide +kernel
theorem dX2_transferTo_0 : decode cX2_transferTo 0 = .ok (.aload_n 0, 1) := by decide +kernel
theorem dX2_transferTo_1 : decode cX2_transferTo 1 = .ok (.iload_n 1, 1) := by decide +kernel
theorem dX2_transferTo_2 : decode cX2_transferTo 2 = .ok (.putfield 24, 3) := by decide +kernel
theorem dX2_transferTo_5 : decode cX2_transferTo 5 = .ok (.aload_n 0, 1) := by decide +kernel
theorem dX2_transferTo_6 : decode cX2_transferTo 6 = .ok (.iconst (-1), 1) := by decide +kernel
theorem dX2_transferTo_7 : decode cX2_transferTo 7 = .ok (.putfield 27, 3) := by decide +kernel
theorem dX2_transferTo_10 : decode cX2_transferTo 10 = .ok (.aload_n 0, 1) := by decide +kernel
theorem dX2_transferTo_11 : decode cX2_transferTo 11 = .ok (.iconst (-1), 1) := by decide +kernel
theorem dX2_transferTo_12 : decode cX2_transferTo 12 = .ok (.putfield 33, 3) := by decide +kernel
theorem dX2_transferTo_15 : decode cX2_transferTo 15 = .ok (.aload_n 0, 1) := by decide +kernel
theorem dX2_transferTo_16 : decode cX2_transferTo 16 = .ok (.dup, 1) := by decide +kernel
theorem dX2_transferTo_17 : decode cX2_transferTo 17 = .ok (.getfield 36, 3) := by decide +kernel
theorem dX2_transferTo_20 : decode cX2_transferTo 20 = .ok (.iconst 1, 1) := by decide +kernel
theorem dX2_transferTo_21 : decode cX2_transferTo 21 = .ok (.iadd, 1) := by decide +kernel
theorem dX2_transferTo_22 : decode cX2_transferTo 22 = .ok (.putfield 36, 3) := by decide +kernel
theorem dX2_transferTo_25 : decode cX2_transferTo 25 = .ok (.aload_n 0, 1) := by decide +kernel
theorem dX2_transferTo_26 : decode cX2_transferTo 26 = .ok (.iload_n 2, 1) := by decide +kernel
theorem dX2_transferTo_27 : decode cX2_transferTo 27 = .ok (.putfield 39, 3) := by decide +kernel
theorem dX2_transferTo_30 : decode cX2_transferTo 30 = .ok (.return_, 1) := by decide +kernel
theorem dX2_returnToSender_0 : decode cX2_returnToSender 0 = .ok (.aload_n 0, 1) := by decide +kernel
theorem dX2_returnToSender_1 : decode cX2_returnToSender 1 = .ok (.getfield 24, 3) := by decide +kernel
theorem dX2_returnToSender_4 : decode cX2_returnToSender 4 = .ok (.aload_n 0, 1) := by decide +kernel
theorem dX2_returnToSender_5 : decode cX2_returnToSender 5 = .ok (.getfield 15, 3) := by decide +kernel
theorem dX2_returnToSender_8 : decode cX2_returnToSender 8 = .ok (.if_icmp .ne 9, 3) := by decide +kernel
theorem dX2_returnToSender_11 : decode cX2_returnToSender 11 = .ok (.aload_n 0, 1) := by decide +kernel
theorem dX2_returnToSender_12 : decode cX2_returnToSender 12 = .ok (.iload_n 1, 1) := by decide +kernel
theorem dX2_returnToSender_13 : decode cX2_returnToSender 13 = .ok (.invokevirtual 42, 3) := by decide +kernel
theorem dX2_returnToSender_16 : decode cX2_returnToSender 16 = .ok (.return_, 1) := by decide +kernel
theorem dX2_returnToSender_17 : decode cX2_returnToSender 17 = .ok (.aload_n 0, 1) := by decide +kernel
theorem dX2_returnToSender_18 : decode cX2_returnToSender 18 = .ok (.aload_n 0, 1) := by decide +kernel
theorem dX2_returnToSender_19 : decode cX2_returnToSender 19 = .ok (.getfield 15, 3) := by decide +kernel
theorem dX2_returnToSender_22 : decode cX2_returnToSender 22 = .ok (.putfield 18, 3) := by decide +kernel
theorem dX2_returnToSender_25 : decode cX2_returnToSender 25 = .ok (.aload_n 0, 1) := by decide +kernel
theorem dX2_returnToSender_26 : decode cX2_returnToSender 26 = .ok (.aload_n 0, 1) := by decide +kernel
theorem dX2_returnToSender_27 : decode cX2_returnToSender 27 = .ok (.getfield 24, 3) := by decide +kernel
theorem dX2_returnToSender_30 : decode cX2_returnToSender 30 = .ok (.putfield 15, 3) := by decide +kernel
theorem dX2_returnToSender_33 : decode cX2_returnToSender 33 = .ok (.aload_n 0, 1) := by decide +kernel
theorem dX2_returnToSender_34 : decode cX2_returnToSender 34 = .ok (.iconst 0, 1) := by decide +kernel
theorem dX2_returnToSender_35 : decode cX2_returnToSender 35 = .ok (.putfield 39, 3) := by decide +kernel
theorem dX2_returnToSender_38 : decode cX2_returnToSender 38 = .ok (.return_, 1) := by decide +kernel
theorem dX3_init_0 : decode cX3_init 0 = .ok (.aload_n 0, 1) := by decide +kernel
theorem dX3_init_1 : decode cX3_init 1 = .ok (.invokespecial 3, 3) := by decide +kernel
theorem dX3_init_4 : decode cX3_init 4 = .ok (.aload_n 0, 1) := by decide +kernel
theorem dX3_init_5 : decode cX3_init 5 = .ok (.new 9, 3) := by decide +kernel
theorem dX3_init_8 : decode cX3_init 8 = .ok (.dup, 1) := by decide +kernel
theorem dX3_init_9 : decode cX3_init 9 = .ok (.invokespecial 11, 3) := by decide +kernel
theorem dX3_init_12 : decode cX3_init 12 = .ok (.putfield 12, 3) := by decide +kernel
theorem dX3_init_15 : decode cX3_init 15 = .ok (.aload_n 0, 1) := by decide +kernel
theorem dX3_init_16 : decode cX3_init 16 = .ok (.new 18, 3) := by decide +kernel
theorem dX3_init_19 : decode cX3_init 19 = .ok (.dup, 1) := by decide +kernel
theorem dX3_init_20 : decode cX3_init 20 = .ok (.invokespecial 20, 3) := by decide +kernel
theorem dX3_init_23 : decode cX3_init 23 = .ok (.putfield 21, 3) := by decide +kernel
theorem dX3_init_26 : decode cX3_init 26 = .ok (.aload_n 0, 1) := by decide +kernel
theorem dX3_init_27 : decode cX3_init 27 = .ok (.iconst (-1), 1) := by decide +kernel
theorem dX3_init_28 : decode cX3_init 28 = .ok (.putfield 25, 3) := by decide +kernel
theorem dX3_init_31 : decode cX3_init 31 = .ok (.aload_n 0, 1) := by decide +kernel
theorem dX3_init_32 : decode cX3_init 32 = .ok (.bipush 6, 2) := by decide +kernel
theorem dX3_init_34 : decode cX3_init 34 = .ok (.newarray .int, 2) := by decide +kernel
theorem dX3_init_36 : decode cX3_init 36 = .ok (.putfield 29, 3) := by decide +kernel
theorem dX3_init_39 : decode cX3_init 39 = .ok (.return_, 1) := by decide +kernel
theorem dX3_parse_0 : decode cX3_parse 0 = .ok (.aload_n 0, 1) := by decide +kernel
theorem dX3_parse_1 : decode cX3_parse 1 = .ok (.getfield 21, 3) := by decide +kernel
theorem dX3_parse_4 : decode cX3_parse 4 = .ok (.invokevirtual 33, 3) := by decide +kernel
theorem dX3_parse_7 : decode cX3_parse 7 = .ok (.aload_n 0, 1) := by decide +kernel
theorem dX3_parse_8 : decode cX3_parse 8 = .ok (.iconst 0, 1) := by decide +kernel
theorem dX3_parse_9 : decode cX3_parse 9 = .ok (.putfield 36, 3) := by decide +kernel
theorem dX3_parse_12 : decode cX3_parse 12 = .ok (.aload_n 0, 1) := by decide +kernel
theorem dX3_parse_13 : decode cX3_parse 13 = .ok (.iconst (-1), 1) := by decide +kernel
theorem dX3_parse_14 : decode cX3_parse 14 = .ok (.putfield 25, 3) := by decide +kernel
theorem dX3_parse_17 : decode cX3_parse 17 = .ok (.aload_n 0, 1) := by decide +kernel
theorem dX3_parse_18 : decode cX3_parse 18 = .ok (.getfield 12, 3) := by decide +kernel
theorem dX3_parse_21 : decode cX3_parse 21 = .ok (.invokevirtual 39, 3) := by decide +kernel
theorem dX3_parse_24 : decode cX3_parse 24 = .ok (.iconst 0, 1) := by decide +kernel
theorem dX3_parse_25 : decode cX3_parse 25 = .ok (.istore_n 1, 1) := by decide +kernel
theorem dX3_parse_26 : decode cX3_parse 26 = .ok (.iload_n 1, 1) := by decide +kernel
theorem dX3_parse_27 : decode cX3_parse 27 = .ok (.sipush 600, 3) := by decide +kernel
theorem dX3_parse_30 : decode cX3_parse 30 = .ok (.if_icmp .ge 66, 3) := by decide +kernel
theorem dX3_parse_33 : decode cX3_parse 33 = .ok (.aload_n 0, 1) := by decide +kernel
theorem dX3_parse_34 : decode cX3_parse 34 = .ok (.getfield 36, 3) := by decide +kernel
theorem dX3_parse_37 : decode cX3_parse 37 = .ok (.ifCond .ne 59, 3) := by decide +kernel
theorem dX3_parse_40 : decode cX3_parse 40 = .ok (.aload_n 0, 1) := by decide +kernel
theorem dX3_parse_41 : decode cX3_parse 41 = .ok (.getfield 12, 3) := by decide +kernel
theorem dX3_parse_44 : decode cX3_parse 44 = .ok (.getfield 42, 3) := by decide +kernel
theorem dX3_parse_47 : decode cX3_parse 47 = .ok (.ifCond .eq 49, 3) := by decide +kernel
theorem dX3_parse_50 : decode cX3_parse 50 = .ok (.aload_n 0, 1) := by decide +kernel
theorem dX3_parse_51 : decode cX3_parse 51 = .ok (.invokevirtual 45, 3) := by decide +kernel
theorem dX3_parse_54 : decode cX3_parse 54 = .ok (.aload_n 0, 1) := by decide +kernel
theorem dX3_parse_55 : decode cX3_parse 55 = .ok (.getfield 36, 3) := by decide +kernel
theorem dX3_parse_58 : decode cX3_parse 58 = .ok (.ifCond .ne 10, 3) := by decide +kernel
theorem dX3_parse_61 : decode cX3_parse 61 = .ok (.aload_n 0, 1) := by decide +kernel
theorem dX3_parse_62 : decode cX3_parse 62 = .ok (.invokevirtual 48, 3) := by decide +kernel
theorem dX3_parse_65 : decode cX3_parse 65 = .ok (.goto 4, 3) := by decide +kernel
theorem dX3_parse_68 : decode cX3_parse 68 = .ok (.iconst 0, 1) := by decide +kernel
theorem dX3_parse_69 : decode cX3_parse 69 = .ok (.istore_n 2, 1) := by decide +kernel
theorem dX3_parse_70 : decode cX3_parse 70 = .ok (.iconst 0, 1) := by decide +kernel
theorem dX3_parse_71 : decode cX3_parse 71 = .ok (.istore_n 3, 1) := by decide +kernel
theorem dX3_parse_72 : decode cX3_parse 72 = .ok (.iload_n 3, 1) := by decide +kernel
theorem dX3_parse_73 : decode cX3_parse 73 = .ok (.iload_n 2, 1) := by decide +kernel
theorem dX3_parse_74 : decode cX3_parse 74 = .ok (.if_icmp .ge 16, 3) := by decide +kernel
theorem dX3_parse_77 : decode cX3_parse 77 = .ok (.aload_n 0, 1) := by decide +kernel
theorem dX3_parse_78 : decode cX3_parse 78 = .ok (.getfield 21, 3) := by decide +kernel
theorem dX3_parse_81 : decode cX3_parse 81 = .ok (.invokevirtual 52, 3) := by decide +kernel
theorem dX3_parse_84 : decode cX3_parse 84 = .ok (.iinc 3 1, 3) := by decide +kernel
theorem dX3_parse_87 : decode cX3_parse 87 = .ok (.goto (-15), 3) := by decide +kernel
theorem dX3_parse_90 : decode cX3_parse 90 = .ok (.iinc 1 1, 3) := by decide +kernel
theorem dX3_parse_93 : decode cX3_parse 93 = .ok (.goto (-67), 3) := by decide +kernel
theorem dX3_parse_96 : decode cX3_parse 96 = .ok (.aload_n 0, 1) := by decide +kernel
theorem dX3_parse_97 : decode cX3_parse 97 = .ok (.getfield 12, 3) := by decide +kernel
theorem dX3_parse_100 : decode cX3_parse 100 = .ok (.iconst 0, 1) := by decide +kernel
theorem dX3_parse_101 : decode cX3_parse 101 = .ok (.putfield 55, 3) := by decide +kernel
theorem dX3_parse_104 : decode cX3_parse 104 = .ok (.return_, 1) := by decide +kernel
theorem dX3_fail_0 : decode cX3_fail 0 = .ok (.aload_n 0, 1) := by decide +kernel
theorem dX3_fail_1 : decode cX3_fail 1 = .ok (.getfield 36, 3) := by decide +kernel
theorem dX3_fail_4 : decode cX3_fail 4 = .ok (.ifCond .ne 19, 3) := by decide +kernel
theorem dX3_fail_7 : decode cX3_fail 7 = .ok (.aload_n 0, 1) := by decide +kernel
theorem dX3_fail_8 : decode cX3_fail 8 = .ok (.iload_n 1, 1) := by decide +kernel
theorem dX3_fail_9 : decode cX3_fail 9 = .ok (.putfield 36, 3) := by decide +kernel
theorem dX3_fail_12 : decode cX3_fail 12 = .ok (.aload_n 0, 1) := by decide +kernel
theorem dX3_fail_13 : decode cX3_fail 13 = .ok (.aload_n 0, 1) := by decide +kernel
theorem dX3_fail_14 : decode cX3_fail 14 = .ok (.getfield 12, 3) := by decide +kernel
theorem dX3_fail_17 : decode cX3_fail 17 = .ok (.getfield 58, 3) := by decide +kernel
theorem dX3_fail_20 : decode cX3_fail 20 = .ok (.putfield 25, 3) := by decide +kernel
theorem dX3_fail_23 : decode cX3_fail 23 = .ok (.return_, 1) := by decide +kernel
theorem dX3_readStatement_0 : decode cX3_readStatement 0 = .ok (.aload_n 0, 1) := by decide +kernel
theorem dX3_readStatement_1 : decode cX3_readStatement 1 = .ok (.aload_n 0, 1) := by decide +kernel
theorem dX3_readStatement_2 : decode cX3_readStatement 2 = .ok (.invokevirtual 61, 3) := by decide +kernel
theorem dX3_readStatement_5 : decode cX3_readStatement 5 = .ok (.putfield 64, 3) := by decide +kernel
theorem dX3_readStatement_8 : decode cX3_readStatement 8 = .ok (.aload_n 0, 1) := by decide +kernel
theorem dX3_readStatement_9 : decode cX3_readStatement 9 = .ok (.getfield 64, 3) := by decide +kernel
theorem dX3_readStatement_12 : decode cX3_readStatement 12 = .ok (.tableswitch 191 1 8 #[48, 48, 59, 89, 106, 136, 158, 177], 48) := by decide +kernel
theorem dX3_readStatement_60 : decode cX3_readStatement 60 = .ok (.aload_n 0, 1) := by decide +kernel
theorem dX3_readStatement_61 : decode cX3_readStatement 61 = .ok (.aload_n 0, 1) := by decide +kernel
theorem dX3_readStatement_62 : decode cX3_readStatement 62 = .ok (.invokevirtual 67, 3) := by decide +kernel
theorem dX3_readStatement_65 : decode cX3_readStatement 65 = .ok (.putfield 70, 3) := by decide +kernel
theorem dX3_readStatement_68 : decode cX3_readStatement 68 = .ok (.goto 135, 3) := by decide +kernel
theorem dX3_readStatement_71 : decode cX3_readStatement 71 = .ok (.aload_n 0, 1) := by decide +kernel
theorem dX3_readStatement_72 : decode cX3_readStatement 72 = .ok (.aload_n 0, 1) := by decide +kernel
theorem dX3_readStatement_73 : decode cX3_readStatement 73 = .ok (.invokevirtual 73, 3) := by decide +kernel
theorem dX3_readStatement_76 : decode cX3_readStatement 76 = .ok (.putfield 76, 3) := by decide +kernel
theorem dX3_readStatement_79 : decode cX3_readStatement 79 = .ok (.aload_n 0, 1) := by decide +kernel
theorem dX3_readStatement_80 : decode cX3_readStatement 80 = .ok (.aload_n 0, 1) := by decide +kernel
theorem dX3_readStatement_81 : decode cX3_readStatement 81 = .ok (.invokevirtual 79, 3) := by decide +kernel
theorem dX3_readStatement_84 : decode cX3_readStatement 84 = .ok (.putfield 82, 3) := by decide +kernel
theorem dX3_readStatement_87 : decode cX3_readStatement 87 = .ok (.aload_n 0, 1) := by decide +kernel
theorem dX3_readStatement_88 : decode cX3_readStatement 88 = .ok (.aload_n 0, 1) := by decide +kernel
theorem dX3_readStatement_89 : decode cX3_readStatement 89 = .ok (.iconst 1, 1) := by decide +kernel
theorem dX3_readStatement_90 : decode cX3_readStatement 90 = .ok (.bipush 9, 2) := by decide +kernel
theorem dX3_readStatement_92 : decode cX3_readStatement 92 = .ok (.invokevirtual 85, 3) := by decide +kernel
theorem dX3_readStatement_95 : decode cX3_readStatement 95 = .ok (.putfield 89, 3) := by decide +kernel
theorem dX3_readStatement_98 : decode cX3_readStatement 98 = .ok (.goto 105, 3) := by decide +kernel
theorem dX3_readStatement_101 : decode cX3_readStatement 101 = .ok (.aload_n 0, 1) := by decide +kernel
theorem dX3_readStatement_102 : decode cX3_readStatement 102 = .ok (.aload_n 0, 1) := by decide +kernel
theorem dX3_readStatement_103 : decode cX3_readStatement 103 = .ok (.iconst 1, 1) := by decide +kernel
theorem dX3_readStatement_104 : decode cX3_readStatement 104 = .ok (.iconst 4, 1) := by decide +kernel
theorem dX3_readStatement_105 : decode cX3_readStatement 105 = .ok (.invokevirtual 85, 3) := by decide +kernel
theorem dX3_readStatement_108 : decode cX3_readStatement 108 = .ok (.putfield 89, 3) := by decide +kernel
theorem dX3_readStatement_111 : decode cX3_readStatement 111 = .ok (.aload_n 0, 1) := by decide +kernel
theorem dX3_readStatement_112 : decode cX3_readStatement 112 = .ok (.invokevirtual 92, 3) := by decide +kernel
theorem dX3_readStatement_115 : decode cX3_readStatement 115 = .ok (.goto 88, 3) := by decide +kernel
theorem dX3_readStatement_118 : decode cX3_readStatement 118 = .ok (.aload_n 0, 1) := by decide +kernel
theorem dX3_readStatement_119 : decode cX3_readStatement 119 = .ok (.aload_n 0, 1) := by decide +kernel
theorem dX3_readStatement_120 : decode cX3_readStatement 120 = .ok (.invokevirtual 73, 3) := by decide +kernel
theorem dX3_readStatement_123 : decode cX3_readStatement 123 = .ok (.putfield 76, 3) := by decide +kernel
theorem dX3_readStatement_126 : decode cX3_readStatement 126 = .ok (.aload_n 0, 1) := by decide +kernel
theorem dX3_readStatement_127 : decode cX3_readStatement 127 = .ok (.aload_n 0, 1) := by decide +kernel
theorem dX3_readStatement_128 : decode cX3_readStatement 128 = .ok (.invokevirtual 79, 3) := by decide +kernel
theorem dX3_readStatement_131 : decode cX3_readStatement 131 = .ok (.putfield 82, 3) := by decide +kernel
theorem dX3_readStatement_134 : decode cX3_readStatement 134 = .ok (.aload_n 0, 1) := by decide +kernel
theorem dX3_readStatement_135 : decode cX3_readStatement 135 = .ok (.aload_n 0, 1) := by decide +kernel
theorem dX3_readStatement_136 : decode cX3_readStatement 136 = .ok (.iconst 1, 1) := by decide +kernel
theorem dX3_readStatement_137 : decode cX3_readStatement 137 = .ok (.bipush 9, 2) := by decide +kernel
theorem dX3_readStatement_139 : decode cX3_readStatement 139 = .ok (.invokevirtual 85, 3) := by decide +kernel
theorem dX3_readStatement_142 : decode cX3_readStatement 142 = .ok (.putfield 89, 3) := by decide +kernel
theorem dX3_readStatement_145 : decode cX3_readStatement 145 = .ok (.goto 58, 3) := by decide +kernel
theorem dX3_readStatement_148 : decode cX3_readStatement 148 = .ok (.aload_n 0, 1) := by decide +kernel
theorem dX3_readStatement_149 : decode cX3_readStatement 149 = .ok (.aload_n 0, 1) := by decide +kernel
theorem dX3_readStatement_150 : decode cX3_readStatement 150 = .ok (.invokevirtual 73, 3) := by decide +kernel
theorem dX3_readStatement_153 : decode cX3_readStatement 153 = .ok (.putfield 76, 3) := by decide +kernel
theorem dX3_readStatement_156 : decode cX3_readStatement 156 = .ok (.aload_n 0, 1) := by decide +kernel
theorem dX3_readStatement_157 : decode cX3_readStatement 157 = .ok (.aload_n 0, 1) := by decide +kernel
theorem dX3_readStatement_158 : decode cX3_readStatement 158 = .ok (.iconst 0, 1) := by decide +kernel
theorem dX3_readStatement_159 : decode cX3_readStatement 159 = .ok (.bipush 9, 2) := by decide +kernel
theorem dX3_readStatement_161 : decode cX3_readStatement 161 = .ok (.invokevirtual 85, 3) := by decide +kernel
theorem dX3_readStatement_164 : decode cX3_readStatement 164 = .ok (.putfield 89, 3) := by decide +kernel
theorem dX3_readStatement_167 : decode cX3_readStatement 167 = .ok (.goto 36, 3) := by decide +kernel
theorem dX3_readStatement_170 : decode cX3_readStatement 170 = .ok (.aload_n 0, 1) := by decide +kernel
theorem dX3_readStatement_171 : decode cX3_readStatement 171 = .ok (.aload_n 0, 1) := by decide +kernel
theorem dX3_readStatement_172 : decode cX3_readStatement 172 = .ok (.invokevirtual 73, 3) := by decide +kernel
theorem dX3_readStatement_175 : decode cX3_readStatement 175 = .ok (.putfield 76, 3) := by decide +kernel
theorem dX3_readStatement_178 : decode cX3_readStatement 178 = .ok (.aload_n 0, 1) := by decide +kernel
theorem dX3_readStatement_179 : decode cX3_readStatement 179 = .ok (.aload_n 0, 1) := by decide +kernel
theorem dX3_readStatement_180 : decode cX3_readStatement 180 = .ok (.invokevirtual 79, 3) := by decide +kernel
theorem dX3_readStatement_183 : decode cX3_readStatement 183 = .ok (.putfield 82, 3) := by decide +kernel
theorem dX3_readStatement_186 : decode cX3_readStatement 186 = .ok (.goto 17, 3) := by decide +kernel
theorem dX3_readStatement_189 : decode cX3_readStatement 189 = .ok (.aload_n 0, 1) := by decide +kernel
theorem dX3_readStatement_190 : decode cX3_readStatement 190 = .ok (.aload_n 0, 1) := by decide +kernel
theorem dX3_readStatement_191 : decode cX3_readStatement 191 = .ok (.iconst 0, 1) := by decide +kernel
theorem dX3_readStatement_192 : decode cX3_readStatement 192 = .ok (.bipush 60, 2) := by decide +kernel
theorem dX3_readStatement_194 : decode cX3_readStatement 194 = .ok (.invokevirtual 85, 3) := by decide +kernel
theorem dX3_readStatement_197 : decode cX3_readStatement 197 = .ok (.putfield 89, 3) := by decide +kernel
theorem dX3_readStatement_200 : decode cX3_readStatement 200 = .ok (.goto 3, 3) := by decide +kernel
theorem dX3_readStatement_203 : decode cX3_readStatement 203 = .ok (.aload_n 0, 1) := by decide +kernel
theorem dX3_readStatement_204 : decode cX3_readStatement 204 = .ok (.getfield 12, 3) := by decide +kernel
theorem dX3_readStatement_207 : decode cX3_readStatement 207 = .ok (.getfield 42, 3) := by decide +kernel
theorem dX3_readStatement_210 : decode cX3_readStatement 210 = .ok (.iconst 3, 1) := by decide +kernel
theorem dX3_readStatement_211 : decode cX3_readStatement 211 = .ok (.if_icmp .eq 8, 3) := by decide +kernel
theorem dX3_readStatement_214 : decode cX3_readStatement 214 = .ok (.aload_n 0, 1) := by decide +kernel
theorem dX3_readStatement_215 : decode cX3_readStatement 215 = .ok (.iconst 1, 1) := by decide +kernel
theorem dX3_readStatement_216 : decode cX3_readStatement 216 = .ok (.invokevirtual 95, 3) := by decide +kernel
theorem dX3_readStatement_219 : decode cX3_readStatement 219 = .ok (.aload_n 0, 1) := by decide +kernel
theorem dX3_readStatement_220 : decode cX3_readStatement 220 = .ok (.getfield 12, 3) := by decide +kernel
theorem dX3_readStatement_223 : decode cX3_readStatement 223 = .ok (.invokevirtual 99, 3) := by decide +kernel
theorem dX3_readStatement_226 : decode cX3_readStatement 226 = .ok (.return_, 1) := by decide +kernel
theorem dX3_execute_0 : decode cX3_execute 0 = .ok (.aload_n 0, 1) := by decide +kernel
theorem dX3_execute_1 : decode cX3_execute 1 = .ok (.getfield 64, 3) := by decide +kernel
theorem dX3_execute_4 : decode cX3_execute 4 = .ok (.tableswitch 181 1 7 #[44, 44, 71, 93, 115, 137, 155], 44) := by decide +kernel
theorem dX3_execute_48 : decode cX3_execute 48 = .ok (.aload_n 0, 1) := by decide +kernel
theorem dX3_execute_49 : decode cX3_execute 49 = .ok (.getfield 21, 3) := by decide +kernel
theorem dX3_execute_52 : decode cX3_execute 52 = .ok (.aload_n 0, 1) := by decide +kernel
theorem dX3_execute_53 : decode cX3_execute 53 = .ok (.getfield 70, 3) := by decide +kernel
theorem dX3_execute_56 : decode cX3_execute 56 = .ok (.aload_n 0, 1) := by decide +kernel
theorem dX3_execute_57 : decode cX3_execute 57 = .ok (.getfield 64, 3) := by decide +kernel
theorem dX3_execute_60 : decode cX3_execute 60 = .ok (.iconst 2, 1) := by decide +kernel
theorem dX3_execute_61 : decode cX3_execute 61 = .ok (.if_icmp .ne 7, 3) := by decide +kernel
theorem dX3_execute_64 : decode cX3_execute 64 = .ok (.iconst 1, 1) := by decide +kernel
theorem dX3_execute_65 : decode cX3_execute 65 = .ok (.goto 4, 3) := by decide +kernel
theorem dX3_execute_68 : decode cX3_execute 68 = .ok (.iconst 0, 1) := by decide +kernel
theorem dX3_execute_69 : decode cX3_execute 69 = .ok (.invokevirtual 102, 3) := by decide +kernel
theorem dX3_execute_72 : decode cX3_execute 72 = .ok (.goto 113, 3) := by decide +kernel
theorem dX3_execute_75 : decode cX3_execute 75 = .ok (.aload_n 0, 1) := by decide +kernel
theorem dX3_execute_76 : decode cX3_execute 76 = .ok (.getfield 21, 3) := by decide +kernel
theorem dX3_execute_79 : decode cX3_execute 79 = .ok (.aload_n 0, 1) := by decide +kernel
theorem dX3_execute_80 : decode cX3_execute 80 = .ok (.getfield 76, 3) := by decide +kernel
theorem dX3_execute_83 : decode cX3_execute 83 = .ok (.aload_n 0, 1) := by decide +kernel
theorem dX3_execute_84 : decode cX3_execute 84 = .ok (.getfield 82, 3) := by decide +kernel
theorem dX3_execute_87 : decode cX3_execute 87 = .ok (.aload_n 0, 1) := by decide +kernel
theorem dX3_execute_88 : decode cX3_execute 88 = .ok (.getfield 89, 3) := by decide +kernel
theorem dX3_execute_91 : decode cX3_execute 91 = .ok (.invokevirtual 106, 3) := by decide +kernel
theorem dX3_execute_94 : decode cX3_execute 94 = .ok (.goto 91, 3) := by decide +kernel
theorem dX3_execute_97 : decode cX3_execute 97 = .ok (.aload_n 0, 1) := by decide +kernel
theorem dX3_execute_98 : decode cX3_execute 98 = .ok (.getfield 21, 3) := by decide +kernel
theorem dX3_execute_101 : decode cX3_execute 101 = .ok (.aload_n 0, 1) := by decide +kernel
theorem dX3_execute_102 : decode cX3_execute 102 = .ok (.getfield 89, 3) := by decide +kernel
theorem dX3_execute_105 : decode cX3_execute 105 = .ok (.aload_n 0, 1) := by decide +kernel
theorem dX3_execute_106 : decode cX3_execute 106 = .ok (.getfield 29, 3) := by decide +kernel
theorem dX3_execute_109 : decode cX3_execute 109 = .ok (.aload_n 0, 1) := by decide +kernel
theorem dX3_execute_110 : decode cX3_execute 110 = .ok (.getfield 110, 3) := by decide +kernel
theorem dX3_execute_113 : decode cX3_execute 113 = .ok (.invokevirtual 113, 3) := by decide +kernel
theorem dX3_execute_116 : decode cX3_execute 116 = .ok (.goto 69, 3) := by decide +kernel
theorem dX3_execute_119 : decode cX3_execute 119 = .ok (.aload_n 0, 1) := by decide +kernel
theorem dX3_execute_120 : decode cX3_execute 120 = .ok (.getfield 21, 3) := by decide +kernel
theorem dX3_execute_123 : decode cX3_execute 123 = .ok (.aload_n 0, 1) := by decide +kernel
theorem dX3_execute_124 : decode cX3_execute 124 = .ok (.getfield 76, 3) := by decide +kernel
theorem dX3_execute_127 : decode cX3_execute 127 = .ok (.aload_n 0, 1) := by decide +kernel
theorem dX3_execute_128 : decode cX3_execute 128 = .ok (.getfield 82, 3) := by decide +kernel
theorem dX3_execute_131 : decode cX3_execute 131 = .ok (.aload_n 0, 1) := by decide +kernel
theorem dX3_execute_132 : decode cX3_execute 132 = .ok (.getfield 89, 3) := by decide +kernel
theorem dX3_execute_135 : decode cX3_execute 135 = .ok (.invokevirtual 117, 3) := by decide +kernel
theorem dX3_execute_138 : decode cX3_execute 138 = .ok (.goto 47, 3) := by decide +kernel
theorem dX3_execute_141 : decode cX3_execute 141 = .ok (.aload_n 0, 1) := by decide +kernel
theorem dX3_execute_142 : decode cX3_execute 142 = .ok (.getfield 21, 3) := by decide +kernel
theorem dX3_execute_145 : decode cX3_execute 145 = .ok (.aload_n 0, 1) := by decide +kernel
theorem dX3_execute_146 : decode cX3_execute 146 = .ok (.getfield 76, 3) := by decide +kernel
theorem dX3_execute_149 : decode cX3_execute 149 = .ok (.aload_n 0, 1) := by decide +kernel
theorem dX3_execute_150 : decode cX3_execute 150 = .ok (.getfield 89, 3) := by decide +kernel
theorem dX3_execute_153 : decode cX3_execute 153 = .ok (.invokevirtual 120, 3) := by decide +kernel
theorem dX3_execute_156 : decode cX3_execute 156 = .ok (.goto 29, 3) := by decide +kernel
theorem dX3_execute_159 : decode cX3_execute 159 = .ok (.aload_n 0, 1) := by decide +kernel
theorem dX3_execute_160 : decode cX3_execute 160 = .ok (.getfield 21, 3) := by decide +kernel
theorem dX3_execute_163 : decode cX3_execute 163 = .ok (.aload_n 0, 1) := by decide +kernel
theorem dX3_execute_164 : decode cX3_execute 164 = .ok (.getfield 21, 3) := by decide +kernel
theorem dX3_execute_167 : decode cX3_execute 167 = .ok (.aload_n 0, 1) := by decide +kernel
theorem dX3_execute_168 : decode cX3_execute 168 = .ok (.getfield 76, 3) := by decide +kernel
theorem dX3_execute_171 : decode cX3_execute 171 = .ok (.aload_n 0, 1) := by decide +kernel
theorem dX3_execute_172 : decode cX3_execute 172 = .ok (.getfield 82, 3) := by decide +kernel
theorem dX3_execute_175 : decode cX3_execute 175 = .ok (.invokevirtual 124, 3) := by decide +kernel
theorem dX3_execute_178 : decode cX3_execute 178 = .ok (.iconst 0, 1) := by decide +kernel
theorem dX3_execute_179 : decode cX3_execute 179 = .ok (.invokevirtual 127, 3) := by decide +kernel
theorem dX3_execute_182 : decode cX3_execute 182 = .ok (.goto 3, 3) := by decide +kernel
theorem dX3_execute_185 : decode cX3_execute 185 = .ok (.aload_n 0, 1) := by decide +kernel
theorem dX3_execute_186 : decode cX3_execute 186 = .ok (.getfield 64, 3) := by decide +kernel
theorem dX3_execute_189 : decode cX3_execute 189 = .ok (.bipush 8, 2) := by decide +kernel
theorem dX3_execute_191 : decode cX3_execute 191 = .ok (.if_icmp .ne 10, 3) := by decide +kernel
theorem dX3_execute_194 : decode cX3_execute 194 = .ok (.aload_n 0, 1) := by decide +kernel
theorem dX3_execute_195 : decode cX3_execute 195 = .ok (.getfield 89, 3) := by decide +kernel
theorem dX3_execute_198 : decode cX3_execute 198 = .ok (.goto 4, 3) := by decide +kernel
theorem dX3_execute_201 : decode cX3_execute 201 = .ok (.iconst 0, 1) := by decide +kernel
theorem dX3_execute_202 : decode cX3_execute 202 = .ok (.ireturn, 1) := by decide +kernel
theorem dX3_takeKeyword_0 : decode cX3_takeKeyword 0 = .ok (.aload_n 0, 1) := by decide +kernel
theorem dX3_takeKeyword_1 : decode cX3_takeKeyword 1 = .ok (.invokevirtual 130, 3) := by decide +kernel
theorem dX3_takeKeyword_4 : decode cX3_takeKeyword 4 = .ok (.istore_n 1, 1) := by decide +kernel
theorem dX3_takeKeyword_5 : decode cX3_takeKeyword 5 = .ok (.iload_n 1, 1) := by decide +kernel
theorem dX3_takeKeyword_6 : decode cX3_takeKeyword 6 = .ok (.iconst (-1), 1) := by decide +kernel
theorem dX3_takeKeyword_7 : decode cX3_takeKeyword 7 = .ok (.if_icmp .ne 11, 3) := by decide +kernel
theorem dX3_takeKeyword_10 : decode cX3_takeKeyword 10 = .ok (.aload_n 0, 1) := by decide +kernel
theorem dX3_takeKeyword_11 : decode cX3_takeKeyword 11 = .ok (.iconst 1, 1) := by decide +kernel
theorem dX3_takeKeyword_12 : decode cX3_takeKeyword 12 = .ok (.invokevirtual 95, 3) := by decide +kernel
theorem dX3_takeKeyword_15 : decode cX3_takeKeyword 15 = .ok (.goto 17, 3) := by decide +kernel
theorem dX3_takeKeyword_18 : decode cX3_takeKeyword 18 = .ok (.aload_n 0, 1) := by decide +kernel
theorem dX3_takeKeyword_19 : decode cX3_takeKeyword 19 = .ok (.iload_n 1, 1) := by decide +kernel
theorem dX3_takeKeyword_20 : decode cX3_takeKeyword 20 = .ok (.invokevirtual 133, 3) := by decide +kernel
theorem dX3_takeKeyword_23 : decode cX3_takeKeyword 23 = .ok (.ifCond .eq 9, 3) := by decide +kernel
theorem dX3_takeKeyword_26 : decode cX3_takeKeyword 26 = .ok (.aload_n 0, 1) := by decide +kernel
theorem dX3_takeKeyword_27 : decode cX3_takeKeyword 27 = .ok (.bipush 6, 2) := by decide +kernel
theorem dX3_takeKeyword_29 : decode cX3_takeKeyword 29 = .ok (.invokevirtual 95, 3) := by decide +kernel
theorem dX3_takeKeyword_32 : decode cX3_takeKeyword 32 = .ok (.aload_n 0, 1) := by decide +kernel
theorem dX3_takeKeyword_33 : decode cX3_takeKeyword 33 = .ok (.getfield 12, 3) := by decide +kernel
theorem dX3_takeKeyword_36 : decode cX3_takeKeyword 36 = .ok (.invokevirtual 99, 3) := by decide +kernel
theorem dX3_takeKeyword_39 : decode cX3_takeKeyword 39 = .ok (.iload_n 1, 1) := by decide +kernel
theorem dX3_takeKeyword_40 : decode cX3_takeKeyword 40 = .ok (.ireturn, 1) := by decide +kernel
theorem dX3_findKeyword_0 : decode cX3_findKeyword 0 = .ok (.aload_n 0, 1) := by decide +kernel
theorem dX3_findKeyword_1 : decode cX3_findKeyword 1 = .ok (.getfield 12, 3) := by decide +kernel
theorem dX3_findKeyword_4 : decode cX3_findKeyword 4 = .ok (.ldc 137, 2) := by decide +kernel
theorem dX3_findKeyword_6 : decode cX3_findKeyword 6 = .ok (.invokevirtual 139, 3) := by decide +kernel
theorem dX3_findKeyword_9 : decode cX3_findKeyword 9 = .ok (.ifCond .eq 5, 3) := by decide +kernel
theorem dX3_findKeyword_12 : decode cX3_findKeyword 12 = .ok (.iconst 1, 1) := by decide +kernel
theorem dX3_findKeyword_13 : decode cX3_findKeyword 13 = .ok (.ireturn, 1) := by decide +kernel
theorem dX3_findKeyword_14 : decode cX3_findKeyword 14 = .ok (.aload_n 0, 1) := by decide +kernel
theorem dX3_findKeyword_15 : decode cX3_findKeyword 15 = .ok (.getfield 12, 3) := by decide +kernel
theorem dX3_findKeyword_18 : decode cX3_findKeyword 18 = .ok (.ldc 143, 2) := by decide +kernel
theorem dX3_findKeyword_20 : decode cX3_findKeyword 20 = .ok (.invokevirtual 139, 3) := by decide +kernel
theorem dX3_findKeyword_23 : decode cX3_findKeyword 23 = .ok (.ifCond .eq 5, 3) := by decide +kernel
theorem dX3_findKeyword_26 : decode cX3_findKeyword 26 = .ok (.iconst 2, 1) := by decide +kernel
theorem dX3_findKeyword_27 : decode cX3_findKeyword 27 = .ok (.ireturn, 1) := by decide +kernel
theorem dX3_findKeyword_28 : decode cX3_findKeyword 28 = .ok (.aload_n 0, 1) := by decide +kernel
theorem dX3_findKeyword_29 : decode cX3_findKeyword 29 = .ok (.getfield 12, 3) := by decide +kernel
theorem dX3_findKeyword_32 : decode cX3_findKeyword 32 = .ok (.ldc 145, 2) := by decide +kernel
theorem dX3_findKeyword_34 : decode cX3_findKeyword 34 = .ok (.invokevirtual 139, 3) := by decide +kernel
theorem dX3_findKeyword_37 : decode cX3_findKeyword 37 = .ok (.ifCond .eq 5, 3) := by decide +kernel
theorem dX3_findKeyword_40 : decode cX3_findKeyword 40 = .ok (.iconst 3, 1) := by decide +kernel
theorem dX3_findKeyword_41 : decode cX3_findKeyword 41 = .ok (.ireturn, 1) := by decide +kernel
theorem dX3_findKeyword_42 : decode cX3_findKeyword 42 = .ok (.aload_n 0, 1) := by decide +kernel
theorem dX3_findKeyword_43 : decode cX3_findKeyword 43 = .ok (.getfield 12, 3) := by decide +kernel
theorem dX3_findKeyword_46 : decode cX3_findKeyword 46 = .ok (.ldc 147, 2) := by decide +kernel
theorem dX3_findKeyword_48 : decode cX3_findKeyword 48 = .ok (.invokevirtual 139, 3) := by decide +kernel
theorem dX3_findKeyword_51 : decode cX3_findKeyword 51 = .ok (.ifCond .eq 5, 3) := by decide +kernel
theorem dX3_findKeyword_54 : decode cX3_findKeyword 54 = .ok (.iconst 4, 1) := by decide +kernel
theorem dX3_findKeyword_55 : decode cX3_findKeyword 55 = .ok (.ireturn, 1) := by decide +kernel
theorem dX3_findKeyword_56 : decode cX3_findKeyword 56 = .ok (.aload_n 0, 1) := by decide +kernel
theorem dX3_findKeyword_57 : decode cX3_findKeyword 57 = .ok (.getfield 12, 3) := by decide +kernel
theorem dX3_findKeyword_60 : decode cX3_findKeyword 60 = .ok (.ldc 149, 2) := by decide +kernel
theorem dX3_findKeyword_62 : decode cX3_findKeyword 62 = .ok (.invokevirtual 139, 3) := by decide +kernel
theorem dX3_findKeyword_65 : decode cX3_findKeyword 65 = .ok (.ifCond .eq 5, 3) := by decide +kernel
theorem dX3_findKeyword_68 : decode cX3_findKeyword 68 = .ok (.iconst 5, 1) := by decide +kernel
theorem dX3_findKeyword_69 : decode cX3_findKeyword 69 = .ok (.ireturn, 1) := by decide +kernel
theorem dX3_findKeyword_70 : decode cX3_findKeyword 70 = .ok (.aload_n 0, 1) := by decide +kernel
theorem dX3_findKeyword_71 : decode cX3_findKeyword 71 = .ok (.getfield 12, 3) := by decide +kernel
theorem dX3_findKeyword_74 : decode cX3_findKeyword 74 = .ok (.ldc 151, 2) := by decide +kernel
theorem dX3_findKeyword_76 : decode cX3_findKeyword 76 = .ok (.invokevirtual 139, 3) := by decide +kernel
theorem dX3_findKeyword_79 : decode cX3_findKeyword 79 = .ok (.ifCond .eq 6, 3) := by decide +kernel
theorem dX3_findKeyword_82 : decode cX3_findKeyword 82 = .ok (.bipush 6, 2) := by decide +kernel
theorem dX3_findKeyword_84 : decode cX3_findKeyword 84 = .ok (.ireturn, 1) := by decide +kernel
theorem dX3_findKeyword_85 : decode cX3_findKeyword 85 = .ok (.aload_n 0, 1) := by decide +kernel
theorem dX3_findKeyword_86 : decode cX3_findKeyword 86 = .ok (.getfield 12, 3) := by decide +kernel
theorem dX3_findKeyword_89 : decode cX3_findKeyword 89 = .ok (.ldc 153, 2) := by decide +kernel
theorem dX3_findKeyword_91 : decode cX3_findKeyword 91 = .ok (.invokevirtual 139, 3) := by decide +kernel
theorem dX3_findKeyword_94 : decode cX3_findKeyword 94 = .ok (.ifCond .eq 6, 3) := by decide +kernel
theorem dX3_findKeyword_97 : decode cX3_findKeyword 97 = .ok (.bipush 7, 2) := by decide +kernel
theorem dX3_findKeyword_99 : decode cX3_findKeyword 99 = .ok (.ireturn, 1) := by decide +kernel
theorem dX3_findKeyword_100 : decode cX3_findKeyword 100 = .ok (.aload_n 0, 1) := by decide +kernel
theorem dX3_findKeyword_101 : decode cX3_findKeyword 101 = .ok (.getfield 12, 3) := by decide +kernel
theorem dX3_findKeyword_104 : decode cX3_findKeyword 104 = .ok (.ldc 155, 2) := by decide +kernel
theorem dX3_findKeyword_106 : decode cX3_findKeyword 106 = .ok (.invokevirtual 139, 3) := by decide +kernel
theorem dX3_findKeyword_109 : decode cX3_findKeyword 109 = .ok (.ifCond .eq 8, 3) := by decide +kernel
theorem dX3_findKeyword_112 : decode cX3_findKeyword 112 = .ok (.bipush 8, 2) := by decide +kernel
theorem dX3_findKeyword_114 : decode cX3_findKeyword 114 = .ok (.goto 4, 3) := by decide +kernel
theorem dX3_findKeyword_117 : decode cX3_findKeyword 117 = .ok (.iconst (-1), 1) := by decide +kernel
theorem dX3_findKeyword_118 : decode cX3_findKeyword 118 = .ok (.ireturn, 1) := by decide +kernel
theorem dX3_isFull_0 : decode cX3_isFull 0 = .ok (.iload_n 1, 1) := by decide +kernel
theorem dX3_isFull_1 : decode cX3_isFull 1 = .ok (.tableswitch 106 1 5 #[35, 35, 53, 71, 88], 35) := by decide +kernel
theorem dX3_isFull_36 : decode cX3_isFull 36 = .ok (.aload_n 0, 1) := by decide +kernel
theorem dX3_isFull_37 : decode cX3_isFull 37 = .ok (.getfield 21, 3) := by decide +kernel
theorem dX3_isFull_40 : decode cX3_isFull 40 = .ok (.getfield 157, 3) := by decide +kernel
theorem dX3_isFull_43 : decode cX3_isFull 43 = .ok (.bipush 8, 2) := by decide +kernel
theorem dX3_isFull_45 : decode cX3_isFull 45 = .ok (.if_icmp .lt 7, 3) := by decide +kernel
theorem dX3_isFull_48 : decode cX3_isFull 48 = .ok (.iconst 1, 1) := by decide +kernel
theorem dX3_isFull_49 : decode cX3_isFull 49 = .ok (.goto 4, 3) := by decide +kernel
theorem dX3_isFull_52 : decode cX3_isFull 52 = .ok (.iconst 0, 1) := by decide +kernel
theorem dX3_isFull_53 : decode cX3_isFull 53 = .ok (.ireturn, 1) := by decide +kernel
theorem dX3_isFull_54 : decode cX3_isFull 54 = .ok (.aload_n 0, 1) := by decide +kernel
theorem dX3_isFull_55 : decode cX3_isFull 55 = .ok (.getfield 21, 3) := by decide +kernel
theorem dX3_isFull_58 : decode cX3_isFull 58 = .ok (.getfield 160, 3) := by decide +kernel
theorem dX3_isFull_61 : decode cX3_isFull 61 = .ok (.bipush 12, 2) := by decide +kernel
theorem dX3_isFull_63 : decode cX3_isFull 63 = .ok (.if_icmp .lt 7, 3) := by decide +kernel
theorem dX3_isFull_66 : decode cX3_isFull 66 = .ok (.iconst 1, 1) := by decide +kernel
theorem dX3_isFull_67 : decode cX3_isFull 67 = .ok (.goto 4, 3) := by decide +kernel
theorem dX3_isFull_70 : decode cX3_isFull 70 = .ok (.iconst 0, 1) := by decide +kernel
theorem dX3_isFull_71 : decode cX3_isFull 71 = .ok (.ireturn, 1) := by decide +kernel
theorem dX3_isFull_72 : decode cX3_isFull 72 = .ok (.aload_n 0, 1) := by decide +kernel
theorem dX3_isFull_73 : decode cX3_isFull 73 = .ok (.getfield 21, 3) := by decide +kernel
theorem dX3_isFull_76 : decode cX3_isFull 76 = .ok (.getfield 163, 3) := by decide +kernel
theorem dX3_isFull_79 : decode cX3_isFull 79 = .ok (.iconst 4, 1) := by decide +kernel
theorem dX3_isFull_80 : decode cX3_isFull 80 = .ok (.if_icmp .lt 7, 3) := by decide +kernel
theorem dX3_isFull_83 : decode cX3_isFull 83 = .ok (.iconst 1, 1) := by decide +kernel
theorem dX3_isFull_84 : decode cX3_isFull 84 = .ok (.goto 4, 3) := by decide +kernel
theorem dX3_isFull_87 : decode cX3_isFull 87 = .ok (.iconst 0, 1) := by decide +kernel
theorem dX3_isFull_88 : decode cX3_isFull 88 = .ok (.ireturn, 1) := by decide +kernel
theorem dX3_isFull_89 : decode cX3_isFull 89 = .ok (.aload_n 0, 1) := by decide +kernel
theorem dX3_isFull_90 : decode cX3_isFull 90 = .ok (.getfield 21, 3) := by decide +kernel
theorem dX3_isFull_93 : decode cX3_isFull 93 = .ok (.getfield 166, 3) := by decide +kernel
theorem dX3_isFull_96 : decode cX3_isFull 96 = .ok (.bipush 12, 2) := by decide +kernel
theorem dX3_isFull_98 : decode cX3_isFull 98 = .ok (.if_icmp .lt 7, 3) := by decide +kernel
theorem dX3_isFull_101 : decode cX3_isFull 101 = .ok (.iconst 1, 1) := by decide +kernel
theorem dX3_isFull_102 : decode cX3_isFull 102 = .ok (.goto 4, 3) := by decide +kernel
theorem dX3_isFull_105 : decode cX3_isFull 105 = .ok (.iconst 0, 1) := by decide +kernel
theorem dX3_isFull_106 : decode cX3_isFull 106 = .ok (.ireturn, 1) := by decide +kernel
theorem dX3_isFull_107 : decode cX3_isFull 107 = .ok (.iconst 0, 1) := by decide +kernel
theorem dX3_isFull_108 : decode cX3_isFull 108 = .ok (.ireturn, 1) := by decide +kernel
theorem dX3_takeNewName_0 : decode cX3_takeNewName 0 = .ok (.aload_n 0, 1) := by decide +kernel
theorem dX3_takeNewName_1 : decode cX3_takeNewName 1 = .ok (.getfield 12, 3) := by decide +kernel
theorem dX3_takeNewName_4 : decode cX3_takeNewName 4 = .ok (.invokevirtual 169, 3) := by decide +kernel
theorem dX3_takeNewName_7 : decode cX3_takeNewName 7 = .ok (.istore_n 1, 1) := by decide +kernel
theorem dX3_takeNewName_8 : decode cX3_takeNewName 8 = .ok (.aload_n 0, 1) := by decide +kernel
theorem dX3_takeNewName_9 : decode cX3_takeNewName 9 = .ok (.getfield 12, 3) := by decide +kernel
theorem dX3_takeNewName_12 : decode cX3_takeNewName 12 = .ok (.getfield 42, 3) := by decide +kernel
theorem dX3_takeNewName_15 : decode cX3_takeNewName 15 = .ok (.iconst 1, 1) := by decide +kernel
theorem dX3_takeNewName_16 : decode cX3_takeNewName 16 = .ok (.if_icmp .eq 11, 3) := by decide +kernel
theorem dX3_takeNewName_19 : decode cX3_takeNewName 19 = .ok (.aload_n 0, 1) := by decide +kernel
theorem dX3_takeNewName_20 : decode cX3_takeNewName 20 = .ok (.iconst 1, 1) := by decide +kernel
theorem dX3_takeNewName_21 : decode cX3_takeNewName 21 = .ok (.invokevirtual 95, 3) := by decide +kernel
theorem dX3_takeNewName_24 : decode cX3_takeNewName 24 = .ok (.goto 32, 3) := by decide +kernel
theorem dX3_takeNewName_27 : decode cX3_takeNewName 27 = .ok (.iload_n 1, 1) := by decide +kernel
theorem dX3_takeNewName_28 : decode cX3_takeNewName 28 = .ok (.ifCond .ne 11, 3) := by decide +kernel
theorem dX3_takeNewName_31 : decode cX3_takeNewName 31 = .ok (.aload_n 0, 1) := by decide +kernel
theorem dX3_takeNewName_32 : decode cX3_takeNewName 32 = .ok (.iconst 2, 1) := by decide +kernel
theorem dX3_takeNewName_33 : decode cX3_takeNewName 33 = .ok (.invokevirtual 95, 3) := by decide +kernel
theorem dX3_takeNewName_36 : decode cX3_takeNewName 36 = .ok (.goto 20, 3) := by decide +kernel
theorem dX3_takeNewName_39 : decode cX3_takeNewName 39 = .ok (.aload_n 0, 1) := by decide +kernel
theorem dX3_takeNewName_40 : decode cX3_takeNewName 40 = .ok (.getfield 21, 3) := by decide +kernel
theorem dX3_takeNewName_43 : decode cX3_takeNewName 43 = .ok (.iload_n 1, 1) := by decide +kernel
theorem dX3_takeNewName_44 : decode cX3_takeNewName 44 = .ok (.invokevirtual 172, 3) := by decide +kernel
theorem dX3_takeNewName_47 : decode cX3_takeNewName 47 = .ok (.iconst (-1), 1) := by decide +kernel
theorem dX3_takeNewName_48 : decode cX3_takeNewName 48 = .ok (.if_icmp .eq 8, 3) := by decide +kernel
theorem dX3_takeNewName_51 : decode cX3_takeNewName 51 = .ok (.aload_n 0, 1) := by decide +kernel
theorem dX3_takeNewName_52 : decode cX3_takeNewName 52 = .ok (.iconst 3, 1) := by decide +kernel
theorem dX3_takeNewName_53 : decode cX3_takeNewName 53 = .ok (.invokevirtual 95, 3) := by decide +kernel
theorem dX3_takeNewName_56 : decode cX3_takeNewName 56 = .ok (.aload_n 0, 1) := by decide +kernel
theorem dX3_takeNewName_57 : decode cX3_takeNewName 57 = .ok (.getfield 12, 3) := by decide +kernel
theorem dX3_takeNewName_60 : decode cX3_takeNewName 60 = .ok (.invokevirtual 99, 3) := by decide +kernel
theorem dX3_takeNewName_63 : decode cX3_takeNewName 63 = .ok (.iload_n 1, 1) := by decide +kernel
theorem dX3_takeNewName_64 : decode cX3_takeNewName 64 = .ok (.ireturn, 1) := by decide +kernel
theorem dX3_takeNumber_0 : decode cX3_takeNumber 0 = .ok (.aload_n 0, 1) := by decide +kernel
theorem dX3_takeNumber_1 : decode cX3_takeNumber 1 = .ok (.getfield 12, 3) := by decide +kernel
theorem dX3_takeNumber_4 : decode cX3_takeNumber 4 = .ok (.getfield 42, 3) := by decide +kernel
theorem dX3_takeNumber_7 : decode cX3_takeNumber 7 = .ok (.iconst 2, 1) := by decide +kernel
theorem dX3_takeNumber_8 : decode cX3_takeNumber 8 = .ok (.if_icmp .ne 13, 3) := by decide +kernel
theorem dX3_takeNumber_11 : decode cX3_takeNumber 11 = .ok (.aload_n 0, 1) := by decide +kernel
theorem dX3_takeNumber_12 : decode cX3_takeNumber 12 = .ok (.getfield 12, 3) := by decide +kernel
theorem dX3_takeNumber_15 : decode cX3_takeNumber 15 = .ok (.invokevirtual 176, 3) := by decide +kernel
theorem dX3_takeNumber_18 : decode cX3_takeNumber 18 = .ok (.goto 4, 3) := by decide +kernel
theorem dX3_takeNumber_21 : decode cX3_takeNumber 21 = .ok (.iconst (-1), 1) := by decide +kernel
theorem dX3_takeNumber_22 : decode cX3_takeNumber 22 = .ok (.istore_n 3, 1) := by decide +kernel
theorem dX3_takeNumber_23 : decode cX3_takeNumber 23 = .ok (.aload_n 0, 1) := by decide +kernel
theorem dX3_takeNumber_24 : decode cX3_takeNumber 24 = .ok (.getfield 12, 3) := by decide +kernel
theorem dX3_takeNumber_27 : decode cX3_takeNumber 27 = .ok (.getfield 42, 3) := by decide +kernel
theorem dX3_takeNumber_30 : decode cX3_takeNumber 30 = .ok (.iconst 2, 1) := by decide +kernel
theorem dX3_takeNumber_31 : decode cX3_takeNumber 31 = .ok (.if_icmp .eq 11, 3) := by decide +kernel
theorem dX3_takeNumber_34 : decode cX3_takeNumber 34 = .ok (.aload_n 0, 1) := by decide +kernel
theorem dX3_takeNumber_35 : decode cX3_takeNumber 35 = .ok (.iconst 1, 1) := by decide +kernel
theorem dX3_takeNumber_36 : decode cX3_takeNumber 36 = .ok (.invokevirtual 95, 3) := by decide +kernel
theorem dX3_takeNumber_39 : decode cX3_takeNumber 39 = .ok (.goto 18, 3) := by decide +kernel
theorem dX3_takeNumber_42 : decode cX3_takeNumber 42 = .ok (.iload_n 3, 1) := by decide +kernel
theorem dX3_takeNumber_43 : decode cX3_takeNumber 43 = .ok (.iload_n 1, 1) := by decide +kernel
theorem dX3_takeNumber_44 : decode cX3_takeNumber 44 = .ok (.if_icmp .lt 8, 3) := by decide +kernel
theorem dX3_takeNumber_47 : decode cX3_takeNumber 47 = .ok (.iload_n 3, 1) := by decide +kernel
theorem dX3_takeNumber_48 : decode cX3_takeNumber 48 = .ok (.iload_n 2, 1) := by decide +kernel
theorem dX3_takeNumber_49 : decode cX3_takeNumber 49 = .ok (.if_icmp .le 8, 3) := by decide +kernel
theorem dX3_takeNumber_52 : decode cX3_takeNumber 52 = .ok (.aload_n 0, 1) := by decide +kernel
theorem dX3_takeNumber_53 : decode cX3_takeNumber 53 = .ok (.iconst 2, 1) := by decide +kernel
theorem dX3_takeNumber_54 : decode cX3_takeNumber 54 = .ok (.invokevirtual 95, 3) := by decide +kernel
theorem dX3_takeNumber_57 : decode cX3_takeNumber 57 = .ok (.aload_n 0, 1) := by decide +kernel
theorem dX3_takeNumber_58 : decode cX3_takeNumber 58 = .ok (.getfield 12, 3) := by decide +kernel
theorem dX3_takeNumber_61 : decode cX3_takeNumber 61 = .ok (.invokevirtual 99, 3) := by decide +kernel
theorem dX3_takeNumber_64 : decode cX3_takeNumber 64 = .ok (.iload_n 3, 1) := by decide +kernel
theorem dX3_takeNumber_65 : decode cX3_takeNumber 65 = .ok (.ireturn, 1) := by decide +kernel
theorem dX3_takeStation_0 : decode cX3_takeStation 0 = .ok (.aload_n 0, 1) := by decide +kernel
theorem dX3_takeStation_1 : decode cX3_takeStation 1 = .ok (.invokevirtual 179, 3) := by decide +kernel
theorem dX3_takeStation_4 : decode cX3_takeStation 4 = .ok (.istore_n 1, 1) := by decide +kernel
theorem dX3_takeStation_5 : decode cX3_takeStation 5 = .ok (.aload_n 0, 1) := by decide +kernel
theorem dX3_takeStation_6 : decode cX3_takeStation 6 = .ok (.getfield 12, 3) := by decide +kernel
theorem dX3_takeStation_9 : decode cX3_takeStation 9 = .ok (.invokevirtual 99, 3) := by decide +kernel
theorem dX3_takeStation_12 : decode cX3_takeStation 12 = .ok (.iload_n 1, 1) := by decide +kernel
theorem dX3_takeStation_13 : decode cX3_takeStation 13 = .ok (.ireturn, 1) := by decide +kernel
theorem dX3_takeSecondStation_0 : decode cX3_takeSecondStation 0 = .ok (.aload_n 0, 1) := by decide +kernel
theorem dX3_takeSecondStation_1 : decode cX3_takeSecondStation 1 = .ok (.invokevirtual 179, 3) := by decide +kernel
theorem dX3_takeSecondStation_4 : decode cX3_takeSecondStation 4 = .ok (.istore_n 1, 1) := by decide +kernel
theorem dX3_takeSecondStation_5 : decode cX3_takeSecondStation 5 = .ok (.aload_n 0, 1) := by decide +kernel
theorem dX3_takeSecondStation_6 : decode cX3_takeSecondStation 6 = .ok (.getfield 21, 3) := by decide +kernel
theorem dX3_takeSecondStation_9 : decode cX3_takeSecondStation 9 = .ok (.aload_n 0, 1) := by decide +kernel
theorem dX3_takeSecondStation_10 : decode cX3_takeSecondStation 10 = .ok (.getfield 76, 3) := by decide +kernel
theorem dX3_takeSecondStation_13 : decode cX3_takeSecondStation 13 = .ok (.iload_n 1, 1) := by decide +kernel
theorem dX3_takeSecondStation_14 : decode cX3_takeSecondStation 14 = .ok (.invokevirtual 124, 3) := by decide +kernel
theorem dX3_takeSecondStation_17 : decode cX3_takeSecondStation 17 = .ok (.iconst (-1), 1) := by decide +kernel
theorem dX3_takeSecondStation_18 : decode cX3_takeSecondStation 18 = .ok (.if_icmp .eq 7, 3) := by decide +kernel
theorem dX3_takeSecondStation_21 : decode cX3_takeSecondStation 21 = .ok (.iconst 1, 1) := by decide +kernel
theorem dX3_takeSecondStation_22 : decode cX3_takeSecondStation 22 = .ok (.goto 4, 3) := by decide +kernel
theorem dX3_takeSecondStation_25 : decode cX3_takeSecondStation 25 = .ok (.iconst 0, 1) := by decide +kernel
theorem dX3_takeSecondStation_26 : decode cX3_takeSecondStation 26 = .ok (.istore_n 2, 1) := by decide +kernel
theorem dX3_takeSecondStation_27 : decode cX3_takeSecondStation 27 = .ok (.aload_n 0, 1) := by decide +kernel
theorem dX3_takeSecondStation_28 : decode cX3_takeSecondStation 28 = .ok (.getfield 64, 3) := by decide +kernel
theorem dX3_takeSecondStation_31 : decode cX3_takeSecondStation 31 = .ok (.bipush 7, 2) := by decide +kernel
theorem dX3_takeSecondStation_33 : decode cX3_takeSecondStation 33 = .ok (.if_icmp .ne 10, 3) := by decide +kernel
theorem dX3_takeSecondStation_36 : decode cX3_takeSecondStation 36 = .ok (.iload_n 2, 1) := by decide +kernel
theorem dX3_takeSecondStation_37 : decode cX3_takeSecondStation 37 = .ok (.ifCond .ne 31, 3) := by decide +kernel
theorem dX3_takeSecondStation_40 : decode cX3_takeSecondStation 40 = .ok (.goto 23, 3) := by decide +kernel
theorem dX3_takeSecondStation_43 : decode cX3_takeSecondStation 43 = .ok (.aload_n 0, 1) := by decide +kernel
theorem dX3_takeSecondStation_44 : decode cX3_takeSecondStation 44 = .ok (.getfield 76, 3) := by decide +kernel
theorem dX3_takeSecondStation_47 : decode cX3_takeSecondStation 47 = .ok (.iload_n 1, 1) := by decide +kernel
theorem dX3_takeSecondStation_48 : decode cX3_takeSecondStation 48 = .ok (.if_icmp .eq 15, 3) := by decide +kernel
theorem dX3_takeSecondStation_51 : decode cX3_takeSecondStation 51 = .ok (.aload_n 0, 1) := by decide +kernel
theorem dX3_takeSecondStation_52 : decode cX3_takeSecondStation 52 = .ok (.getfield 64, 3) := by decide +kernel
theorem dX3_takeSecondStation_55 : decode cX3_takeSecondStation 55 = .ok (.iconst 3, 1) := by decide +kernel
theorem dX3_takeSecondStation_56 : decode cX3_takeSecondStation 56 = .ok (.if_icmp .ne 12, 3) := by decide +kernel
theorem dX3_takeSecondStation_59 : decode cX3_takeSecondStation 59 = .ok (.iload_n 2, 1) := by decide +kernel
theorem dX3_takeSecondStation_60 : decode cX3_takeSecondStation 60 = .ok (.ifCond .eq 8, 3) := by decide +kernel
theorem dX3_takeSecondStation_63 : decode cX3_takeSecondStation 63 = .ok (.aload_n 0, 1) := by decide +kernel
theorem dX3_takeSecondStation_64 : decode cX3_takeSecondStation 64 = .ok (.iconst 5, 1) := by decide +kernel
theorem dX3_takeSecondStation_65 : decode cX3_takeSecondStation 65 = .ok (.invokevirtual 95, 3) := by decide +kernel
theorem dX3_takeSecondStation_68 : decode cX3_takeSecondStation 68 = .ok (.aload_n 0, 1) := by decide +kernel
theorem dX3_takeSecondStation_69 : decode cX3_takeSecondStation 69 = .ok (.getfield 12, 3) := by decide +kernel
theorem dX3_takeSecondStation_72 : decode cX3_takeSecondStation 72 = .ok (.invokevirtual 99, 3) := by decide +kernel
theorem dX3_takeSecondStation_75 : decode cX3_takeSecondStation 75 = .ok (.iload_n 1, 1) := by decide +kernel
theorem dX3_takeSecondStation_76 : decode cX3_takeSecondStation 76 = .ok (.ireturn, 1) := by decide +kernel
theorem dX3_findNamedStation_0 : decode cX3_findNamedStation 0 = .ok (.aload_n 0, 1) := by decide +kernel
theorem dX3_findNamedStation_1 : decode cX3_findNamedStation 1 = .ok (.getfield 12, 3) := by decide +kernel
theorem dX3_findNamedStation_4 : decode cX3_findNamedStation 4 = .ok (.getfield 42, 3) := by decide +kernel
theorem dX3_findNamedStation_7 : decode cX3_findNamedStation 7 = .ok (.iconst 1, 1) := by decide +kernel
theorem dX3_findNamedStation_8 : decode cX3_findNamedStation 8 = .ok (.if_icmp .ne 20, 3) := by decide +kernel
theorem dX3_findNamedStation_11 : decode cX3_findNamedStation 11 = .ok (.aload_n 0, 1) := by decide +kernel
theorem dX3_findNamedStation_12 : decode cX3_findNamedStation 12 = .ok (.getfield 21, 3) := by decide +kernel
theorem dX3_findNamedStation_15 : decode cX3_findNamedStation 15 = .ok (.aload_n 0, 1) := by decide +kernel
theorem dX3_findNamedStation_16 : decode cX3_findNamedStation 16 = .ok (.getfield 12, 3) := by decide +kernel
theorem dX3_findNamedStation_19 : decode cX3_findNamedStation 19 = .ok (.invokevirtual 169, 3) := by decide +kernel
theorem dX3_findNamedStation_22 : decode cX3_findNamedStation 22 = .ok (.invokevirtual 172, 3) := by decide +kernel
theorem dX3_findNamedStation_25 : decode cX3_findNamedStation 25 = .ok (.goto 4, 3) := by decide +kernel
theorem dX3_findNamedStation_28 : decode cX3_findNamedStation 28 = .ok (.iconst (-1), 1) := by decide +kernel
theorem dX3_findNamedStation_29 : decode cX3_findNamedStation 29 = .ok (.istore_n 1, 1) := by decide +kernel
theorem dX3_findNamedStation_30 : decode cX3_findNamedStation 30 = .ok (.aload_n 0, 1) := by decide +kernel
theorem dX3_findNamedStation_31 : decode cX3_findNamedStation 31 = .ok (.getfield 12, 3) := by decide +kernel
theorem dX3_findNamedStation_34 : decode cX3_findNamedStation 34 = .ok (.getfield 42, 3) := by decide +kernel
theorem dX3_findNamedStation_37 : decode cX3_findNamedStation 37 = .ok (.iconst 1, 1) := by decide +kernel
theorem dX3_findNamedStation_38 : decode cX3_findNamedStation 38 = .ok (.if_icmp .eq 11, 3) := by decide +kernel
theorem dX3_findNamedStation_41 : decode cX3_findNamedStation 41 = .ok (.aload_n 0, 1) := by decide +kernel
theorem dX3_findNamedStation_42 : decode cX3_findNamedStation 42 = .ok (.iconst 1, 1) := by decide +kernel
theorem dX3_findNamedStation_43 : decode cX3_findNamedStation 43 = .ok (.invokevirtual 95, 3) := by decide +kernel
theorem dX3_findNamedStation_46 : decode cX3_findNamedStation 46 = .ok (.goto 13, 3) := by decide +kernel
theorem dX3_findNamedStation_49 : decode cX3_findNamedStation 49 = .ok (.iload_n 1, 1) := by decide +kernel
theorem dX3_findNamedStation_50 : decode cX3_findNamedStation 50 = .ok (.iconst (-1), 1) := by decide +kernel
theorem dX3_findNamedStation_51 : decode cX3_findNamedStation 51 = .ok (.if_icmp .ne 8, 3) := by decide +kernel
theorem dX3_findNamedStation_54 : decode cX3_findNamedStation 54 = .ok (.aload_n 0, 1) := by decide +kernel
theorem dX3_findNamedStation_55 : decode cX3_findNamedStation 55 = .ok (.iconst 4, 1) := by decide +kernel
theorem dX3_findNamedStation_56 : decode cX3_findNamedStation 56 = .ok (.invokevirtual 95, 3) := by decide +kernel
theorem dX3_findNamedStation_59 : decode cX3_findNamedStation 59 = .ok (.iload_n 1, 1) := by decide +kernel
theorem dX3_findNamedStation_60 : decode cX3_findNamedStation 60 = .ok (.ireturn, 1) := by decide +kernel
theorem dX3_takeRoute_0 : decode cX3_takeRoute 0 = .ok (.aload_n 0, 1) := by decide +kernel
theorem dX3_takeRoute_1 : decode cX3_takeRoute 1 = .ok (.iconst 0, 1) := by decide +kernel
theorem dX3_takeRoute_2 : decode cX3_takeRoute 2 = .ok (.putfield 110, 3) := by decide +kernel
theorem dX3_takeRoute_5 : decode cX3_takeRoute 5 = .ok (.iconst 0, 1) := by decide +kernel
theorem dX3_takeRoute_6 : decode cX3_takeRoute 6 = .ok (.istore_n 1, 1) := by decide +kernel
theorem dX3_takeRoute_7 : decode cX3_takeRoute 7 = .ok (.iload_n 1, 1) := by decide +kernel
theorem dX3_takeRoute_8 : decode cX3_takeRoute 8 = .ok (.bipush 6, 2) := by decide +kernel
theorem dX3_takeRoute_10 : decode cX3_takeRoute 10 = .ok (.if_icmp .gt 103, 3) := by decide +kernel
theorem dX3_takeRoute_13 : decode cX3_takeRoute 13 = .ok (.aload_n 0, 1) := by decide +kernel
theorem dX3_takeRoute_14 : decode cX3_takeRoute 14 = .ok (.getfield 36, 3) := by decide +kernel
theorem dX3_takeRoute_17 : decode cX3_takeRoute 17 = .ok (.ifCond .ne 96, 3) := by decide +kernel
theorem dX3_takeRoute_20 : decode cX3_takeRoute 20 = .ok (.iload_n 1, 1) := by decide +kernel
theorem dX3_takeRoute_21 : decode cX3_takeRoute 21 = .ok (.iconst 2, 1) := by decide +kernel
theorem dX3_takeRoute_22 : decode cX3_takeRoute 22 = .ok (.if_icmp .lt 15, 3) := by decide +kernel
theorem dX3_takeRoute_25 : decode cX3_takeRoute 25 = .ok (.aload_n 0, 1) := by decide +kernel
theorem dX3_takeRoute_26 : decode cX3_takeRoute 26 = .ok (.getfield 12, 3) := by decide +kernel
theorem dX3_takeRoute_29 : decode cX3_takeRoute 29 = .ok (.getfield 42, 3) := by decide +kernel
theorem dX3_takeRoute_32 : decode cX3_takeRoute 32 = .ok (.iconst 3, 1) := by decide +kernel
theorem dX3_takeRoute_33 : decode cX3_takeRoute 33 = .ok (.if_icmp .ne 4, 3) := by decide +kernel
theorem dX3_takeRoute_36 : decode cX3_takeRoute 36 = .ok (.return_, 1) := by decide +kernel
theorem dX3_takeRoute_37 : decode cX3_takeRoute 37 = .ok (.aload_n 0, 1) := by decide +kernel
theorem dX3_takeRoute_38 : decode cX3_takeRoute 38 = .ok (.invokevirtual 179, 3) := by decide +kernel
theorem dX3_takeRoute_41 : decode cX3_takeRoute 41 = .ok (.istore_n 2, 1) := by decide +kernel
theorem dX3_takeRoute_42 : decode cX3_takeRoute 42 = .ok (.iload_n 1, 1) := by decide +kernel
theorem dX3_takeRoute_43 : decode cX3_takeRoute 43 = .ok (.ifCond .le 28, 3) := by decide +kernel
theorem dX3_takeRoute_46 : decode cX3_takeRoute 46 = .ok (.aload_n 0, 1) := by decide +kernel
theorem dX3_takeRoute_47 : decode cX3_takeRoute 47 = .ok (.getfield 21, 3) := by decide +kernel
theorem dX3_takeRoute_50 : decode cX3_takeRoute 50 = .ok (.aload_n 0, 1) := by decide +kernel
theorem dX3_takeRoute_51 : decode cX3_takeRoute 51 = .ok (.getfield 29, 3) := by decide +kernel
theorem dX3_takeRoute_54 : decode cX3_takeRoute 54 = .ok (.iload_n 1, 1) := by decide +kernel
theorem dX3_takeRoute_55 : decode cX3_takeRoute 55 = .ok (.iconst 1, 1) := by decide +kernel
theorem dX3_takeRoute_56 : decode cX3_takeRoute 56 = .ok (.isub, 1) := by decide +kernel
theorem dX3_takeRoute_57 : decode cX3_takeRoute 57 = .ok (.iaload, 1) := by decide +kernel
theorem dX3_takeRoute_58 : decode cX3_takeRoute 58 = .ok (.iload_n 2, 1) := by decide +kernel
theorem dX3_takeRoute_59 : decode cX3_takeRoute 59 = .ok (.invokevirtual 124, 3) := by decide +kernel
theorem dX3_takeRoute_62 : decode cX3_takeRoute 62 = .ok (.iconst (-1), 1) := by decide +kernel
theorem dX3_takeRoute_63 : decode cX3_takeRoute 63 = .ok (.if_icmp .ne 8, 3) := by decide +kernel
theorem dX3_takeRoute_66 : decode cX3_takeRoute 66 = .ok (.aload_n 0, 1) := by decide +kernel
theorem dX3_takeRoute_67 : decode cX3_takeRoute 67 = .ok (.iconst 5, 1) := by decide +kernel
theorem dX3_takeRoute_68 : decode cX3_takeRoute 68 = .ok (.invokevirtual 95, 3) := by decide +kernel
theorem dX3_takeRoute_71 : decode cX3_takeRoute 71 = .ok (.iload_n 1, 1) := by decide +kernel
theorem dX3_takeRoute_72 : decode cX3_takeRoute 72 = .ok (.bipush 6, 2) := by decide +kernel
theorem dX3_takeRoute_74 : decode cX3_takeRoute 74 = .ok (.if_icmp .ge 20, 3) := by decide +kernel
theorem dX3_takeRoute_77 : decode cX3_takeRoute 77 = .ok (.aload_n 0, 1) := by decide +kernel
theorem dX3_takeRoute_78 : decode cX3_takeRoute 78 = .ok (.getfield 29, 3) := by decide +kernel
theorem dX3_takeRoute_81 : decode cX3_takeRoute 81 = .ok (.iload_n 1, 1) := by decide +kernel
theorem dX3_takeRoute_82 : decode cX3_takeRoute 82 = .ok (.iload_n 2, 1) := by decide +kernel
theorem dX3_takeRoute_83 : decode cX3_takeRoute 83 = .ok (.iastore, 1) := by decide +kernel
theorem dX3_takeRoute_84 : decode cX3_takeRoute 84 = .ok (.aload_n 0, 1) := by decide +kernel
theorem dX3_takeRoute_85 : decode cX3_takeRoute 85 = .ok (.iload_n 1, 1) := by decide +kernel
theorem dX3_takeRoute_86 : decode cX3_takeRoute 86 = .ok (.iconst 1, 1) := by decide +kernel
theorem dX3_takeRoute_87 : decode cX3_takeRoute 87 = .ok (.iadd, 1) := by decide +kernel
theorem dX3_takeRoute_88 : decode cX3_takeRoute 88 = .ok (.putfield 110, 3) := by decide +kernel
theorem dX3_takeRoute_91 : decode cX3_takeRoute 91 = .ok (.goto 9, 3) := by decide +kernel
theorem dX3_takeRoute_94 : decode cX3_takeRoute 94 = .ok (.aload_n 0, 1) := by decide +kernel
theorem dX3_takeRoute_95 : decode cX3_takeRoute 95 = .ok (.bipush 6, 2) := by decide +kernel
theorem dX3_takeRoute_97 : decode cX3_takeRoute 97 = .ok (.invokevirtual 95, 3) := by decide +kernel
theorem dX3_takeRoute_100 : decode cX3_takeRoute 100 = .ok (.aload_n 0, 1) := by decide +kernel
theorem dX3_takeRoute_101 : decode cX3_takeRoute 101 = .ok (.getfield 12, 3) := by decide +kernel
theorem dX3_takeRoute_104 : decode cX3_takeRoute 104 = .ok (.invokevirtual 99, 3) := by decide +kernel
theorem dX3_takeRoute_107 : decode cX3_takeRoute 107 = .ok (.iinc 1 1, 3) := by decide +kernel
theorem dX3_takeRoute_110 : decode cX3_takeRoute 110 = .ok (.goto (-103), 3) := by decide +kernel
theorem dX3_takeRoute_113 : decode cX3_takeRoute 113 = .ok (.return_, 1) := by decide +kernel
theorem dX4_init_0 : decode cX4_init 0 = .ok (.aload_n 0, 1) := by decide +kernel
theorem dX4_init_1 : decode cX4_init 1 = .ok (.invokespecial 3, 3) := by decide +kernel
theorem dX4_init_4 : decode cX4_init 4 = .ok (.aload_n 0, 1) := by decide +kernel
theorem dX4_init_5 : decode cX4_init 5 = .ok (.bipush 8, 2) := by decide +kernel
theorem dX4_init_7 : decode cX4_init 7 = .ok (.anewarray 9, 3) := by decide +kernel
theorem dX4_init_10 : decode cX4_init 10 = .ok (.putfield 11, 3) := by decide +kernel
theorem dX4_init_13 : decode cX4_init 13 = .ok (.aload_n 0, 1) := by decide +kernel
theorem dX4_init_14 : decode cX4_init 14 = .ok (.bipush 12, 2) := by decide +kernel
theorem dX4_init_16 : decode cX4_init 16 = .ok (.anewarray 17, 3) := by decide +kernel
theorem dX4_init_19 : decode cX4_init 19 = .ok (.putfield 19, 3) := by decide +kernel
theorem dX4_init_22 : decode cX4_init 22 = .ok (.aload_n 0, 1) := by decide +kernel
theorem dX4_init_23 : decode cX4_init 23 = .ok (.iconst 4, 1) := by decide +kernel
theorem dX4_init_24 : decode cX4_init 24 = .ok (.anewarray 23, 3) := by decide +kernel
theorem dX4_init_27 : decode cX4_init 27 = .ok (.putfield 25, 3) := by decide +kernel
theorem dX4_init_30 : decode cX4_init 30 = .ok (.aload_n 0, 1) := by decide +kernel
theorem dX4_init_31 : decode cX4_init 31 = .ok (.bipush 12, 2) := by decide +kernel
theorem dX4_init_33 : decode cX4_init 33 = .ok (.anewarray 29, 3) := by decide +kernel
theorem dX4_init_36 : decode cX4_init 36 = .ok (.putfield 31, 3) := by decide +kernel
theorem dX4_init_39 : decode cX4_init 39 = .ok (.aload_n 0, 1) := by decide +kernel
theorem dX4_init_40 : decode cX4_init 40 = .ok (.bipush 64, 2) := by decide +kernel
theorem dX4_init_42 : decode cX4_init 42 = .ok (.newarray .int, 2) := by decide +kernel
theorem dX4_init_44 : decode cX4_init 44 = .ok (.putfield 35, 3) := by decide +kernel
theorem dX4_init_47 : decode cX4_init 47 = .ok (.iconst 0, 1) := by decide +kernel
theorem dX4_init_48 : decode cX4_init 48 = .ok (.istore_n 1, 1) := by decide +kernel
theorem dX4_init_49 : decode cX4_init 49 = .ok (.iload_n 1, 1) := by decide +kernel
theorem dX4_init_50 : decode cX4_init 50 = .ok (.aload_n 0, 1) := by decide +kernel
theorem dX4_init_51 : decode cX4_init 51 = .ok (.getfield 11, 3) := by decide +kernel
theorem dX4_init_54 : decode cX4_init 54 = .ok (.arraylength, 1) := by decide +kernel
theorem dX4_init_55 : decode cX4_init 55 = .ok (.if_icmp .ge 22, 3) := by decide +kernel
theorem dX4_init_58 : decode cX4_init 58 = .ok (.aload_n 0, 1) := by decide +kernel
theorem dX4_init_59 : decode cX4_init 59 = .ok (.getfield 11, 3) := by decide +kernel
theorem dX4_init_62 : decode cX4_init 62 = .ok (.iload_n 1, 1) := by decide +kernel
theorem dX4_init_63 : decode cX4_init 63 = .ok (.new 9, 3) := by decide +kernel
theorem dX4_init_66 : decode cX4_init 66 = .ok (.dup, 1) := by decide +kernel
theorem dX4_init_67 : decode cX4_init 67 = .ok (.invokespecial 39, 3) := by decide +kernel
theorem dX4_init_70 : decode cX4_init 70 = .ok (.aastore, 1) := by decide +kernel
theorem dX4_init_71 : decode cX4_init 71 = .ok (.iinc 1 1, 3) := by decide +kernel
theorem dX4_init_74 : decode cX4_init 74 = .ok (.goto (-25), 3) := by decide +kernel
theorem dX4_init_77 : decode cX4_init 77 = .ok (.iconst 0, 1) := by decide +kernel
theorem dX4_init_78 : decode cX4_init 78 = .ok (.istore_n 1, 1) := by decide +kernel
theorem dX4_init_79 : decode cX4_init 79 = .ok (.iload_n 1, 1) := by decide +kernel
theorem dX4_init_80 : decode cX4_init 80 = .ok (.aload_n 0, 1) := by decide +kernel
theorem dX4_init_81 : decode cX4_init 81 = .ok (.getfield 19, 3) := by decide +kernel
theorem dX4_init_84 : decode cX4_init 84 = .ok (.arraylength, 1) := by decide +kernel
theorem dX4_init_85 : decode cX4_init 85 = .ok (.if_icmp .ge 22, 3) := by decide +kernel
theorem dX4_init_88 : decode cX4_init 88 = .ok (.aload_n 0, 1) := by decide +kernel
theorem dX4_init_89 : decode cX4_init 89 = .ok (.getfield 19, 3) := by decide +kernel
theorem dX4_init_92 : decode cX4_init 92 = .ok (.iload_n 1, 1) := by decide +kernel
theorem dX4_init_93 : decode cX4_init 93 = .ok (.new 17, 3) := by decide +kernel
theorem dX4_init_96 : decode cX4_init 96 = .ok (.dup, 1) := by decide +kernel
theorem dX4_init_97 : decode cX4_init 97 = .ok (.invokespecial 40, 3) := by decide +kernel
theorem dX4_init_100 : decode cX4_init 100 = .ok (.aastore, 1) := by decide +kernel
theorem dX4_init_101 : decode cX4_init 101 = .ok (.iinc 1 1, 3) := by decide +kernel
theorem dX4_init_104 : decode cX4_init 104 = .ok (.goto (-25), 3) := by decide +kernel
theorem dX4_init_107 : decode cX4_init 107 = .ok (.iconst 0, 1) := by decide +kernel
theorem dX4_init_108 : decode cX4_init 108 = .ok (.istore_n 1, 1) := by decide +kernel
theorem dX4_init_109 : decode cX4_init 109 = .ok (.iload_n 1, 1) := by decide +kernel
theorem dX4_init_110 : decode cX4_init 110 = .ok (.aload_n 0, 1) := by decide +kernel
theorem dX4_init_111 : decode cX4_init 111 = .ok (.getfield 25, 3) := by decide +kernel
theorem dX4_init_114 : decode cX4_init 114 = .ok (.arraylength, 1) := by decide +kernel
theorem dX4_init_115 : decode cX4_init 115 = .ok (.if_icmp .ge 23, 3) := by decide +kernel
theorem dX4_init_118 : decode cX4_init 118 = .ok (.aload_n 0, 1) := by decide +kernel
theorem dX4_init_119 : decode cX4_init 119 = .ok (.getfield 25, 3) := by decide +kernel
theorem dX4_init_122 : decode cX4_init 122 = .ok (.iload_n 1, 1) := by decide +kernel
theorem dX4_init_123 : decode cX4_init 123 = .ok (.new 23, 3) := by decide +kernel
theorem dX4_init_126 : decode cX4_init 126 = .ok (.dup, 1) := by decide +kernel
theorem dX4_init_127 : decode cX4_init 127 = .ok (.iload_n 1, 1) := by decide +kernel
theorem dX4_init_128 : decode cX4_init 128 = .ok (.invokespecial 41, 3) := by decide +kernel
theorem dX4_init_131 : decode cX4_init 131 = .ok (.aastore, 1) := by decide +kernel
theorem dX4_init_132 : decode cX4_init 132 = .ok (.iinc 1 1, 3) := by decide +kernel
theorem dX4_init_135 : decode cX4_init 135 = .ok (.goto (-26), 3) := by decide +kernel
theorem dX4_init_138 : decode cX4_init 138 = .ok (.iconst 0, 1) := by decide +kernel
theorem dX4_init_139 : decode cX4_init 139 = .ok (.istore_n 1, 1) := by decide +kernel
theorem dX4_init_140 : decode cX4_init 140 = .ok (.iload_n 1, 1) := by decide +kernel
theorem dX4_init_141 : decode cX4_init 141 = .ok (.aload_n 0, 1) := by decide +kernel
theorem dX4_init_142 : decode cX4_init 142 = .ok (.getfield 31, 3) := by decide +kernel
theorem dX4_init_145 : decode cX4_init 145 = .ok (.arraylength, 1) := by decide +kernel
theorem dX4_init_146 : decode cX4_init 146 = .ok (.if_icmp .ge 23, 3) := by decide +kernel
theorem dX4_init_149 : decode cX4_init 149 = .ok (.aload_n 0, 1) := by decide +kernel
theorem dX4_init_150 : decode cX4_init 150 = .ok (.getfield 31, 3) := by decide +kernel
theorem dX4_init_153 : decode cX4_init 153 = .ok (.iload_n 1, 1) := by decide +kernel
theorem dX4_init_154 : decode cX4_init 154 = .ok (.new 29, 3) := by decide +kernel
theorem dX4_init_157 : decode cX4_init 157 = .ok (.dup, 1) := by decide +kernel
theorem dX4_init_158 : decode cX4_init 158 = .ok (.iload_n 1, 1) := by decide +kernel
theorem dX4_init_159 : decode cX4_init 159 = .ok (.invokespecial 44, 3) := by decide +kernel
theorem dX4_init_162 : decode cX4_init 162 = .ok (.aastore, 1) := by decide +kernel
theorem dX4_init_163 : decode cX4_init 163 = .ok (.iinc 1 1, 3) := by decide +kernel
theorem dX4_init_166 : decode cX4_init 166 = .ok (.goto (-26), 3) := by decide +kernel
theorem dX4_init_169 : decode cX4_init 169 = .ok (.return_, 1) := by decide +kernel
theorem dX4_copyFrom_0 : decode cX4_copyFrom 0 = .ok (.iconst 0, 1) := by decide +kernel
theorem dX4_copyFrom_1 : decode cX4_copyFrom 1 = .ok (.istore_n 2, 1) := by decide +kernel
theorem dX4_copyFrom_2 : decode cX4_copyFrom 2 = .ok (.iload_n 2, 1) := by decide +kernel
theorem dX4_copyFrom_3 : decode cX4_copyFrom 3 = .ok (.bipush 8, 2) := by decide +kernel
theorem dX4_copyFrom_5 : decode cX4_copyFrom 5 = .ok (.if_icmp .ge 24, 3) := by decide +kernel
theorem dX4_copyFrom_8 : decode cX4_copyFrom 8 = .ok (.aload_n 0, 1) := by decide +kernel
theorem dX4_copyFrom_9 : decode cX4_copyFrom 9 = .ok (.getfield 11, 3) := by decide +kernel
theorem dX4_copyFrom_12 : decode cX4_copyFrom 12 = .ok (.iload_n 2, 1) := by decide +kernel
theorem dX4_copyFrom_13 : decode cX4_copyFrom 13 = .ok (.aaload, 1) := by decide +kernel
theorem dX4_copyFrom_14 : decode cX4_copyFrom 14 = .ok (.aload_n 1, 1) := by decide +kernel
theorem dX4_copyFrom_15 : decode cX4_copyFrom 15 = .ok (.getfield 11, 3) := by decide +kernel
theorem dX4_copyFrom_18 : decode cX4_copyFrom 18 = .ok (.iload_n 2, 1) := by decide +kernel
theorem dX4_copyFrom_19 : decode cX4_copyFrom 19 = .ok (.aaload, 1) := by decide +kernel
theorem dX4_copyFrom_20 : decode cX4_copyFrom 20 = .ok (.invokevirtual 45, 3) := by decide +kernel
theorem dX4_copyFrom_23 : decode cX4_copyFrom 23 = .ok (.iinc 2 1, 3) := by decide +kernel
theorem dX4_copyFrom_26 : decode cX4_copyFrom 26 = .ok (.goto (-24), 3) := by decide +kernel
theorem dX4_copyFrom_29 : decode cX4_copyFrom 29 = .ok (.iconst 0, 1) := by decide +kernel
theorem dX4_copyFrom_30 : decode cX4_copyFrom 30 = .ok (.istore_n 2, 1) := by decide +kernel
theorem dX4_copyFrom_31 : decode cX4_copyFrom 31 = .ok (.iload_n 2, 1) := by decide +kernel
theorem dX4_copyFrom_32 : decode cX4_copyFrom 32 = .ok (.bipush 12, 2) := by decide +kernel
theorem dX4_copyFrom_34 : decode cX4_copyFrom 34 = .ok (.if_icmp .ge 24, 3) := by decide +kernel
theorem dX4_copyFrom_37 : decode cX4_copyFrom 37 = .ok (.aload_n 0, 1) := by decide +kernel
theorem dX4_copyFrom_38 : decode cX4_copyFrom 38 = .ok (.getfield 19, 3) := by decide +kernel
theorem dX4_copyFrom_41 : decode cX4_copyFrom 41 = .ok (.iload_n 2, 1) := by decide +kernel
theorem dX4_copyFrom_42 : decode cX4_copyFrom 42 = .ok (.aaload, 1) := by decide +kernel
theorem dX4_copyFrom_43 : decode cX4_copyFrom 43 = .ok (.aload_n 1, 1) := by decide +kernel
theorem dX4_copyFrom_44 : decode cX4_copyFrom 44 = .ok (.getfield 19, 3) := by decide +kernel
theorem dX4_copyFrom_47 : decode cX4_copyFrom 47 = .ok (.iload_n 2, 1) := by decide +kernel
theorem dX4_copyFrom_48 : decode cX4_copyFrom 48 = .ok (.aaload, 1) := by decide +kernel
theorem dX4_copyFrom_49 : decode cX4_copyFrom 49 = .ok (.invokevirtual 49, 3) := by decide +kernel
theorem dX4_copyFrom_52 : decode cX4_copyFrom 52 = .ok (.iinc 2 1, 3) := by decide +kernel
theorem dX4_copyFrom_55 : decode cX4_copyFrom 55 = .ok (.goto (-24), 3) := by decide +kernel
theorem dX4_copyFrom_58 : decode cX4_copyFrom 58 = .ok (.iconst 0, 1) := by decide +kernel
theorem dX4_copyFrom_59 : decode cX4_copyFrom 59 = .ok (.istore_n 2, 1) := by decide +kernel
theorem dX4_copyFrom_60 : decode cX4_copyFrom 60 = .ok (.iload_n 2, 1) := by decide +kernel
theorem dX4_copyFrom_61 : decode cX4_copyFrom 61 = .ok (.iconst 4, 1) := by decide +kernel
theorem dX4_copyFrom_62 : decode cX4_copyFrom 62 = .ok (.if_icmp .ge 24, 3) := by decide +kernel
theorem dX4_copyFrom_65 : decode cX4_copyFrom 65 = .ok (.aload_n 0, 1) := by decide +kernel
theorem dX4_copyFrom_66 : decode cX4_copyFrom 66 = .ok (.getfield 25, 3) := by decide +kernel
theorem dX4_copyFrom_69 : decode cX4_copyFrom 69 = .ok (.iload_n 2, 1) := by decide +kernel
theorem dX4_copyFrom_70 : decode cX4_copyFrom 70 = .ok (.aaload, 1) := by decide +kernel
theorem dX4_copyFrom_71 : decode cX4_copyFrom 71 = .ok (.aload_n 1, 1) := by decide +kernel
theorem dX4_copyFrom_72 : decode cX4_copyFrom 72 = .ok (.getfield 25, 3) := by decide +kernel
theorem dX4_copyFrom_75 : decode cX4_copyFrom 75 = .ok (.iload_n 2, 1) := by decide +kernel
theorem dX4_copyFrom_76 : decode cX4_copyFrom 76 = .ok (.aaload, 1) := by decide +kernel
theorem dX4_copyFrom_77 : decode cX4_copyFrom 77 = .ok (.invokevirtual 52, 3) := by decide +kernel
theorem dX4_copyFrom_80 : decode cX4_copyFrom 80 = .ok (.iinc 2 1, 3) := by decide +kernel
theorem dX4_copyFrom_83 : decode cX4_copyFrom 83 = .ok (.goto (-23), 3) := by decide +kernel
theorem dX4_copyFrom_86 : decode cX4_copyFrom 86 = .ok (.iconst 0, 1) := by decide +kernel
theorem dX4_copyFrom_87 : decode cX4_copyFrom 87 = .ok (.istore_n 2, 1) := by decide +kernel
theorem dX4_copyFrom_88 : decode cX4_copyFrom 88 = .ok (.iload_n 2, 1) := by decide +kernel
theorem dX4_copyFrom_89 : decode cX4_copyFrom 89 = .ok (.bipush 12, 2) := by decide +kernel
theorem dX4_copyFrom_91 : decode cX4_copyFrom 91 = .ok (.if_icmp .ge 24, 3) := by decide +kernel
theorem dX4_copyFrom_94 : decode cX4_copyFrom 94 = .ok (.aload_n 0, 1) := by decide +kernel
theorem dX4_copyFrom_95 : decode cX4_copyFrom 95 = .ok (.getfield 31, 3) := by decide +kernel
theorem dX4_copyFrom_98 : decode cX4_copyFrom 98 = .ok (.iload_n 2, 1) := by decide +kernel
theorem dX4_copyFrom_99 : decode cX4_copyFrom 99 = .ok (.aaload, 1) := by decide +kernel
theorem dX4_copyFrom_100 : decode cX4_copyFrom 100 = .ok (.aload_n 1, 1) := by decide +kernel
theorem dX4_copyFrom_101 : decode cX4_copyFrom 101 = .ok (.getfield 31, 3) := by decide +kernel
theorem dX4_copyFrom_104 : decode cX4_copyFrom 104 = .ok (.iload_n 2, 1) := by decide +kernel
theorem dX4_copyFrom_105 : decode cX4_copyFrom 105 = .ok (.aaload, 1) := by decide +kernel
theorem dX4_copyFrom_106 : decode cX4_copyFrom 106 = .ok (.invokevirtual 55, 3) := by decide +kernel
theorem dX4_copyFrom_109 : decode cX4_copyFrom 109 = .ok (.iinc 2 1, 3) := by decide +kernel
theorem dX4_copyFrom_112 : decode cX4_copyFrom 112 = .ok (.goto (-24), 3) := by decide +kernel
theorem dX4_copyFrom_115 : decode cX4_copyFrom 115 = .ok (.iconst 0, 1) := by decide +kernel
theorem dX4_copyFrom_116 : decode cX4_copyFrom 116 = .ok (.istore_n 2, 1) := by decide +kernel
theorem dX4_copyFrom_117 : decode cX4_copyFrom 117 = .ok (.iload_n 2, 1) := by decide +kernel
theorem dX4_copyFrom_118 : decode cX4_copyFrom 118 = .ok (.bipush 64, 2) := by decide +kernel
theorem dX4_copyFrom_120 : decode cX4_copyFrom 120 = .ok (.if_icmp .ge 21, 3) := by decide +kernel
theorem dX4_copyFrom_123 : decode cX4_copyFrom 123 = .ok (.aload_n 0, 1) := by decide +kernel
theorem dX4_copyFrom_124 : decode cX4_copyFrom 124 = .ok (.getfield 35, 3) := by decide +kernel
theorem dX4_copyFrom_127 : decode cX4_copyFrom 127 = .ok (.iload_n 2, 1) := by decide +kernel
theorem dX4_copyFrom_128 : decode cX4_copyFrom 128 = .ok (.aload_n 1, 1) := by decide +kernel
theorem dX4_copyFrom_129 : decode cX4_copyFrom 129 = .ok (.getfield 35, 3) := by decide +kernel
theorem dX4_copyFrom_132 : decode cX4_copyFrom 132 = .ok (.iload_n 2, 1) := by decide +kernel
theorem dX4_copyFrom_133 : decode cX4_copyFrom 133 = .ok (.iaload, 1) := by decide +kernel
theorem dX4_copyFrom_134 : decode cX4_copyFrom 134 = .ok (.iastore, 1) := by decide +kernel
theorem dX4_copyFrom_135 : decode cX4_copyFrom 135 = .ok (.iinc 2 1, 3) := by decide +kernel
theorem dX4_copyFrom_138 : decode cX4_copyFrom 138 = .ok (.goto (-21), 3) := by decide +kernel
theorem dX4_copyFrom_141 : decode cX4_copyFrom 141 = .ok (.aload_n 0, 1) := by decide +kernel
theorem dX4_copyFrom_142 : decode cX4_copyFrom 142 = .ok (.aload_n 1, 1) := by decide +kernel
theorem dX4_copyFrom_143 : decode cX4_copyFrom 143 = .ok (.getfield 58, 3) := by decide +kernel
theorem dX4_copyFrom_146 : decode cX4_copyFrom 146 = .ok (.putfield 58, 3) := by decide +kernel
theorem dX4_copyFrom_149 : decode cX4_copyFrom 149 = .ok (.aload_n 0, 1) := by decide +kernel
theorem dX4_copyFrom_150 : decode cX4_copyFrom 150 = .ok (.aload_n 1, 1) := by decide +kernel
theorem dX4_copyFrom_151 : decode cX4_copyFrom 151 = .ok (.getfield 62, 3) := by decide +kernel
theorem dX4_copyFrom_154 : decode cX4_copyFrom 154 = .ok (.putfield 62, 3) := by decide +kernel
theorem dX4_copyFrom_157 : decode cX4_copyFrom 157 = .ok (.aload_n 0, 1) := by decide +kernel
theorem dX4_copyFrom_158 : decode cX4_copyFrom 158 = .ok (.aload_n 1, 1) := by decide +kernel
theorem dX4_copyFrom_159 : decode cX4_copyFrom 159 = .ok (.getfield 65, 3) := by decide +kernel
theorem dX4_copyFrom_162 : decode cX4_copyFrom 162 = .ok (.putfield 65, 3) := by decide +kernel
theorem dX4_copyFrom_165 : decode cX4_copyFrom 165 = .ok (.aload_n 0, 1) := by decide +kernel
theorem dX4_copyFrom_166 : decode cX4_copyFrom 166 = .ok (.aload_n 1, 1) := by decide +kernel
theorem dX4_copyFrom_167 : decode cX4_copyFrom 167 = .ok (.getfield 68, 3) := by decide +kernel
theorem dX4_copyFrom_170 : decode cX4_copyFrom 170 = .ok (.putfield 68, 3) := by decide +kernel
theorem dX4_copyFrom_173 : decode cX4_copyFrom 173 = .ok (.aload_n 0, 1) := by decide +kernel
theorem dX4_copyFrom_174 : decode cX4_copyFrom 174 = .ok (.aload_n 1, 1) := by decide +kernel
theorem dX4_copyFrom_175 : decode cX4_copyFrom 175 = .ok (.getfield 71, 3) := by decide +kernel
theorem dX4_copyFrom_178 : decode cX4_copyFrom 178 = .ok (.putfield 71, 3) := by decide +kernel
theorem dX4_copyFrom_181 : decode cX4_copyFrom 181 = .ok (.aload_n 0, 1) := by decide +kernel
theorem dX4_copyFrom_182 : decode cX4_copyFrom 182 = .ok (.aload_n 1, 1) := by decide +kernel
theorem dX4_copyFrom_183 : decode cX4_copyFrom 183 = .ok (.getfield 74, 3) := by decide +kernel
theorem dX4_copyFrom_186 : decode cX4_copyFrom 186 = .ok (.putfield 74, 3) := by decide +kernel
theorem dX4_copyFrom_189 : decode cX4_copyFrom 189 = .ok (.aload_n 0, 1) := by decide +kernel
theorem dX4_copyFrom_190 : decode cX4_copyFrom 190 = .ok (.aload_n 1, 1) := by decide +kernel
theorem dX4_copyFrom_191 : decode cX4_copyFrom 191 = .ok (.getfield 77, 3) := by decide +kernel
theorem dX4_copyFrom_194 : decode cX4_copyFrom 194 = .ok (.putfield 77, 3) := by decide +kernel
theorem dX4_copyFrom_197 : decode cX4_copyFrom 197 = .ok (.return_, 1) := by decide +kernel
theorem dX4_clear_0 : decode cX4_clear 0 = .ok (.aload_n 0, 1) := by decide +kernel
theorem dX4_clear_1 : decode cX4_clear 1 = .ok (.iconst 0, 1) := by decide +kernel
theorem dX4_clear_2 : decode cX4_clear 2 = .ok (.putfield 58, 3) := by decide +kernel
theorem dX4_clear_5 : decode cX4_clear 5 = .ok (.aload_n 0, 1) := by decide +kernel
theorem dX4_clear_6 : decode cX4_clear 6 = .ok (.iconst 0, 1) := by decide +kernel
theorem dX4_clear_7 : decode cX4_clear 7 = .ok (.putfield 62, 3) := by decide +kernel
theorem dX4_clear_10 : decode cX4_clear 10 = .ok (.aload_n 0, 1) := by decide +kernel
theorem dX4_clear_11 : decode cX4_clear 11 = .ok (.iconst 0, 1) := by decide +kernel
theorem dX4_clear_12 : decode cX4_clear 12 = .ok (.putfield 65, 3) := by decide +kernel
theorem dX4_clear_15 : decode cX4_clear 15 = .ok (.aload_n 0, 1) := by decide +kernel
theorem dX4_clear_16 : decode cX4_clear 16 = .ok (.iconst 0, 1) := by decide +kernel
theorem dX4_clear_17 : decode cX4_clear 17 = .ok (.putfield 68, 3) := by decide +kernel
theorem dX4_clear_20 : decode cX4_clear 20 = .ok (.aload_n 0, 1) := by decide +kernel
theorem dX4_clear_21 : decode cX4_clear 21 = .ok (.iconst 0, 1) := by decide +kernel
theorem dX4_clear_22 : decode cX4_clear 22 = .ok (.putfield 71, 3) := by decide +kernel
theorem dX4_clear_25 : decode cX4_clear 25 = .ok (.aload_n 0, 1) := by decide +kernel
theorem dX4_clear_26 : decode cX4_clear 26 = .ok (.iconst 0, 1) := by decide +kernel
theorem dX4_clear_27 : decode cX4_clear 27 = .ok (.putfield 74, 3) := by decide +kernel
theorem dX4_clear_30 : decode cX4_clear 30 = .ok (.aload_n 0, 1) := by decide +kernel
theorem dX4_clear_31 : decode cX4_clear 31 = .ok (.iconst 0, 1) := by decide +kernel
theorem dX4_clear_32 : decode cX4_clear 32 = .ok (.putfield 77, 3) := by decide +kernel
theorem dX4_clear_35 : decode cX4_clear 35 = .ok (.aload_n 0, 1) := by decide +kernel
theorem dX4_clear_36 : decode cX4_clear 36 = .ok (.invokevirtual 80, 3) := by decide +kernel
theorem dX4_clear_39 : decode cX4_clear 39 = .ok (.return_, 1) := by decide +kernel
theorem dX4_makeStation_0 : decode cX4_makeStation 0 = .ok (.aload_n 0, 1) := by decide +kernel
theorem dX4_makeStation_1 : decode cX4_makeStation 1 = .ok (.getfield 58, 3) := by decide +kernel
theorem dX4_makeStation_4 : decode cX4_makeStation 4 = .ok (.bipush 8, 2) := by decide +kernel
theorem dX4_makeStation_6 : decode cX4_makeStation 6 = .ok (.if_icmp .lt 4, 3) := by decide +kernel
theorem dX4_makeStation_9 : decode cX4_makeStation 9 = .ok (.return_, 1) := by decide +kernel
theorem dX4_makeStation_10 : decode cX4_makeStation 10 = .ok (.aload_n 0, 1) := by decide +kernel
theorem dX4_makeStation_11 : decode cX4_makeStation 11 = .ok (.getfield 11, 3) := by decide +kernel
theorem dX4_makeStation_14 : decode cX4_makeStation 14 = .ok (.aload_n 0, 1) := by decide +kernel
theorem dX4_makeStation_15 : decode cX4_makeStation 15 = .ok (.getfield 58, 3) := by decide +kernel
theorem dX4_makeStation_18 : decode cX4_makeStation 18 = .ok (.aaload, 1) := by decide +kernel
theorem dX4_makeStation_19 : decode cX4_makeStation 19 = .ok (.astore_n 3, 1) := by decide +kernel
theorem dX4_makeStation_20 : decode cX4_makeStation 20 = .ok (.aload_n 3, 1) := by decide +kernel
theorem dX4_makeStation_21 : decode cX4_makeStation 21 = .ok (.iload_n 1, 1) := by decide +kernel
theorem dX4_makeStation_22 : decode cX4_makeStation 22 = .ok (.putfield 83, 3) := by decide +kernel
theorem dX4_makeStation_25 : decode cX4_makeStation 25 = .ok (.aload_n 3, 1) := by decide +kernel
theorem dX4_makeStation_26 : decode cX4_makeStation 26 = .ok (.iload_n 2, 1) := by decide +kernel
theorem dX4_makeStation_27 : decode cX4_makeStation 27 = .ok (.putfield 86, 3) := by decide +kernel
theorem dX4_makeStation_30 : decode cX4_makeStation 30 = .ok (.aload_n 3, 1) := by decide +kernel
theorem dX4_makeStation_31 : decode cX4_makeStation 31 = .ok (.iconst 0, 1) := by decide +kernel
theorem dX4_makeStation_32 : decode cX4_makeStation 32 = .ok (.putfield 90, 3) := by decide +kernel
theorem dX4_makeStation_35 : decode cX4_makeStation 35 = .ok (.aload_n 3, 1) := by decide +kernel
theorem dX4_makeStation_36 : decode cX4_makeStation 36 = .ok (.iconst (-1), 1) := by decide +kernel
theorem dX4_makeStation_37 : decode cX4_makeStation 37 = .ok (.putfield 93, 3) := by decide +kernel
theorem dX4_makeStation_40 : decode cX4_makeStation 40 = .ok (.aload_n 0, 1) := by decide +kernel
theorem dX4_makeStation_41 : decode cX4_makeStation 41 = .ok (.dup, 1) := by decide +kernel
theorem dX4_makeStation_42 : decode cX4_makeStation 42 = .ok (.getfield 58, 3) := by decide +kernel
theorem dX4_makeStation_45 : decode cX4_makeStation 45 = .ok (.iconst 1, 1) := by decide +kernel
theorem dX4_makeStation_46 : decode cX4_makeStation 46 = .ok (.iadd, 1) := by decide +kernel
theorem dX4_makeStation_47 : decode cX4_makeStation 47 = .ok (.putfield 58, 3) := by decide +kernel
theorem dX4_makeStation_50 : decode cX4_makeStation 50 = .ok (.return_, 1) := by decide +kernel
theorem dX4_makeTrack_0 : decode cX4_makeTrack 0 = .ok (.aload_n 0, 1) := by decide +kernel
theorem dX4_makeTrack_1 : decode cX4_makeTrack 1 = .ok (.getfield 62, 3) := by decide +kernel
theorem dX4_makeTrack_4 : decode cX4_makeTrack 4 = .ok (.bipush 12, 2) := by decide +kernel
theorem dX4_makeTrack_6 : decode cX4_makeTrack 6 = .ok (.if_icmp .lt 4, 3) := by decide +kernel
theorem dX4_makeTrack_9 : decode cX4_makeTrack 9 = .ok (.return_, 1) := by decide +kernel
theorem dX4_makeTrack_10 : decode cX4_makeTrack 10 = .ok (.aload_n 0, 1) := by decide +kernel
theorem dX4_makeTrack_11 : decode cX4_makeTrack 11 = .ok (.getfield 19, 3) := by decide +kernel
theorem dX4_makeTrack_14 : decode cX4_makeTrack 14 = .ok (.aload_n 0, 1) := by decide +kernel
theorem dX4_makeTrack_15 : decode cX4_makeTrack 15 = .ok (.getfield 62, 3) := by decide +kernel
theorem dX4_makeTrack_18 : decode cX4_makeTrack 18 = .ok (.aaload, 1) := by decide +kernel
theorem dX4_makeTrack_19 : decode cX4_makeTrack 19 = .ok (.astore 4, 2) := by decide +kernel
theorem dX4_makeTrack_21 : decode cX4_makeTrack 21 = .ok (.aload 4, 2) := by decide +kernel
theorem dX4_makeTrack_23 : decode cX4_makeTrack 23 = .ok (.iload_n 1, 1) := by decide +kernel
theorem dX4_makeTrack_24 : decode cX4_makeTrack 24 = .ok (.putfield 96, 3) := by decide +kernel
theorem dX4_makeTrack_27 : decode cX4_makeTrack 27 = .ok (.aload 4, 2) := by decide +kernel
theorem dX4_makeTrack_29 : decode cX4_makeTrack 29 = .ok (.iload_n 2, 1) := by decide +kernel
theorem dX4_makeTrack_30 : decode cX4_makeTrack 30 = .ok (.putfield 99, 3) := by decide +kernel
theorem dX4_makeTrack_33 : decode cX4_makeTrack 33 = .ok (.aload 4, 2) := by decide +kernel
theorem dX4_makeTrack_35 : decode cX4_makeTrack 35 = .ok (.iload_n 3, 1) := by decide +kernel
theorem dX4_makeTrack_36 : decode cX4_makeTrack 36 = .ok (.putfield 102, 3) := by decide +kernel
theorem dX4_makeTrack_39 : decode cX4_makeTrack 39 = .ok (.aload 4, 2) := by decide +kernel
theorem dX4_makeTrack_41 : decode cX4_makeTrack 41 = .ok (.iconst 1, 1) := by decide +kernel
theorem dX4_makeTrack_42 : decode cX4_makeTrack 42 = .ok (.putfield 105, 3) := by decide +kernel
theorem dX4_makeTrack_45 : decode cX4_makeTrack 45 = .ok (.aload_n 0, 1) := by decide +kernel
theorem dX4_makeTrack_46 : decode cX4_makeTrack 46 = .ok (.dup, 1) := by decide +kernel
theorem dX4_makeTrack_47 : decode cX4_makeTrack 47 = .ok (.getfield 62, 3) := by decide +kernel
theorem dX4_makeTrack_50 : decode cX4_makeTrack 50 = .ok (.iconst 1, 1) := by decide +kernel
theorem dX4_makeTrack_51 : decode cX4_makeTrack 51 = .ok (.iadd, 1) := by decide +kernel
theorem dX4_makeTrack_52 : decode cX4_makeTrack 52 = .ok (.putfield 62, 3) := by decide +kernel
theorem dX4_makeTrack_55 : decode cX4_makeTrack 55 = .ok (.aload_n 0, 1) := by decide +kernel
theorem dX4_makeTrack_56 : decode cX4_makeTrack 56 = .ok (.invokevirtual 80, 3) := by decide +kernel
theorem dX4_makeTrack_59 : decode cX4_makeTrack 59 = .ok (.return_, 1) := by decide +kernel
theorem dX4_makeTrain_0 : decode cX4_makeTrain 0 = .ok (.aload_n 0, 1) := by decide +kernel
theorem dX4_makeTrain_1 : decode cX4_makeTrain 1 = .ok (.getfield 65, 3) := by decide +kernel
theorem dX4_makeTrain_4 : decode cX4_makeTrain 4 = .ok (.iconst 4, 1) := by decide +kernel
theorem dX4_makeTrain_5 : decode cX4_makeTrain 5 = .ok (.if_icmp .lt 4, 3) := by decide +kernel
theorem dX4_makeTrain_8 : decode cX4_makeTrain 8 = .ok (.return_, 1) := by decide +kernel
theorem dX4_makeTrain_9 : decode cX4_makeTrain 9 = .ok (.aload_n 0, 1) := by decide +kernel
theorem dX4_makeTrain_10 : decode cX4_makeTrain 10 = .ok (.getfield 25, 3) := by decide +kernel
theorem dX4_makeTrain_13 : decode cX4_makeTrain 13 = .ok (.aload_n 0, 1) := by decide +kernel
theorem dX4_makeTrain_14 : decode cX4_makeTrain 14 = .ok (.getfield 65, 3) := by decide +kernel
theorem dX4_makeTrain_17 : decode cX4_makeTrain 17 = .ok (.aaload, 1) := by decide +kernel
theorem dX4_makeTrain_18 : decode cX4_makeTrain 18 = .ok (.astore 4, 2) := by decide +kernel
theorem dX4_makeTrain_20 : decode cX4_makeTrain 20 = .ok (.aload 4, 2) := by decide +kernel
theorem dX4_makeTrain_22 : decode cX4_makeTrain 22 = .ok (.iload_n 1, 1) := by decide +kernel
theorem dX4_makeTrain_23 : decode cX4_makeTrain 23 = .ok (.putfield 108, 3) := by decide +kernel
theorem dX4_makeTrain_26 : decode cX4_makeTrain 26 = .ok (.aload 4, 2) := by decide +kernel
theorem dX4_makeTrain_28 : decode cX4_makeTrain 28 = .ok (.iconst 0, 1) := by decide +kernel
theorem dX4_makeTrain_29 : decode cX4_makeTrain 29 = .ok (.putfield 111, 3) := by decide +kernel
theorem dX4_makeTrain_32 : decode cX4_makeTrain 32 = .ok (.iconst 0, 1) := by decide +kernel
theorem dX4_makeTrain_33 : decode cX4_makeTrain 33 = .ok (.istore 5, 2) := by decide +kernel
theorem dX4_makeTrain_35 : decode cX4_makeTrain 35 = .ok (.iload 5, 2) := by decide +kernel
theorem dX4_makeTrain_37 : decode cX4_makeTrain 37 = .ok (.iload_n 3, 1) := by decide +kernel
theorem dX4_makeTrain_38 : decode cX4_makeTrain 38 = .ok (.if_icmp .ge 46, 3) := by decide +kernel
theorem dX4_makeTrain_41 : decode cX4_makeTrain 41 = .ok (.iload 5, 2) := by decide +kernel
theorem dX4_makeTrain_43 : decode cX4_makeTrain 43 = .ok (.aload_n 2, 1) := by decide +kernel
theorem dX4_makeTrain_44 : decode cX4_makeTrain 44 = .ok (.arraylength, 1) := by decide +kernel
theorem dX4_makeTrain_45 : decode cX4_makeTrain 45 = .ok (.if_icmp .ge 39, 3) := by decide +kernel
theorem dX4_makeTrain_48 : decode cX4_makeTrain 48 = .ok (.iload 5, 2) := by decide +kernel
theorem dX4_makeTrain_50 : decode cX4_makeTrain 50 = .ok (.bipush 6, 2) := by decide +kernel
theorem dX4_makeTrain_52 : decode cX4_makeTrain 52 = .ok (.if_icmp .ge 32, 3) := by decide +kernel
theorem dX4_makeTrain_55 : decode cX4_makeTrain 55 = .ok (.aload 4, 2) := by decide +kernel
theorem dX4_makeTrain_57 : decode cX4_makeTrain 57 = .ok (.getfield 114, 3) := by decide +kernel
theorem dX4_makeTrain_60 : decode cX4_makeTrain 60 = .ok (.iload 5, 2) := by decide +kernel
theorem dX4_makeTrain_62 : decode cX4_makeTrain 62 = .ok (.aload_n 2, 1) := by decide +kernel
theorem dX4_makeTrain_63 : decode cX4_makeTrain 63 = .ok (.iload 5, 2) := by decide +kernel
theorem dX4_makeTrain_65 : decode cX4_makeTrain 65 = .ok (.iaload, 1) := by decide +kernel
theorem dX4_makeTrain_66 : decode cX4_makeTrain 66 = .ok (.iastore, 1) := by decide +kernel
theorem dX4_makeTrain_67 : decode cX4_makeTrain 67 = .ok (.aload 4, 2) := by decide +kernel
theorem dX4_makeTrain_69 : decode cX4_makeTrain 69 = .ok (.dup, 1) := by decide +kernel
theorem dX4_makeTrain_70 : decode cX4_makeTrain 70 = .ok (.getfield 111, 3) := by decide +kernel
theorem dX4_makeTrain_73 : decode cX4_makeTrain 73 = .ok (.iconst 1, 1) := by decide +kernel
theorem dX4_makeTrain_74 : decode cX4_makeTrain 74 = .ok (.iadd, 1) := by decide +kernel
theorem dX4_makeTrain_75 : decode cX4_makeTrain 75 = .ok (.putfield 111, 3) := by decide +kernel
theorem dX4_makeTrain_78 : decode cX4_makeTrain 78 = .ok (.iinc 5 1, 3) := by decide +kernel
theorem dX4_makeTrain_81 : decode cX4_makeTrain 81 = .ok (.goto (-46), 3) := by decide +kernel
theorem dX4_makeTrain_84 : decode cX4_makeTrain 84 = .ok (.aload 4, 2) := by decide +kernel
theorem dX4_makeTrain_86 : decode cX4_makeTrain 86 = .ok (.iconst 0, 1) := by decide +kernel
theorem dX4_makeTrain_87 : decode cX4_makeTrain 87 = .ok (.putfield 117, 3) := by decide +kernel
theorem dX4_makeTrain_90 : decode cX4_makeTrain 90 = .ok (.aload 4, 2) := by decide +kernel
theorem dX4_makeTrain_92 : decode cX4_makeTrain 92 = .ok (.iconst 1, 1) := by decide +kernel
theorem dX4_makeTrain_93 : decode cX4_makeTrain 93 = .ok (.putfield 120, 3) := by decide +kernel
theorem dX4_makeTrain_96 : decode cX4_makeTrain 96 = .ok (.aload 4, 2) := by decide +kernel
theorem dX4_makeTrain_98 : decode cX4_makeTrain 98 = .ok (.iconst 0, 1) := by decide +kernel
theorem dX4_makeTrain_99 : decode cX4_makeTrain 99 = .ok (.putfield 123, 3) := by decide +kernel
theorem dX4_makeTrain_102 : decode cX4_makeTrain 102 = .ok (.aload 4, 2) := by decide +kernel
theorem dX4_makeTrain_104 : decode cX4_makeTrain 104 = .ok (.iconst 0, 1) := by decide +kernel
theorem dX4_makeTrain_105 : decode cX4_makeTrain 105 = .ok (.putfield 126, 3) := by decide +kernel
theorem dX4_makeTrain_108 : decode cX4_makeTrain 108 = .ok (.aload 4, 2) := by decide +kernel
theorem dX4_makeTrain_110 : decode cX4_makeTrain 110 = .ok (.iconst 0, 1) := by decide +kernel
theorem dX4_makeTrain_111 : decode cX4_makeTrain 111 = .ok (.putfield 129, 3) := by decide +kernel
theorem dX4_makeTrain_114 : decode cX4_makeTrain 114 = .ok (.aload 4, 2) := by decide +kernel
theorem dX4_makeTrain_116 : decode cX4_makeTrain 116 = .ok (.iconst 0, 1) := by decide +kernel
theorem dX4_makeTrain_117 : decode cX4_makeTrain 117 = .ok (.putfield 132, 3) := by decide +kernel
theorem dX4_makeTrain_120 : decode cX4_makeTrain 120 = .ok (.aload_n 0, 1) := by decide +kernel
theorem dX4_makeTrain_121 : decode cX4_makeTrain 121 = .ok (.dup, 1) := by decide +kernel
theorem dX4_makeTrain_122 : decode cX4_makeTrain 122 = .ok (.getfield 65, 3) := by decide +kernel
theorem dX4_makeTrain_125 : decode cX4_makeTrain 125 = .ok (.iconst 1, 1) := by decide +kernel
theorem dX4_makeTrain_126 : decode cX4_makeTrain 126 = .ok (.iadd, 1) := by decide +kernel
theorem dX4_makeTrain_127 : decode cX4_makeTrain 127 = .ok (.putfield 65, 3) := by decide +kernel
theorem dX4_makeTrain_130 : decode cX4_makeTrain 130 = .ok (.return_, 1) := by decide +kernel
theorem dX4_makeParcel_0 : decode cX4_makeParcel 0 = .ok (.aload_n 0, 1) := by decide +kernel
theorem dX4_makeParcel_1 : decode cX4_makeParcel 1 = .ok (.getfield 68, 3) := by decide +kernel
theorem dX4_makeParcel_4 : decode cX4_makeParcel 4 = .ok (.bipush 12, 2) := by decide +kernel
theorem dX4_makeParcel_6 : decode cX4_makeParcel 6 = .ok (.if_icmp .lt 4, 3) := by decide +kernel
theorem dX4_makeParcel_9 : decode cX4_makeParcel 9 = .ok (.return_, 1) := by decide +kernel
theorem dX4_makeParcel_10 : decode cX4_makeParcel 10 = .ok (.aload_n 0, 1) := by decide +kernel
theorem dX4_makeParcel_11 : decode cX4_makeParcel 11 = .ok (.getfield 31, 3) := by decide +kernel
theorem dX4_makeParcel_14 : decode cX4_makeParcel 14 = .ok (.aload_n 0, 1) := by decide +kernel
theorem dX4_makeParcel_15 : decode cX4_makeParcel 15 = .ok (.getfield 68, 3) := by decide +kernel
theorem dX4_makeParcel_18 : decode cX4_makeParcel 18 = .ok (.aaload, 1) := by decide +kernel
theorem dX4_makeParcel_19 : decode cX4_makeParcel 19 = .ok (.astore 4, 2) := by decide +kernel
theorem dX4_makeParcel_21 : decode cX4_makeParcel 21 = .ok (.aload 4, 2) := by decide +kernel
theorem dX4_makeParcel_23 : decode cX4_makeParcel 23 = .ok (.iload_n 1, 1) := by decide +kernel
theorem dX4_makeParcel_24 : decode cX4_makeParcel 24 = .ok (.putfield 135, 3) := by decide +kernel
theorem dX4_makeParcel_27 : decode cX4_makeParcel 27 = .ok (.aload 4, 2) := by decide +kernel
theorem dX4_makeParcel_29 : decode cX4_makeParcel 29 = .ok (.iload_n 2, 1) := by decide +kernel
theorem dX4_makeParcel_30 : decode cX4_makeParcel 30 = .ok (.putfield 136, 3) := by decide +kernel
theorem dX4_makeParcel_33 : decode cX4_makeParcel 33 = .ok (.aload 4, 2) := by decide +kernel
theorem dX4_makeParcel_35 : decode cX4_makeParcel 35 = .ok (.iload_n 3, 1) := by decide +kernel
theorem dX4_makeParcel_36 : decode cX4_makeParcel 36 = .ok (.putfield 137, 3) := by decide +kernel
theorem dX4_makeParcel_39 : decode cX4_makeParcel 39 = .ok (.aload 4, 2) := by decide +kernel
theorem dX4_makeParcel_41 : decode cX4_makeParcel 41 = .ok (.iload_n 1, 1) := by decide +kernel
theorem dX4_makeParcel_42 : decode cX4_makeParcel 42 = .ok (.putfield 140, 3) := by decide +kernel
theorem dX4_makeParcel_45 : decode cX4_makeParcel 45 = .ok (.aload 4, 2) := by decide +kernel
theorem dX4_makeParcel_47 : decode cX4_makeParcel 47 = .ok (.iconst (-1), 1) := by decide +kernel
theorem dX4_makeParcel_48 : decode cX4_makeParcel 48 = .ok (.putfield 143, 3) := by decide +kernel
theorem dX4_makeParcel_51 : decode cX4_makeParcel 51 = .ok (.aload 4, 2) := by decide +kernel
theorem dX4_makeParcel_53 : decode cX4_makeParcel 53 = .ok (.iconst (-1), 1) := by decide +kernel
theorem dX4_makeParcel_54 : decode cX4_makeParcel 54 = .ok (.putfield 146, 3) := by decide +kernel
theorem dX4_makeParcel_57 : decode cX4_makeParcel 57 = .ok (.aload 4, 2) := by decide +kernel
theorem dX4_makeParcel_59 : decode cX4_makeParcel 59 = .ok (.iconst (-1), 1) := by decide +kernel
theorem dX4_makeParcel_60 : decode cX4_makeParcel 60 = .ok (.putfield 149, 3) := by decide +kernel
theorem dX4_makeParcel_63 : decode cX4_makeParcel 63 = .ok (.aload 4, 2) := by decide +kernel
theorem dX4_makeParcel_65 : decode cX4_makeParcel 65 = .ok (.iconst 0, 1) := by decide +kernel
theorem dX4_makeParcel_66 : decode cX4_makeParcel 66 = .ok (.putfield 152, 3) := by decide +kernel
theorem dX4_makeParcel_69 : decode cX4_makeParcel 69 = .ok (.aload 4, 2) := by decide +kernel
theorem dX4_makeParcel_71 : decode cX4_makeParcel 71 = .ok (.iconst 0, 1) := by decide +kernel
theorem dX4_makeParcel_72 : decode cX4_makeParcel 72 = .ok (.putfield 155, 3) := by decide +kernel
theorem dX4_makeParcel_75 : decode cX4_makeParcel 75 = .ok (.aload_n 0, 1) := by decide +kernel
theorem dX4_makeParcel_76 : decode cX4_makeParcel 76 = .ok (.dup, 1) := by decide +kernel
theorem dX4_makeParcel_77 : decode cX4_makeParcel 77 = .ok (.getfield 68, 3) := by decide +kernel
theorem dX4_makeParcel_80 : decode cX4_makeParcel 80 = .ok (.iconst 1, 1) := by decide +kernel
theorem dX4_makeParcel_81 : decode cX4_makeParcel 81 = .ok (.iadd, 1) := by decide +kernel
theorem dX4_makeParcel_82 : decode cX4_makeParcel 82 = .ok (.putfield 68, 3) := by decide +kernel
theorem dX4_makeParcel_85 : decode cX4_makeParcel 85 = .ok (.return_, 1) := by decide +kernel
theorem dX4_openTrack_0 : decode cX4_openTrack 0 = .ok (.iload_n 1, 1) := by decide +kernel
theorem dX4_openTrack_1 : decode cX4_openTrack 1 = .ok (.ifCond .lt 11, 3) := by decide +kernel
theorem dX4_openTrack_4 : decode cX4_openTrack 4 = .ok (.iload_n 1, 1) := by decide +kernel
theorem dX4_openTrack_5 : decode cX4_openTrack 5 = .ok (.aload_n 0, 1) := by decide +kernel
theorem dX4_openTrack_6 : decode cX4_openTrack 6 = .ok (.getfield 62, 3) := by decide +kernel
theorem dX4_openTrack_9 : decode cX4_openTrack 9 = .ok (.if_icmp .lt 4, 3) := by decide +kernel
theorem dX4_openTrack_12 : decode cX4_openTrack 12 = .ok (.return_, 1) := by decide +kernel
theorem dX4_openTrack_13 : decode cX4_openTrack 13 = .ok (.aload_n 0, 1) := by decide +kernel
theorem dX4_openTrack_14 : decode cX4_openTrack 14 = .ok (.getfield 19, 3) := by decide +kernel
theorem dX4_openTrack_17 : decode cX4_openTrack 17 = .ok (.iload_n 1, 1) := by decide +kernel
theorem dX4_openTrack_18 : decode cX4_openTrack 18 = .ok (.aaload, 1) := by decide +kernel
theorem dX4_openTrack_19 : decode cX4_openTrack 19 = .ok (.iload_n 2, 1) := by decide +kernel
theorem dX4_openTrack_20 : decode cX4_openTrack 20 = .ok (.putfield 105, 3) := by decide +kernel
theorem dX4_openTrack_23 : decode cX4_openTrack 23 = .ok (.aload_n 0, 1) := by decide +kernel
theorem dX4_openTrack_24 : decode cX4_openTrack 24 = .ok (.invokevirtual 80, 3) := by decide +kernel
theorem dX4_openTrack_27 : decode cX4_openTrack 27 = .ok (.return_, 1) := by decide +kernel
theorem dX4_setInspectionOf_0 : decode cX4_setInspectionOf 0 = .ok (.iload_n 1, 1) := by decide +kernel
theorem dX4_setInspectionOf_1 : decode cX4_setInspectionOf 1 = .ok (.ifCond .lt 21, 3) := by decide +kernel
theorem dX4_setInspectionOf_4 : decode cX4_setInspectionOf 4 = .ok (.iload_n 1, 1) := by decide +kernel
theorem dX4_setInspectionOf_5 : decode cX4_setInspectionOf 5 = .ok (.aload_n 0, 1) := by decide +kernel
theorem dX4_setInspectionOf_6 : decode cX4_setInspectionOf 6 = .ok (.getfield 58, 3) := by decide +kernel
theorem dX4_setInspectionOf_9 : decode cX4_setInspectionOf 9 = .ok (.if_icmp .ge 13, 3) := by decide +kernel
theorem dX4_setInspectionOf_12 : decode cX4_setInspectionOf 12 = .ok (.aload_n 0, 1) := by decide +kernel
theorem dX4_setInspectionOf_13 : decode cX4_setInspectionOf 13 = .ok (.getfield 11, 3) := by decide +kernel
theorem dX4_setInspectionOf_16 : decode cX4_setInspectionOf 16 = .ok (.iload_n 1, 1) := by decide +kernel
theorem dX4_setInspectionOf_17 : decode cX4_setInspectionOf 17 = .ok (.aaload, 1) := by decide +kernel
theorem dX4_setInspectionOf_18 : decode cX4_setInspectionOf 18 = .ok (.iload_n 2, 1) := by decide +kernel
theorem dX4_setInspectionOf_19 : decode cX4_setInspectionOf 19 = .ok (.putfield 90, 3) := by decide +kernel
theorem dX4_setInspectionOf_22 : decode cX4_setInspectionOf 22 = .ok (.return_, 1) := by decide +kernel
theorem dX4_findStation_0 : decode cX4_findStation 0 = .ok (.iconst 0, 1) := by decide +kernel
theorem dX4_findStation_1 : decode cX4_findStation 1 = .ok (.istore_n 2, 1) := by decide +kernel
theorem dX4_findStation_2 : decode cX4_findStation 2 = .ok (.iload_n 2, 1) := by decide +kernel
theorem dX4_findStation_3 : decode cX4_findStation 3 = .ok (.aload_n 0, 1) := by decide +kernel
theorem dX4_findStation_4 : decode cX4_findStation 4 = .ok (.getfield 58, 3) := by decide +kernel
theorem dX4_findStation_7 : decode cX4_findStation 7 = .ok (.if_icmp .ge 24, 3) := by decide +kernel
theorem dX4_findStation_10 : decode cX4_findStation 10 = .ok (.aload_n 0, 1) := by decide +kernel
theorem dX4_findStation_11 : decode cX4_findStation 11 = .ok (.getfield 11, 3) := by decide +kernel
theorem dX4_findStation_14 : decode cX4_findStation 14 = .ok (.iload_n 2, 1) := by decide +kernel
theorem dX4_findStation_15 : decode cX4_findStation 15 = .ok (.aaload, 1) := by decide +kernel
theorem dX4_findStation_16 : decode cX4_findStation 16 = .ok (.getfield 83, 3) := by decide +kernel
theorem dX4_findStation_19 : decode cX4_findStation 19 = .ok (.iload_n 1, 1) := by decide +kernel
theorem dX4_findStation_20 : decode cX4_findStation 20 = .ok (.if_icmp .ne 5, 3) := by decide +kernel
theorem dX4_findStation_23 : decode cX4_findStation 23 = .ok (.iload_n 2, 1) := by decide +kernel
theorem dX4_findStation_24 : decode cX4_findStation 24 = .ok (.ireturn, 1) := by decide +kernel
theorem dX4_findStation_25 : decode cX4_findStation 25 = .ok (.iinc 2 1, 3) := by decide +kernel
theorem dX4_findStation_28 : decode cX4_findStation 28 = .ok (.goto (-26), 3) := by decide +kernel
theorem dX4_findStation_31 : decode cX4_findStation 31 = .ok (.iconst (-1), 1) := by decide +kernel
theorem dX4_findStation_32 : decode cX4_findStation 32 = .ok (.ireturn, 1) := by decide +kernel
theorem dX4_findTrack_0 : decode cX4_findTrack 0 = .ok (.iconst 0, 1) := by decide +kernel
theorem dX4_findTrack_1 : decode cX4_findTrack 1 = .ok (.istore_n 3, 1) := by decide +kernel
theorem dX4_findTrack_2 : decode cX4_findTrack 2 = .ok (.iload_n 3, 1) := by decide +kernel
theorem dX4_findTrack_3 : decode cX4_findTrack 3 = .ok (.aload_n 0, 1) := by decide +kernel
theorem dX4_findTrack_4 : decode cX4_findTrack 4 = .ok (.getfield 62, 3) := by decide +kernel
theorem dX4_findTrack_7 : decode cX4_findTrack 7 = .ok (.if_icmp .ge 25, 3) := by decide +kernel
theorem dX4_findTrack_10 : decode cX4_findTrack 10 = .ok (.aload_n 0, 1) := by decide +kernel
theorem dX4_findTrack_11 : decode cX4_findTrack 11 = .ok (.getfield 19, 3) := by decide +kernel
theorem dX4_findTrack_14 : decode cX4_findTrack 14 = .ok (.iload_n 3, 1) := by decide +kernel
theorem dX4_findTrack_15 : decode cX4_findTrack 15 = .ok (.aaload, 1) := by decide +kernel
theorem dX4_findTrack_16 : decode cX4_findTrack 16 = .ok (.iload_n 1, 1) := by decide +kernel
theorem dX4_findTrack_17 : decode cX4_findTrack 17 = .ok (.iload_n 2, 1) := by decide +kernel
theorem dX4_findTrack_18 : decode cX4_findTrack 18 = .ok (.invokevirtual 158, 3) := by decide +kernel
theorem dX4_findTrack_21 : decode cX4_findTrack 21 = .ok (.ifCond .eq 5, 3) := by decide +kernel
theorem dX4_findTrack_24 : decode cX4_findTrack 24 = .ok (.iload_n 3, 1) := by decide +kernel
theorem dX4_findTrack_25 : decode cX4_findTrack 25 = .ok (.ireturn, 1) := by decide +kernel
theorem dX4_findTrack_26 : decode cX4_findTrack 26 = .ok (.iinc 3 1, 3) := by decide +kernel
theorem dX4_findTrack_29 : decode cX4_findTrack 29 = .ok (.goto (-27), 3) := by decide +kernel
theorem dX4_findTrack_32 : decode cX4_findTrack 32 = .ok (.iconst (-1), 1) := by decide +kernel
theorem dX4_findTrack_33 : decode cX4_findTrack 33 = .ok (.ireturn, 1) := by decide +kernel
theorem dX4_distanceBetween_0 : decode cX4_distanceBetween 0 = .ok (.iload_n 1, 1) := by decide +kernel
theorem dX4_distanceBetween_1 : decode cX4_distanceBetween 1 = .ok (.ifCond .lt 19, 3) := by decide +kernel
theorem dX4_distanceBetween_4 : decode cX4_distanceBetween 4 = .ok (.iload_n 1, 1) := by decide +kernel
theorem dX4_distanceBetween_5 : decode cX4_distanceBetween 5 = .ok (.bipush 8, 2) := by decide +kernel
theorem dX4_distanceBetween_7 : decode cX4_distanceBetween 7 = .ok (.if_icmp .ge 13, 3) := by decide +kernel
theorem dX4_distanceBetween_10 : decode cX4_distanceBetween 10 = .ok (.iload_n 2, 1) := by decide +kernel
theorem dX4_distanceBetween_11 : decode cX4_distanceBetween 11 = .ok (.ifCond .lt 9, 3) := by decide +kernel
theorem dX4_distanceBetween_14 : decode cX4_distanceBetween 14 = .ok (.iload_n 2, 1) := by decide +kernel
theorem dX4_distanceBetween_15 : decode cX4_distanceBetween 15 = .ok (.bipush 8, 2) := by decide +kernel
theorem dX4_distanceBetween_17 : decode cX4_distanceBetween 17 = .ok (.if_icmp .lt 7, 3) := by decide +kernel
theorem dX4_distanceBetween_20 : decode cX4_distanceBetween 20 = .ok (.sipush 1000, 3) := by decide +kernel
theorem dX4_distanceBetween_23 : decode cX4_distanceBetween 23 = .ok (.ireturn, 1) := by decide +kernel
theorem dX4_distanceBetween_24 : decode cX4_distanceBetween 24 = .ok (.aload_n 0, 1) := by decide +kernel
theorem dX4_distanceBetween_25 : decode cX4_distanceBetween 25 = .ok (.getfield 35, 3) := by decide +kernel
theorem dX4_distanceBetween_28 : decode cX4_distanceBetween 28 = .ok (.iload_n 1, 1) := by decide +kernel
theorem dX4_distanceBetween_29 : decode cX4_distanceBetween 29 = .ok (.bipush 8, 2) := by decide +kernel
theorem dX4_distanceBetween_31 : decode cX4_distanceBetween 31 = .ok (.imul, 1) := by decide +kernel
theorem dX4_distanceBetween_32 : decode cX4_distanceBetween 32 = .ok (.iload_n 2, 1) := by decide +kernel
theorem dX4_distanceBetween_33 : decode cX4_distanceBetween 33 = .ok (.iadd, 1) := by decide +kernel
theorem dX4_distanceBetween_34 : decode cX4_distanceBetween 34 = .ok (.iaload, 1) := by decide +kernel
theorem dX4_distanceBetween_35 : decode cX4_distanceBetween 35 = .ok (.ireturn, 1) := by decide +kernel
theorem dX4_measureDistances_0 : decode cX4_measureDistances 0 = .ok (.iconst 0, 1) := by decide +kernel
theorem dX4_measureDistances_1 : decode cX4_measureDistances 1 = .ok (.istore_n 1, 1) := by decide +kernel
theorem dX4_measureDistances_2 : decode cX4_measureDistances 2 = .ok (.iload_n 1, 1) := by decide +kernel
theorem dX4_measureDistances_3 : decode cX4_measureDistances 3 = .ok (.bipush 8, 2) := by decide +kernel
theorem dX4_measureDistances_5 : decode cX4_measureDistances 5 = .ok (.if_icmp .ge 46, 3) := by decide +kernel
theorem dX4_measureDistances_8 : decode cX4_measureDistances 8 = .ok (.iconst 0, 1) := by decide +kernel
theorem dX4_measureDistances_9 : decode cX4_measureDistances 9 = .ok (.istore_n 2, 1) := by decide +kernel
theorem dX4_measureDistances_10 : decode cX4_measureDistances 10 = .ok (.iload_n 2, 1) := by decide +kernel
theorem dX4_measureDistances_11 : decode cX4_measureDistances 11 = .ok (.bipush 8, 2) := by decide +kernel
theorem dX4_measureDistances_13 : decode cX4_measureDistances 13 = .ok (.if_icmp .ge 32, 3) := by decide +kernel
theorem dX4_measureDistances_16 : decode cX4_measureDistances 16 = .ok (.aload_n 0, 1) := by decide +kernel
theorem dX4_measureDistances_17 : decode cX4_measureDistances 17 = .ok (.getfield 35, 3) := by decide +kernel
theorem dX4_measureDistances_20 : decode cX4_measureDistances 20 = .ok (.iload_n 1, 1) := by decide +kernel
theorem dX4_measureDistances_21 : decode cX4_measureDistances 21 = .ok (.bipush 8, 2) := by decide +kernel
theorem dX4_measureDistances_23 : decode cX4_measureDistances 23 = .ok (.imul, 1) := by decide +kernel
theorem dX4_measureDistances_24 : decode cX4_measureDistances 24 = .ok (.iload_n 2, 1) := by decide +kernel
theorem dX4_measureDistances_25 : decode cX4_measureDistances 25 = .ok (.iadd, 1) := by decide +kernel
theorem dX4_measureDistances_26 : decode cX4_measureDistances 26 = .ok (.iload_n 1, 1) := by decide +kernel
theorem dX4_measureDistances_27 : decode cX4_measureDistances 27 = .ok (.iload_n 2, 1) := by decide +kernel
theorem dX4_measureDistances_28 : decode cX4_measureDistances 28 = .ok (.if_icmp .ne 7, 3) := by decide +kernel
theorem dX4_measureDistances_31 : decode cX4_measureDistances 31 = .ok (.iconst 0, 1) := by decide +kernel
theorem dX4_measureDistances_32 : decode cX4_measureDistances 32 = .ok (.goto 6, 3) := by decide +kernel
theorem dX4_measureDistances_35 : decode cX4_measureDistances 35 = .ok (.sipush 1000, 3) := by decide +kernel
theorem dX4_measureDistances_38 : decode cX4_measureDistances 38 = .ok (.iastore, 1) := by decide +kernel
theorem dX4_measureDistances_39 : decode cX4_measureDistances 39 = .ok (.iinc 2 1, 3) := by decide +kernel
theorem dX4_measureDistances_42 : decode cX4_measureDistances 42 = .ok (.goto (-32), 3) := by decide +kernel
theorem dX4_measureDistances_45 : decode cX4_measureDistances 45 = .ok (.iinc 1 1, 3) := by decide +kernel
theorem dX4_measureDistances_48 : decode cX4_measureDistances 48 = .ok (.goto (-46), 3) := by decide +kernel
theorem dX4_measureDistances_51 : decode cX4_measureDistances 51 = .ok (.iconst 0, 1) := by decide +kernel
theorem dX4_measureDistances_52 : decode cX4_measureDistances 52 = .ok (.istore_n 1, 1) := by decide +kernel
theorem dX4_measureDistances_53 : decode cX4_measureDistances 53 = .ok (.iload_n 1, 1) := by decide +kernel
theorem dX4_measureDistances_54 : decode cX4_measureDistances 54 = .ok (.aload_n 0, 1) := by decide +kernel
theorem dX4_measureDistances_55 : decode cX4_measureDistances 55 = .ok (.getfield 62, 3) := by decide +kernel
theorem dX4_measureDistances_58 : decode cX4_measureDistances 58 = .ok (.if_icmp .ge 83, 3) := by decide +kernel
theorem dX4_measureDistances_61 : decode cX4_measureDistances 61 = .ok (.aload_n 0, 1) := by decide +kernel
theorem dX4_measureDistances_62 : decode cX4_measureDistances 62 = .ok (.getfield 19, 3) := by decide +kernel
theorem dX4_measureDistances_65 : decode cX4_measureDistances 65 = .ok (.iload_n 1, 1) := by decide +kernel
theorem dX4_measureDistances_66 : decode cX4_measureDistances 66 = .ok (.aaload, 1) := by decide +kernel
theorem dX4_measureDistances_67 : decode cX4_measureDistances 67 = .ok (.getfield 105, 3) := by decide +kernel
theorem dX4_measureDistances_70 : decode cX4_measureDistances 70 = .ok (.ifCond .eq 65, 3) := by decide +kernel
theorem dX4_measureDistances_73 : decode cX4_measureDistances 73 = .ok (.aload_n 0, 1) := by decide +kernel
theorem dX4_measureDistances_74 : decode cX4_measureDistances 74 = .ok (.aload_n 0, 1) := by decide +kernel
theorem dX4_measureDistances_75 : decode cX4_measureDistances 75 = .ok (.getfield 19, 3) := by decide +kernel
theorem dX4_measureDistances_78 : decode cX4_measureDistances 78 = .ok (.iload_n 1, 1) := by decide +kernel
theorem dX4_measureDistances_79 : decode cX4_measureDistances 79 = .ok (.aaload, 1) := by decide +kernel
theorem dX4_measureDistances_80 : decode cX4_measureDistances 80 = .ok (.getfield 96, 3) := by decide +kernel
theorem dX4_measureDistances_83 : decode cX4_measureDistances 83 = .ok (.aload_n 0, 1) := by decide +kernel
theorem dX4_measureDistances_84 : decode cX4_measureDistances 84 = .ok (.getfield 19, 3) := by decide +kernel
theorem dX4_measureDistances_87 : decode cX4_measureDistances 87 = .ok (.iload_n 1, 1) := by decide +kernel
theorem dX4_measureDistances_88 : decode cX4_measureDistances 88 = .ok (.aaload, 1) := by decide +kernel
theorem dX4_measureDistances_89 : decode cX4_measureDistances 89 = .ok (.getfield 99, 3) := by decide +kernel
theorem dX4_measureDistances_92 : decode cX4_measureDistances 92 = .ok (.aload_n 0, 1) := by decide +kernel
theorem dX4_measureDistances_93 : decode cX4_measureDistances 93 = .ok (.getfield 19, 3) := by decide +kernel
theorem dX4_measureDistances_96 : decode cX4_measureDistances 96 = .ok (.iload_n 1, 1) := by decide +kernel
theorem dX4_measureDistances_97 : decode cX4_measureDistances 97 = .ok (.aaload, 1) := by decide +kernel
theorem dX4_measureDistances_98 : decode cX4_measureDistances 98 = .ok (.getfield 102, 3) := by decide +kernel
theorem dX4_measureDistances_101 : decode cX4_measureDistances 101 = .ok (.invokevirtual 162, 3) := by decide +kernel
theorem dX4_measureDistances_104 : decode cX4_measureDistances 104 = .ok (.aload_n 0, 1) := by decide +kernel
theorem dX4_measureDistances_105 : decode cX4_measureDistances 105 = .ok (.aload_n 0, 1) := by decide +kernel
theorem dX4_measureDistances_106 : decode cX4_measureDistances 106 = .ok (.getfield 19, 3) := by decide +kernel
theorem dX4_measureDistances_109 : decode cX4_measureDistances 109 = .ok (.iload_n 1, 1) := by decide +kernel
theorem dX4_measureDistances_110 : decode cX4_measureDistances 110 = .ok (.aaload, 1) := by decide +kernel
theorem dX4_measureDistances_111 : decode cX4_measureDistances 111 = .ok (.getfield 99, 3) := by decide +kernel
theorem dX4_measureDistances_114 : decode cX4_measureDistances 114 = .ok (.aload_n 0, 1) := by decide +kernel
theorem dX4_measureDistances_115 : decode cX4_measureDistances 115 = .ok (.getfield 19, 3) := by decide +kernel
theorem dX4_measureDistances_118 : decode cX4_measureDistances 118 = .ok (.iload_n 1, 1) := by decide +kernel
theorem dX4_measureDistances_119 : decode cX4_measureDistances 119 = .ok (.aaload, 1) := by decide +kernel
theorem dX4_measureDistances_120 : decode cX4_measureDistances 120 = .ok (.getfield 96, 3) := by decide +kernel
theorem dX4_measureDistances_123 : decode cX4_measureDistances 123 = .ok (.aload_n 0, 1) := by decide +kernel
theorem dX4_measureDistances_124 : decode cX4_measureDistances 124 = .ok (.getfield 19, 3) := by decide +kernel
theorem dX4_measureDistances_127 : decode cX4_measureDistances 127 = .ok (.iload_n 1, 1) := by decide +kernel
theorem dX4_measureDistances_128 : decode cX4_measureDistances 128 = .ok (.aaload, 1) := by decide +kernel
theorem dX4_measureDistances_129 : decode cX4_measureDistances 129 = .ok (.getfield 102, 3) := by decide +kernel
theorem dX4_measureDistances_132 : decode cX4_measureDistances 132 = .ok (.invokevirtual 162, 3) := by decide +kernel
theorem dX4_measureDistances_135 : decode cX4_measureDistances 135 = .ok (.iinc 1 1, 3) := by decide +kernel
theorem dX4_measureDistances_138 : decode cX4_measureDistances 138 = .ok (.goto (-85), 3) := by decide +kernel
theorem dX4_measureDistances_141 : decode cX4_measureDistances 141 = .ok (.iconst 0, 1) := by decide +kernel
theorem dX4_measureDistances_142 : decode cX4_measureDistances 142 = .ok (.istore_n 1, 1) := by decide +kernel
theorem dX4_measureDistances_143 : decode cX4_measureDistances 143 = .ok (.iload_n 1, 1) := by decide +kernel
theorem dX4_measureDistances_144 : decode cX4_measureDistances 144 = .ok (.aload_n 0, 1) := by decide +kernel
theorem dX4_measureDistances_145 : decode cX4_measureDistances 145 = .ok (.getfield 58, 3) := by decide +kernel
theorem dX4_measureDistances_148 : decode cX4_measureDistances 148 = .ok (.if_icmp .ge 60, 3) := by decide +kernel
theorem dX4_measureDistances_151 : decode cX4_measureDistances 151 = .ok (.iconst 0, 1) := by decide +kernel
theorem dX4_measureDistances_152 : decode cX4_measureDistances 152 = .ok (.istore_n 2, 1) := by decide +kernel
theorem dX4_measureDistances_153 : decode cX4_measureDistances 153 = .ok (.iload_n 2, 1) := by decide +kernel
theorem dX4_measureDistances_154 : decode cX4_measureDistances 154 = .ok (.aload_n 0, 1) := by decide +kernel
theorem dX4_measureDistances_155 : decode cX4_measureDistances 155 = .ok (.getfield 58, 3) := by decide +kernel
theorem dX4_measureDistances_158 : decode cX4_measureDistances 158 = .ok (.if_icmp .ge 44, 3) := by decide +kernel
theorem dX4_measureDistances_161 : decode cX4_measureDistances 161 = .ok (.iconst 0, 1) := by decide +kernel
theorem dX4_measureDistances_162 : decode cX4_measureDistances 162 = .ok (.istore_n 3, 1) := by decide +kernel
theorem dX4_measureDistances_163 : decode cX4_measureDistances 163 = .ok (.iload_n 3, 1) := by decide +kernel
theorem dX4_measureDistances_164 : decode cX4_measureDistances 164 = .ok (.aload_n 0, 1) := by decide +kernel
theorem dX4_measureDistances_165 : decode cX4_measureDistances 165 = .ok (.getfield 58, 3) := by decide +kernel
theorem dX4_measureDistances_168 : decode cX4_measureDistances 168 = .ok (.if_icmp .ge 28, 3) := by decide +kernel
theorem dX4_measureDistances_171 : decode cX4_measureDistances 171 = .ok (.aload_n 0, 1) := by decide +kernel
theorem dX4_measureDistances_172 : decode cX4_measureDistances 172 = .ok (.iload_n 2, 1) := by decide +kernel
theorem dX4_measureDistances_173 : decode cX4_measureDistances 173 = .ok (.iload_n 3, 1) := by decide +kernel
theorem dX4_measureDistances_174 : decode cX4_measureDistances 174 = .ok (.aload_n 0, 1) := by decide +kernel
theorem dX4_measureDistances_175 : decode cX4_measureDistances 175 = .ok (.iload_n 2, 1) := by decide +kernel
theorem dX4_measureDistances_176 : decode cX4_measureDistances 176 = .ok (.iload_n 1, 1) := by decide +kernel
theorem dX4_measureDistances_177 : decode cX4_measureDistances 177 = .ok (.invokevirtual 166, 3) := by decide +kernel
theorem dX4_measureDistances_180 : decode cX4_measureDistances 180 = .ok (.aload_n 0, 1) := by decide +kernel
theorem dX4_measureDistances_181 : decode cX4_measureDistances 181 = .ok (.iload_n 1, 1) := by decide +kernel
theorem dX4_measureDistances_182 : decode cX4_measureDistances 182 = .ok (.iload_n 3, 1) := by decide +kernel
theorem dX4_measureDistances_183 : decode cX4_measureDistances 183 = .ok (.invokevirtual 166, 3) := by decide +kernel
theorem dX4_measureDistances_186 : decode cX4_measureDistances 186 = .ok (.iadd, 1) := by decide +kernel
theorem dX4_measureDistances_187 : decode cX4_measureDistances 187 = .ok (.invokevirtual 162, 3) := by decide +kernel
theorem dX4_measureDistances_190 : decode cX4_measureDistances 190 = .ok (.iinc 3 1, 3) := by decide +kernel
theorem dX4_measureDistances_193 : decode cX4_measureDistances 193 = .ok (.goto (-30), 3) := by decide +kernel
theorem dX4_measureDistances_196 : decode cX4_measureDistances 196 = .ok (.iinc 2 1, 3) := by decide +kernel
theorem dX4_measureDistances_199 : decode cX4_measureDistances 199 = .ok (.goto (-46), 3) := by decide +kernel
theorem dX4_measureDistances_202 : decode cX4_measureDistances 202 = .ok (.iinc 1 1, 3) := by decide +kernel
theorem dX4_measureDistances_205 : decode cX4_measureDistances 205 = .ok (.goto (-62), 3) := by decide +kernel
theorem dX4_measureDistances_208 : decode cX4_measureDistances 208 = .ok (.return_, 1) := by decide +kernel
theorem dX4_shorten_0 : decode cX4_shorten 0 = .ok (.iload_n 1, 1) := by decide +kernel
theorem dX4_shorten_1 : decode cX4_shorten 1 = .ok (.bipush 8, 2) := by decide +kernel
theorem dX4_shorten_3 : decode cX4_shorten 3 = .ok (.imul, 1) := by decide +kernel
theorem dX4_shorten_4 : decode cX4_shorten 4 = .ok (.iload_n 2, 1) := by decide +kernel
theorem dX4_shorten_5 : decode cX4_shorten 5 = .ok (.iadd, 1) := by decide +kernel
theorem dX4_shorten_6 : decode cX4_shorten 6 = .ok (.istore 4, 2) := by decide +kernel
theorem dX4_shorten_8 : decode cX4_shorten 8 = .ok (.iload 4, 2) := by decide +kernel
theorem dX4_shorten_10 : decode cX4_shorten 10 = .ok (.ifCond .lt 32, 3) := by decide +kernel
theorem dX4_shorten_13 : decode cX4_shorten 13 = .ok (.iload 4, 2) := by decide +kernel
theorem dX4_shorten_15 : decode cX4_shorten 15 = .ok (.aload_n 0, 1) := by decide +kernel
theorem dX4_shorten_16 : decode cX4_shorten 16 = .ok (.getfield 35, 3) := by decide +kernel
theorem dX4_shorten_19 : decode cX4_shorten 19 = .ok (.arraylength, 1) := by decide +kernel
theorem dX4_shorten_20 : decode cX4_shorten 20 = .ok (.if_icmp .ge 22, 3) := by decide +kernel
theorem dX4_shorten_23 : decode cX4_shorten 23 = .ok (.iload_n 3, 1) := by decide +kernel
theorem dX4_shorten_24 : decode cX4_shorten 24 = .ok (.aload_n 0, 1) := by decide +kernel
theorem dX4_shorten_25 : decode cX4_shorten 25 = .ok (.getfield 35, 3) := by decide +kernel
theorem dX4_shorten_28 : decode cX4_shorten 28 = .ok (.iload 4, 2) := by decide +kernel
theorem dX4_shorten_30 : decode cX4_shorten 30 = .ok (.iaload, 1) := by decide +kernel
theorem dX4_shorten_31 : decode cX4_shorten 31 = .ok (.if_icmp .ge 11, 3) := by decide +kernel
theorem dX4_shorten_34 : decode cX4_shorten 34 = .ok (.aload_n 0, 1) := by decide +kernel
theorem dX4_shorten_35 : decode cX4_shorten 35 = .ok (.getfield 35, 3) := by decide +kernel
theorem dX4_shorten_38 : decode cX4_shorten 38 = .ok (.iload 4, 2) := by decide +kernel
theorem dX4_shorten_40 : decode cX4_shorten 40 = .ok (.iload_n 3, 1) := by decide +kernel
theorem dX4_shorten_41 : decode cX4_shorten 41 = .ok (.iastore, 1) := by decide +kernel
theorem dX4_shorten_42 : decode cX4_shorten 42 = .ok (.return_, 1) := by decide +kernel
theorem dX4_countWaitingAt_0 : decode cX4_countWaitingAt 0 = .ok (.iconst 0, 1) := by decide +kernel
theorem dX4_countWaitingAt_1 : decode cX4_countWaitingAt 1 = .ok (.istore_n 2, 1) := by decide +kernel
theorem dX4_countWaitingAt_2 : decode cX4_countWaitingAt 2 = .ok (.iconst 0, 1) := by decide +kernel
theorem dX4_countWaitingAt_3 : decode cX4_countWaitingAt 3 = .ok (.istore_n 3, 1) := by decide +kernel
theorem dX4_countWaitingAt_4 : decode cX4_countWaitingAt 4 = .ok (.iload_n 3, 1) := by decide +kernel
theorem dX4_countWaitingAt_5 : decode cX4_countWaitingAt 5 = .ok (.aload_n 0, 1) := by decide +kernel
theorem dX4_countWaitingAt_6 : decode cX4_countWaitingAt 6 = .ok (.getfield 68, 3) := by decide +kernel
theorem dX4_countWaitingAt_9 : decode cX4_countWaitingAt 9 = .ok (.if_icmp .ge 25, 3) := by decide +kernel
theorem dX4_countWaitingAt_12 : decode cX4_countWaitingAt 12 = .ok (.aload_n 0, 1) := by decide +kernel
theorem dX4_countWaitingAt_13 : decode cX4_countWaitingAt 13 = .ok (.getfield 31, 3) := by decide +kernel
theorem dX4_countWaitingAt_16 : decode cX4_countWaitingAt 16 = .ok (.iload_n 3, 1) := by decide +kernel
theorem dX4_countWaitingAt_17 : decode cX4_countWaitingAt 17 = .ok (.aaload, 1) := by decide +kernel
theorem dX4_countWaitingAt_18 : decode cX4_countWaitingAt 18 = .ok (.getfield 140, 3) := by decide +kernel
theorem dX4_countWaitingAt_21 : decode cX4_countWaitingAt 21 = .ok (.iload_n 1, 1) := by decide +kernel
theorem dX4_countWaitingAt_22 : decode cX4_countWaitingAt 22 = .ok (.if_icmp .ne 6, 3) := by decide +kernel
theorem dX4_countWaitingAt_25 : decode cX4_countWaitingAt 25 = .ok (.iinc 2 1, 3) := by decide +kernel
theorem dX4_countWaitingAt_28 : decode cX4_countWaitingAt 28 = .ok (.iinc 3 1, 3) := by decide +kernel
theorem dX4_countWaitingAt_31 : decode cX4_countWaitingAt 31 = .ok (.goto (-27), 3) := by decide +kernel
theorem dX4_countWaitingAt_34 : decode cX4_countWaitingAt 34 = .ok (.iload_n 2, 1) := by decide +kernel
theorem dX4_countWaitingAt_35 : decode cX4_countWaitingAt 35 = .ok (.ireturn, 1) := by decide +kernel
theorem dX4_countCarriedBy_0 : decode cX4_countCarriedBy 0 = .ok (.iconst 0, 1) := by decide +kernel
theorem dX4_countCarriedBy_1 : decode cX4_countCarriedBy 1 = .ok (.istore_n 2, 1) := by decide +kernel
theorem dX4_countCarriedBy_2 : decode cX4_countCarriedBy 2 = .ok (.iconst 0, 1) := by decide +kernel
theorem dX4_countCarriedBy_3 : decode cX4_countCarriedBy 3 = .ok (.istore_n 3, 1) := by decide +kernel
theorem dX4_countCarriedBy_4 : decode cX4_countCarriedBy 4 = .ok (.iload_n 3, 1) := by decide +kernel
theorem dX4_countCarriedBy_5 : decode cX4_countCarriedBy 5 = .ok (.aload_n 0, 1) := by decide +kernel
theorem dX4_countCarriedBy_6 : decode cX4_countCarriedBy 6 = .ok (.getfield 68, 3) := by decide +kernel
theorem dX4_countCarriedBy_9 : decode cX4_countCarriedBy 9 = .ok (.if_icmp .ge 25, 3) := by decide +kernel
theorem dX4_countCarriedBy_12 : decode cX4_countCarriedBy 12 = .ok (.aload_n 0, 1) := by decide +kernel
theorem dX4_countCarriedBy_13 : decode cX4_countCarriedBy 13 = .ok (.getfield 31, 3) := by decide +kernel
theorem dX4_countCarriedBy_16 : decode cX4_countCarriedBy 16 = .ok (.iload_n 3, 1) := by decide +kernel
theorem dX4_countCarriedBy_17 : decode cX4_countCarriedBy 17 = .ok (.aaload, 1) := by decide +kernel
theorem dX4_countCarriedBy_18 : decode cX4_countCarriedBy 18 = .ok (.getfield 143, 3) := by decide +kernel
theorem dX4_countCarriedBy_21 : decode cX4_countCarriedBy 21 = .ok (.iload_n 1, 1) := by decide +kernel
theorem dX4_countCarriedBy_22 : decode cX4_countCarriedBy 22 = .ok (.if_icmp .ne 6, 3) := by decide +kernel
theorem dX4_countCarriedBy_25 : decode cX4_countCarriedBy 25 = .ok (.iinc 2 1, 3) := by decide +kernel
theorem dX4_countCarriedBy_28 : decode cX4_countCarriedBy 28 = .ok (.iinc 3 1, 3) := by decide +kernel
theorem dX4_countCarriedBy_31 : decode cX4_countCarriedBy 31 = .ok (.goto (-27), 3) := by decide +kernel
theorem dX4_countCarriedBy_34 : decode cX4_countCarriedBy 34 = .ok (.iload_n 2, 1) := by decide +kernel
theorem dX4_countCarriedBy_35 : decode cX4_countCarriedBy 35 = .ok (.ireturn, 1) := by decide +kernel
theorem dX4_countCarried_0 : decode cX4_countCarried 0 = .ok (.iconst 0, 1) := by decide +kernel
theorem dX4_countCarried_1 : decode cX4_countCarried 1 = .ok (.istore_n 1, 1) := by decide +kernel
theorem dX4_countCarried_2 : decode cX4_countCarried 2 = .ok (.iconst 0, 1) := by decide +kernel
theorem dX4_countCarried_3 : decode cX4_countCarried 3 = .ok (.istore_n 2, 1) := by decide +kernel
theorem dX4_countCarried_4 : decode cX4_countCarried 4 = .ok (.iload_n 2, 1) := by decide +kernel
theorem dX4_countCarried_5 : decode cX4_countCarried 5 = .ok (.aload_n 0, 1) := by decide +kernel
theorem dX4_countCarried_6 : decode cX4_countCarried 6 = .ok (.getfield 65, 3) := by decide +kernel
theorem dX4_countCarried_9 : decode cX4_countCarried 9 = .ok (.if_icmp .ge 17, 3) := by decide +kernel
theorem dX4_countCarried_12 : decode cX4_countCarried 12 = .ok (.iload_n 1, 1) := by decide +kernel
theorem dX4_countCarried_13 : decode cX4_countCarried 13 = .ok (.aload_n 0, 1) := by decide +kernel
theorem dX4_countCarried_14 : decode cX4_countCarried 14 = .ok (.iload_n 2, 1) := by decide +kernel
theorem dX4_countCarried_15 : decode cX4_countCarried 15 = .ok (.invokevirtual 170, 3) := by decide +kernel
theorem dX4_countCarried_18 : decode cX4_countCarried 18 = .ok (.iadd, 1) := by decide +kernel
theorem dX4_countCarried_19 : decode cX4_countCarried 19 = .ok (.istore_n 1, 1) := by decide +kernel
theorem dX4_countCarried_20 : decode cX4_countCarried 20 = .ok (.iinc 2 1, 3) := by decide +kernel
theorem dX4_countCarried_23 : decode cX4_countCarried 23 = .ok (.goto (-19), 3) := by decide +kernel
theorem dX4_countCarried_26 : decode cX4_countCarried 26 = .ok (.iload_n 1, 1) := by decide +kernel
theorem dX4_countCarried_27 : decode cX4_countCarried 27 = .ok (.ireturn, 1) := by decide +kernel
theorem dX4_countDelivered_0 : decode cX4_countDelivered 0 = .ok (.iconst 0, 1) := by decide +kernel
theorem dX4_countDelivered_1 : decode cX4_countDelivered 1 = .ok (.istore_n 1, 1) := by decide +kernel
theorem dX4_countDelivered_2 : decode cX4_countDelivered 2 = .ok (.iconst 0, 1) := by decide +kernel
theorem dX4_countDelivered_3 : decode cX4_countDelivered 3 = .ok (.istore_n 2, 1) := by decide +kernel
theorem dX4_countDelivered_4 : decode cX4_countDelivered 4 = .ok (.iload_n 2, 1) := by decide +kernel
theorem dX4_countDelivered_5 : decode cX4_countDelivered 5 = .ok (.aload_n 0, 1) := by decide +kernel
theorem dX4_countDelivered_6 : decode cX4_countDelivered 6 = .ok (.getfield 68, 3) := by decide +kernel
theorem dX4_countDelivered_9 : decode cX4_countDelivered 9 = .ok (.if_icmp .ge 24, 3) := by decide +kernel
theorem dX4_countDelivered_12 : decode cX4_countDelivered 12 = .ok (.aload_n 0, 1) := by decide +kernel
theorem dX4_countDelivered_13 : decode cX4_countDelivered 13 = .ok (.getfield 31, 3) := by decide +kernel
theorem dX4_countDelivered_16 : decode cX4_countDelivered 16 = .ok (.iload_n 2, 1) := by decide +kernel
theorem dX4_countDelivered_17 : decode cX4_countDelivered 17 = .ok (.aaload, 1) := by decide +kernel
theorem dX4_countDelivered_18 : decode cX4_countDelivered 18 = .ok (.invokevirtual 174, 3) := by decide +kernel
theorem dX4_countDelivered_21 : decode cX4_countDelivered 21 = .ok (.ifCond .eq 6, 3) := by decide +kernel
theorem dX4_countDelivered_24 : decode cX4_countDelivered 24 = .ok (.iinc 1 1, 3) := by decide +kernel
theorem dX4_countDelivered_27 : decode cX4_countDelivered 27 = .ok (.iinc 2 1, 3) := by decide +kernel
theorem dX4_countDelivered_30 : decode cX4_countDelivered 30 = .ok (.goto (-26), 3) := by decide +kernel
theorem dX4_countDelivered_33 : decode cX4_countDelivered 33 = .ok (.iload_n 1, 1) := by decide +kernel
theorem dX4_countDelivered_34 : decode cX4_countDelivered 34 = .ok (.ireturn, 1) := by decide +kernel
theorem dX4_findDrop_0 : decode cX4_findDrop 0 = .ok (.iconst (-1), 1) := by decide +kernel
theorem dX4_findDrop_1 : decode cX4_findDrop 1 = .ok (.istore_n 3, 1) := by decide +kernel
theorem dX4_findDrop_2 : decode cX4_findDrop 2 = .ok (.aload_n 0, 1) := by decide +kernel
theorem dX4_findDrop_3 : decode cX4_findDrop 3 = .ok (.aload_n 1, 1) := by decide +kernel
theorem dX4_findDrop_4 : decode cX4_findDrop 4 = .ok (.iconst 0, 1) := by decide +kernel
theorem dX4_findDrop_5 : decode cX4_findDrop 5 = .ok (.invokevirtual 186, 3) := by decide +kernel
theorem dX4_findDrop_8 : decode cX4_findDrop 8 = .ok (.iload_n 2, 1) := by decide +kernel
theorem dX4_findDrop_9 : decode cX4_findDrop 9 = .ok (.invokevirtual 166, 3) := by decide +kernel
theorem dX4_findDrop_12 : decode cX4_findDrop 12 = .ok (.istore 4, 2) := by decide +kernel
theorem dX4_findDrop_14 : decode cX4_findDrop 14 = .ok (.iconst 1, 1) := by decide +kernel
theorem dX4_findDrop_15 : decode cX4_findDrop 15 = .ok (.istore 5, 2) := by decide +kernel
theorem dX4_findDrop_17 : decode cX4_findDrop 17 = .ok (.iload 5, 2) := by decide +kernel
theorem dX4_findDrop_19 : decode cX4_findDrop 19 = .ok (.bipush 6, 2) := by decide +kernel
theorem dX4_findDrop_21 : decode cX4_findDrop 21 = .ok (.if_icmp .ge 40, 3) := by decide +kernel
theorem dX4_findDrop_24 : decode cX4_findDrop 24 = .ok (.aload_n 1, 1) := by decide +kernel
theorem dX4_findDrop_25 : decode cX4_findDrop 25 = .ok (.iload 5, 2) := by decide +kernel
theorem dX4_findDrop_27 : decode cX4_findDrop 27 = .ok (.invokevirtual 186, 3) := by decide +kernel
theorem dX4_findDrop_30 : decode cX4_findDrop 30 = .ok (.istore 6, 2) := by decide +kernel
theorem dX4_findDrop_32 : decode cX4_findDrop 32 = .ok (.aload_n 0, 1) := by decide +kernel
theorem dX4_findDrop_33 : decode cX4_findDrop 33 = .ok (.iload 6, 2) := by decide +kernel
theorem dX4_findDrop_35 : decode cX4_findDrop 35 = .ok (.iload_n 2, 1) := by decide +kernel
theorem dX4_findDrop_36 : decode cX4_findDrop 36 = .ok (.invokevirtual 166, 3) := by decide +kernel
theorem dX4_findDrop_39 : decode cX4_findDrop 39 = .ok (.istore 7, 2) := by decide +kernel
theorem dX4_findDrop_41 : decode cX4_findDrop 41 = .ok (.iload 7, 2) := by decide +kernel
theorem dX4_findDrop_43 : decode cX4_findDrop 43 = .ok (.iload 4, 2) := by decide +kernel
theorem dX4_findDrop_45 : decode cX4_findDrop 45 = .ok (.if_icmp .ge 10, 3) := by decide +kernel
theorem dX4_findDrop_48 : decode cX4_findDrop 48 = .ok (.iload 6, 2) := by decide +kernel
theorem dX4_findDrop_50 : decode cX4_findDrop 50 = .ok (.istore_n 3, 1) := by decide +kernel
theorem dX4_findDrop_51 : decode cX4_findDrop 51 = .ok (.iload 7, 2) := by decide +kernel
theorem dX4_findDrop_53 : decode cX4_findDrop 53 = .ok (.istore 4, 2) := by decide +kernel
theorem dX4_findDrop_55 : decode cX4_findDrop 55 = .ok (.iinc 5 1, 3) := by decide +kernel
theorem dX4_findDrop_58 : decode cX4_findDrop 58 = .ok (.goto (-41), 3) := by decide +kernel
theorem dX4_findDrop_61 : decode cX4_findDrop 61 = .ok (.iload_n 3, 1) := by decide +kernel
theorem dX4_findDrop_62 : decode cX4_findDrop 62 = .ok (.ireturn, 1) := by decide +kernel
theorem dX4_findNextToLoad_0 : decode cX4_findNextToLoad 0 = .ok (.aload_n 0, 1) := by decide +kernel
theorem dX4_findNextToLoad_1 : decode cX4_findNextToLoad 1 = .ok (.aload_n 1, 1) := by decide +kernel
theorem dX4_findNextToLoad_2 : decode cX4_findNextToLoad 2 = .ok (.getfield 189, 3) := by decide +kernel
theorem dX4_findNextToLoad_5 : decode cX4_findNextToLoad 5 = .ok (.invokevirtual 170, 3) := by decide +kernel
theorem dX4_findNextToLoad_8 : decode cX4_findNextToLoad 8 = .ok (.aload_n 1, 1) := by decide +kernel
theorem dX4_findNextToLoad_9 : decode cX4_findNextToLoad 9 = .ok (.getfield 108, 3) := by decide +kernel
theorem dX4_findNextToLoad_12 : decode cX4_findNextToLoad 12 = .ok (.if_icmp .lt 5, 3) := by decide +kernel
theorem dX4_findNextToLoad_15 : decode cX4_findNextToLoad 15 = .ok (.aconst_null, 1) := by decide +kernel
theorem dX4_findNextToLoad_16 : decode cX4_findNextToLoad 16 = .ok (.areturn, 1) := by decide +kernel
theorem dX4_findNextToLoad_17 : decode cX4_findNextToLoad 17 = .ok (.aload_n 1, 1) := by decide +kernel
theorem dX4_findNextToLoad_18 : decode cX4_findNextToLoad 18 = .ok (.iconst 0, 1) := by decide +kernel
theorem dX4_findNextToLoad_19 : decode cX4_findNextToLoad 19 = .ok (.invokevirtual 186, 3) := by decide +kernel
theorem dX4_findNextToLoad_22 : decode cX4_findNextToLoad 22 = .ok (.istore_n 2, 1) := by decide +kernel
theorem dX4_findNextToLoad_23 : decode cX4_findNextToLoad 23 = .ok (.aconst_null, 1) := by decide +kernel
theorem dX4_findNextToLoad_24 : decode cX4_findNextToLoad 24 = .ok (.astore_n 3, 1) := by decide +kernel
theorem dX4_findNextToLoad_25 : decode cX4_findNextToLoad 25 = .ok (.iconst 0, 1) := by decide +kernel
theorem dX4_findNextToLoad_26 : decode cX4_findNextToLoad 26 = .ok (.istore 4, 2) := by decide +kernel
theorem dX4_findNextToLoad_28 : decode cX4_findNextToLoad 28 = .ok (.iload 4, 2) := by decide +kernel
theorem dX4_findNextToLoad_30 : decode cX4_findNextToLoad 30 = .ok (.aload_n 0, 1) := by decide +kernel
theorem dX4_findNextToLoad_31 : decode cX4_findNextToLoad 31 = .ok (.getfield 68, 3) := by decide +kernel
theorem dX4_findNextToLoad_34 : decode cX4_findNextToLoad 34 = .ok (.if_icmp .ge 61, 3) := by decide +kernel
theorem dX4_findNextToLoad_37 : decode cX4_findNextToLoad 37 = .ok (.aload_n 0, 1) := by decide +kernel
theorem dX4_findNextToLoad_38 : decode cX4_findNextToLoad 38 = .ok (.getfield 31, 3) := by decide +kernel
theorem dX4_findNextToLoad_41 : decode cX4_findNextToLoad 41 = .ok (.iload 4, 2) := by decide +kernel
theorem dX4_findNextToLoad_43 : decode cX4_findNextToLoad 43 = .ok (.aaload, 1) := by decide +kernel
theorem dX4_findNextToLoad_44 : decode cX4_findNextToLoad 44 = .ok (.astore 5, 2) := by decide +kernel
theorem dX4_findNextToLoad_46 : decode cX4_findNextToLoad 46 = .ok (.aload 5, 2) := by decide +kernel
theorem dX4_findNextToLoad_48 : decode cX4_findNextToLoad 48 = .ok (.iload_n 2, 1) := by decide +kernel
theorem dX4_findNextToLoad_49 : decode cX4_findNextToLoad 49 = .ok (.aload_n 0, 1) := by decide +kernel
theorem dX4_findNextToLoad_50 : decode cX4_findNextToLoad 50 = .ok (.getfield 71, 3) := by decide +kernel
theorem dX4_findNextToLoad_53 : decode cX4_findNextToLoad 53 = .ok (.invokevirtual 192, 3) := by decide +kernel
theorem dX4_findNextToLoad_56 : decode cX4_findNextToLoad 56 = .ok (.ifCond .eq 33, 3) := by decide +kernel
theorem dX4_findNextToLoad_59 : decode cX4_findNextToLoad 59 = .ok (.aload_n 3, 1) := by decide +kernel
theorem dX4_findNextToLoad_60 : decode cX4_findNextToLoad 60 = .ok (.ifnull 12, 3) := by decide +kernel
theorem dX4_findNextToLoad_63 : decode cX4_findNextToLoad 63 = .ok (.aload 5, 2) := by decide +kernel
theorem dX4_findNextToLoad_65 : decode cX4_findNextToLoad 65 = .ok (.aload_n 3, 1) := by decide +kernel
theorem dX4_findNextToLoad_66 : decode cX4_findNextToLoad 66 = .ok (.invokevirtual 182, 3) := by decide +kernel
theorem dX4_findNextToLoad_69 : decode cX4_findNextToLoad 69 = .ok (.ifCond .eq 20, 3) := by decide +kernel
theorem dX4_findNextToLoad_72 : decode cX4_findNextToLoad 72 = .ok (.aload_n 0, 1) := by decide +kernel
theorem dX4_findNextToLoad_73 : decode cX4_findNextToLoad 73 = .ok (.aload_n 1, 1) := by decide +kernel
theorem dX4_findNextToLoad_74 : decode cX4_findNextToLoad 74 = .ok (.aload 5, 2) := by decide +kernel
theorem dX4_findNextToLoad_76 : decode cX4_findNextToLoad 76 = .ok (.getfield 136, 3) := by decide +kernel
theorem dX4_findNextToLoad_79 : decode cX4_findNextToLoad 79 = .ok (.invokevirtual 195, 3) := by decide +kernel
theorem dX4_findNextToLoad_82 : decode cX4_findNextToLoad 82 = .ok (.iconst (-1), 1) := by decide +kernel
theorem dX4_findNextToLoad_83 : decode cX4_findNextToLoad 83 = .ok (.if_icmp .eq 6, 3) := by decide +kernel
theorem dX4_findNextToLoad_86 : decode cX4_findNextToLoad 86 = .ok (.aload 5, 2) := by decide +kernel
theorem dX4_findNextToLoad_88 : decode cX4_findNextToLoad 88 = .ok (.astore_n 3, 1) := by decide +kernel
theorem dX4_findNextToLoad_89 : decode cX4_findNextToLoad 89 = .ok (.iinc 4 1, 3) := by decide +kernel
theorem dX4_findNextToLoad_92 : decode cX4_findNextToLoad 92 = .ok (.goto (-64), 3) := by decide +kernel
theorem dX4_findNextToLoad_95 : decode cX4_findNextToLoad 95 = .ok (.aload_n 3, 1) := by decide +kernel
theorem dX4_findNextToLoad_96 : decode cX4_findNextToLoad 96 = .ok (.areturn, 1) := by decide +kernel
theorem dX4_passMinutes_0 : decode cX4_passMinutes 0 = .ok (.iconst 0, 1) := by decide +kernel
theorem dX4_passMinutes_1 : decode cX4_passMinutes 1 = .ok (.istore_n 2, 1) := by decide +kernel
theorem dX4_passMinutes_2 : decode cX4_passMinutes 2 = .ok (.iload_n 2, 1) := by decide +kernel
theorem dX4_passMinutes_3 : decode cX4_passMinutes 3 = .ok (.iload_n 1, 1) := by decide +kernel
theorem dX4_passMinutes_4 : decode cX4_passMinutes 4 = .ok (.if_icmp .ge 13, 3) := by decide +kernel
theorem dX4_passMinutes_7 : decode cX4_passMinutes 7 = .ok (.aload_n 0, 1) := by decide +kernel
theorem dX4_passMinutes_8 : decode cX4_passMinutes 8 = .ok (.invokevirtual 207, 3) := by decide +kernel
theorem dX4_passMinutes_11 : decode cX4_passMinutes 11 = .ok (.iinc 2 1, 3) := by decide +kernel
theorem dX4_passMinutes_14 : decode cX4_passMinutes 14 = .ok (.goto (-12), 3) := by decide +kernel
theorem dX4_passMinutes_17 : decode cX4_passMinutes 17 = .ok (.return_, 1) := by decide +kernel
theorem dX4_passMinute_0 : decode cX4_passMinute 0 = .ok (.aload_n 0, 1) := by decide +kernel
theorem dX4_passMinute_1 : decode cX4_passMinute 1 = .ok (.dup, 1) := by decide +kernel
theorem dX4_passMinute_2 : decode cX4_passMinute 2 = .ok (.getfield 71, 3) := by decide +kernel
theorem dX4_passMinute_5 : decode cX4_passMinute 5 = .ok (.iconst 1, 1) := by decide +kernel
theorem dX4_passMinute_6 : decode cX4_passMinute 6 = .ok (.iadd, 1) := by decide +kernel
theorem dX4_passMinute_7 : decode cX4_passMinute 7 = .ok (.putfield 71, 3) := by decide +kernel
theorem dX4_passMinute_10 : decode cX4_passMinute 10 = .ok (.iconst 0, 1) := by decide +kernel
theorem dX4_passMinute_11 : decode cX4_passMinute 11 = .ok (.istore_n 1, 1) := by decide +kernel
theorem dX4_passMinute_12 : decode cX4_passMinute 12 = .ok (.iload_n 1, 1) := by decide +kernel
theorem dX4_passMinute_13 : decode cX4_passMinute 13 = .ok (.aload_n 0, 1) := by decide +kernel
theorem dX4_passMinute_14 : decode cX4_passMinute 14 = .ok (.getfield 65, 3) := by decide +kernel
theorem dX4_passMinute_17 : decode cX4_passMinute 17 = .ok (.if_icmp .ge 58, 3) := by decide +kernel
theorem dX4_passMinute_20 : decode cX4_passMinute 20 = .ok (.aload_n 0, 1) := by decide +kernel
theorem dX4_passMinute_21 : decode cX4_passMinute 21 = .ok (.getfield 25, 3) := by decide +kernel
theorem dX4_passMinute_24 : decode cX4_passMinute 24 = .ok (.iload_n 1, 1) := by decide +kernel
theorem dX4_passMinute_25 : decode cX4_passMinute 25 = .ok (.aaload, 1) := by decide +kernel
theorem dX4_passMinute_26 : decode cX4_passMinute 26 = .ok (.astore_n 2, 1) := by decide +kernel
theorem dX4_passMinute_27 : decode cX4_passMinute 27 = .ok (.aload_n 2, 1) := by decide +kernel
theorem dX4_passMinute_28 : decode cX4_passMinute 28 = .ok (.invokevirtual 210, 3) := by decide +kernel
theorem dX4_passMinute_31 : decode cX4_passMinute 31 = .ok (.ifCond .eq 16, 3) := by decide +kernel
theorem dX4_passMinute_34 : decode cX4_passMinute 34 = .ok (.aload_n 0, 1) := by decide +kernel
theorem dX4_passMinute_35 : decode cX4_passMinute 35 = .ok (.aload_n 2, 1) := by decide +kernel
theorem dX4_passMinute_36 : decode cX4_passMinute 36 = .ok (.invokevirtual 213, 3) := by decide +kernel
theorem dX4_passMinute_39 : decode cX4_passMinute 39 = .ok (.aload_n 0, 1) := by decide +kernel
theorem dX4_passMinute_40 : decode cX4_passMinute 40 = .ok (.aload_n 2, 1) := by decide +kernel
theorem dX4_passMinute_41 : decode cX4_passMinute 41 = .ok (.invokevirtual 216, 3) := by decide +kernel
theorem dX4_passMinute_44 : decode cX4_passMinute 44 = .ok (.goto 25, 3) := by decide +kernel
theorem dX4_passMinute_47 : decode cX4_passMinute 47 = .ok (.aload_n 2, 1) := by decide +kernel
theorem dX4_passMinute_48 : decode cX4_passMinute 48 = .ok (.dup, 1) := by decide +kernel
theorem dX4_passMinute_49 : decode cX4_passMinute 49 = .ok (.getfield 123, 3) := by decide +kernel
theorem dX4_passMinute_52 : decode cX4_passMinute 52 = .ok (.iconst 1, 1) := by decide +kernel
theorem dX4_passMinute_53 : decode cX4_passMinute 53 = .ok (.isub, 1) := by decide +kernel
theorem dX4_passMinute_54 : decode cX4_passMinute 54 = .ok (.putfield 123, 3) := by decide +kernel
theorem dX4_passMinute_57 : decode cX4_passMinute 57 = .ok (.aload_n 2, 1) := by decide +kernel
theorem dX4_passMinute_58 : decode cX4_passMinute 58 = .ok (.invokevirtual 210, 3) := by decide +kernel
theorem dX4_passMinute_61 : decode cX4_passMinute 61 = .ok (.ifCond .eq 8, 3) := by decide +kernel
theorem dX4_passMinute_64 : decode cX4_passMinute 64 = .ok (.aload_n 0, 1) := by decide +kernel
theorem dX4_passMinute_65 : decode cX4_passMinute 65 = .ok (.aload_n 2, 1) := by decide +kernel
theorem dX4_passMinute_66 : decode cX4_passMinute 66 = .ok (.invokevirtual 219, 3) := by decide +kernel
theorem dX4_passMinute_69 : decode cX4_passMinute 69 = .ok (.iinc 1 1, 3) := by decide +kernel
theorem dX4_passMinute_72 : decode cX4_passMinute 72 = .ok (.goto (-60), 3) := by decide +kernel
theorem dX4_passMinute_75 : decode cX4_passMinute 75 = .ok (.return_, 1) := by decide +kernel
theorem dX4_loadTrain_0 : decode cX4_loadTrain 0 = .ok (.iconst 0, 1) := by decide +kernel
theorem dX4_loadTrain_1 : decode cX4_loadTrain 1 = .ok (.istore_n 2, 1) := by decide +kernel
theorem dX4_loadTrain_2 : decode cX4_loadTrain 2 = .ok (.iload_n 2, 1) := by decide +kernel
theorem dX4_loadTrain_3 : decode cX4_loadTrain 3 = .ok (.iconst 4, 1) := by decide +kernel
theorem dX4_loadTrain_4 : decode cX4_loadTrain 4 = .ok (.if_icmp .ge 47, 3) := by decide +kernel
theorem dX4_loadTrain_7 : decode cX4_loadTrain 7 = .ok (.aload_n 0, 1) := by decide +kernel
theorem dX4_loadTrain_8 : decode cX4_loadTrain 8 = .ok (.aload_n 1, 1) := by decide +kernel
theorem dX4_loadTrain_9 : decode cX4_loadTrain 9 = .ok (.invokevirtual 222, 3) := by decide +kernel
theorem dX4_loadTrain_12 : decode cX4_loadTrain 12 = .ok (.astore_n 3, 1) := by decide +kernel
theorem dX4_loadTrain_13 : decode cX4_loadTrain 13 = .ok (.aload_n 3, 1) := by decide +kernel
theorem dX4_loadTrain_14 : decode cX4_loadTrain 14 = .ok (.ifnonnull 4, 3) := by decide +kernel
theorem dX4_loadTrain_17 : decode cX4_loadTrain 17 = .ok (.return_, 1) := by decide +kernel
theorem dX4_loadTrain_18 : decode cX4_loadTrain 18 = .ok (.aload_n 3, 1) := by decide +kernel
theorem dX4_loadTrain_19 : decode cX4_loadTrain 19 = .ok (.aload_n 1, 1) := by decide +kernel
theorem dX4_loadTrain_20 : decode cX4_loadTrain 20 = .ok (.getfield 189, 3) := by decide +kernel
theorem dX4_loadTrain_23 : decode cX4_loadTrain 23 = .ok (.aload_n 0, 1) := by decide +kernel
theorem dX4_loadTrain_24 : decode cX4_loadTrain 24 = .ok (.aload_n 1, 1) := by decide +kernel
theorem dX4_loadTrain_25 : decode cX4_loadTrain 25 = .ok (.aload_n 3, 1) := by decide +kernel
theorem dX4_loadTrain_26 : decode cX4_loadTrain 26 = .ok (.getfield 136, 3) := by decide +kernel
theorem dX4_loadTrain_29 : decode cX4_loadTrain 29 = .ok (.invokevirtual 195, 3) := by decide +kernel
theorem dX4_loadTrain_32 : decode cX4_loadTrain 32 = .ok (.invokevirtual 226, 3) := by decide +kernel
theorem dX4_loadTrain_35 : decode cX4_loadTrain 35 = .ok (.aload_n 0, 1) := by decide +kernel
theorem dX4_loadTrain_36 : decode cX4_loadTrain 36 = .ok (.dup, 1) := by decide +kernel
theorem dX4_loadTrain_37 : decode cX4_loadTrain 37 = .ok (.getfield 74, 3) := by decide +kernel
theorem dX4_loadTrain_40 : decode cX4_loadTrain 40 = .ok (.iconst 1, 1) := by decide +kernel
theorem dX4_loadTrain_41 : decode cX4_loadTrain 41 = .ok (.iadd, 1) := by decide +kernel
theorem dX4_loadTrain_42 : decode cX4_loadTrain 42 = .ok (.putfield 74, 3) := by decide +kernel
theorem dX4_loadTrain_45 : decode cX4_loadTrain 45 = .ok (.iinc 2 1, 3) := by decide +kernel
theorem dX4_loadTrain_48 : decode cX4_loadTrain 48 = .ok (.goto (-46), 3) := by decide +kernel
theorem dX4_loadTrain_51 : decode cX4_loadTrain 51 = .ok (.return_, 1) := by decide +kernel
theorem dX4_depart_0 : decode cX4_depart 0 = .ok (.aload_n 0, 1) := by decide +kernel
theorem dX4_depart_1 : decode cX4_depart 1 = .ok (.aload_n 1, 1) := by decide +kernel
theorem dX4_depart_2 : decode cX4_depart 2 = .ok (.iconst 0, 1) := by decide +kernel
theorem dX4_depart_3 : decode cX4_depart 3 = .ok (.invokevirtual 186, 3) := by decide +kernel
theorem dX4_depart_6 : decode cX4_depart 6 = .ok (.aload_n 1, 1) := by decide +kernel
theorem dX4_depart_7 : decode cX4_depart 7 = .ok (.iconst 1, 1) := by decide +kernel
theorem dX4_depart_8 : decode cX4_depart 8 = .ok (.invokevirtual 186, 3) := by decide +kernel
theorem dX4_depart_11 : decode cX4_depart 11 = .ok (.invokevirtual 230, 3) := by decide +kernel
theorem dX4_depart_14 : decode cX4_depart 14 = .ok (.istore_n 2, 1) := by decide +kernel
theorem dX4_depart_15 : decode cX4_depart 15 = .ok (.iload_n 2, 1) := by decide +kernel
theorem dX4_depart_16 : decode cX4_depart 16 = .ok (.iconst (-1), 1) := by decide +kernel
theorem dX4_depart_17 : decode cX4_depart 17 = .ok (.if_icmp .eq 31, 3) := by decide +kernel
theorem dX4_depart_20 : decode cX4_depart 20 = .ok (.aload_n 0, 1) := by decide +kernel
theorem dX4_depart_21 : decode cX4_depart 21 = .ok (.getfield 19, 3) := by decide +kernel
theorem dX4_depart_24 : decode cX4_depart 24 = .ok (.iload_n 2, 1) := by decide +kernel
theorem dX4_depart_25 : decode cX4_depart 25 = .ok (.aaload, 1) := by decide +kernel
theorem dX4_depart_26 : decode cX4_depart 26 = .ok (.getfield 105, 3) := by decide +kernel
theorem dX4_depart_29 : decode cX4_depart 29 = .ok (.ifCond .eq 19, 3) := by decide +kernel
theorem dX4_depart_32 : decode cX4_depart 32 = .ok (.aload_n 1, 1) := by decide +kernel
theorem dX4_depart_33 : decode cX4_depart 33 = .ok (.aload_n 0, 1) := by decide +kernel
theorem dX4_depart_34 : decode cX4_depart 34 = .ok (.getfield 19, 3) := by decide +kernel
theorem dX4_depart_37 : decode cX4_depart 37 = .ok (.iload_n 2, 1) := by decide +kernel
theorem dX4_depart_38 : decode cX4_depart 38 = .ok (.aaload, 1) := by decide +kernel
theorem dX4_depart_39 : decode cX4_depart 39 = .ok (.getfield 102, 3) := by decide +kernel
theorem dX4_depart_42 : decode cX4_depart 42 = .ok (.putfield 123, 3) := by decide +kernel
theorem dX4_depart_45 : decode cX4_depart 45 = .ok (.goto 13, 3) := by decide +kernel
theorem dX4_depart_48 : decode cX4_depart 48 = .ok (.aload_n 1, 1) := by decide +kernel
theorem dX4_depart_49 : decode cX4_depart 49 = .ok (.dup, 1) := by decide +kernel
theorem dX4_depart_50 : decode cX4_depart 50 = .ok (.getfield 126, 3) := by decide +kernel
theorem dX4_depart_53 : decode cX4_depart 53 = .ok (.iconst 1, 1) := by decide +kernel
theorem dX4_depart_54 : decode cX4_depart 54 = .ok (.iadd, 1) := by decide +kernel
theorem dX4_depart_55 : decode cX4_depart 55 = .ok (.putfield 126, 3) := by decide +kernel
theorem dX4_depart_58 : decode cX4_depart 58 = .ok (.return_, 1) := by decide +kernel
theorem dX4_arrive_0 : decode cX4_arrive 0 = .ok (.aload_n 1, 1) := by decide +kernel
theorem dX4_arrive_1 : decode cX4_arrive 1 = .ok (.invokevirtual 233, 3) := by decide +kernel
theorem dX4_arrive_4 : decode cX4_arrive 4 = .ok (.aload_n 1, 1) := by decide +kernel
theorem dX4_arrive_5 : decode cX4_arrive 5 = .ok (.iconst 0, 1) := by decide +kernel
theorem dX4_arrive_6 : decode cX4_arrive 6 = .ok (.invokevirtual 186, 3) := by decide +kernel
theorem dX4_arrive_9 : decode cX4_arrive 9 = .ok (.istore_n 2, 1) := by decide +kernel
theorem dX4_arrive_10 : decode cX4_arrive 10 = .ok (.iload_n 2, 1) := by decide +kernel
theorem dX4_arrive_11 : decode cX4_arrive 11 = .ok (.ifCond .lt 11, 3) := by decide +kernel
theorem dX4_arrive_14 : decode cX4_arrive 14 = .ok (.iload_n 2, 1) := by decide +kernel
theorem dX4_arrive_15 : decode cX4_arrive 15 = .ok (.aload_n 0, 1) := by decide +kernel
theorem dX4_arrive_16 : decode cX4_arrive 16 = .ok (.getfield 58, 3) := by decide +kernel
theorem dX4_arrive_19 : decode cX4_arrive 19 = .ok (.if_icmp .lt 4, 3) := by decide +kernel
theorem dX4_arrive_22 : decode cX4_arrive 22 = .ok (.return_, 1) := by decide +kernel
theorem dX4_arrive_23 : decode cX4_arrive 23 = .ok (.aload_n 1, 1) := by decide +kernel
theorem dX4_arrive_24 : decode cX4_arrive 24 = .ok (.invokevirtual 236, 3) := by decide +kernel
theorem dX4_arrive_27 : decode cX4_arrive 27 = .ok (.ifCond .ne 32, 3) := by decide +kernel
theorem dX4_arrive_30 : decode cX4_arrive 30 = .ok (.aload_n 0, 1) := by decide +kernel
theorem dX4_arrive_31 : decode cX4_arrive 31 = .ok (.getfield 11, 3) := by decide +kernel
theorem dX4_arrive_34 : decode cX4_arrive 34 = .ok (.iload_n 2, 1) := by decide +kernel
theorem dX4_arrive_35 : decode cX4_arrive 35 = .ok (.aaload, 1) := by decide +kernel
theorem dX4_arrive_36 : decode cX4_arrive 36 = .ok (.getfield 86, 3) := by decide +kernel
theorem dX4_arrive_39 : decode cX4_arrive 39 = .ok (.ifCond .eq 20, 3) := by decide +kernel
theorem dX4_arrive_42 : decode cX4_arrive 42 = .ok (.aload_n 0, 1) := by decide +kernel
theorem dX4_arrive_43 : decode cX4_arrive 43 = .ok (.aload_n 1, 1) := by decide +kernel
theorem dX4_arrive_44 : decode cX4_arrive 44 = .ok (.iload_n 2, 1) := by decide +kernel
theorem dX4_arrive_45 : decode cX4_arrive 45 = .ok (.invokevirtual 239, 3) := by decide +kernel
theorem dX4_arrive_48 : decode cX4_arrive 48 = .ok (.ifCond .ne 11, 3) := by decide +kernel
theorem dX4_arrive_51 : decode cX4_arrive 51 = .ok (.aload_n 0, 1) := by decide +kernel
theorem dX4_arrive_52 : decode cX4_arrive 52 = .ok (.aload_n 1, 1) := by decide +kernel
theorem dX4_arrive_53 : decode cX4_arrive 53 = .ok (.invokevirtual 222, 3) := by decide +kernel
theorem dX4_arrive_56 : decode cX4_arrive 56 = .ok (.ifnull 35, 3) := by decide +kernel
theorem dX4_arrive_59 : decode cX4_arrive 59 = .ok (.aload_n 1, 1) := by decide +kernel
theorem dX4_arrive_60 : decode cX4_arrive 60 = .ok (.dup, 1) := by decide +kernel
theorem dX4_arrive_61 : decode cX4_arrive 61 = .ok (.getfield 129, 3) := by decide +kernel
theorem dX4_arrive_64 : decode cX4_arrive 64 = .ok (.iconst 1, 1) := by decide +kernel
theorem dX4_arrive_65 : decode cX4_arrive 65 = .ok (.iadd, 1) := by decide +kernel
theorem dX4_arrive_66 : decode cX4_arrive 66 = .ok (.putfield 129, 3) := by decide +kernel
theorem dX4_arrive_69 : decode cX4_arrive 69 = .ok (.aload_n 0, 1) := by decide +kernel
theorem dX4_arrive_70 : decode cX4_arrive 70 = .ok (.getfield 11, 3) := by decide +kernel
theorem dX4_arrive_73 : decode cX4_arrive 73 = .ok (.iload_n 2, 1) := by decide +kernel
theorem dX4_arrive_74 : decode cX4_arrive 74 = .ok (.aaload, 1) := by decide +kernel
theorem dX4_arrive_75 : decode cX4_arrive 75 = .ok (.aload_n 0, 1) := by decide +kernel
theorem dX4_arrive_76 : decode cX4_arrive 76 = .ok (.getfield 71, 3) := by decide +kernel
theorem dX4_arrive_79 : decode cX4_arrive 79 = .ok (.putfield 93, 3) := by decide +kernel
theorem dX4_arrive_82 : decode cX4_arrive 82 = .ok (.aload_n 0, 1) := by decide +kernel
theorem dX4_arrive_83 : decode cX4_arrive 83 = .ok (.aload_n 1, 1) := by decide +kernel
theorem dX4_arrive_84 : decode cX4_arrive 84 = .ok (.iload_n 2, 1) := by decide +kernel
theorem dX4_arrive_85 : decode cX4_arrive 85 = .ok (.invokevirtual 243, 3) := by decide +kernel
theorem dX4_arrive_88 : decode cX4_arrive 88 = .ok (.goto 18, 3) := by decide +kernel
theorem dX4_arrive_91 : decode cX4_arrive 91 = .ok (.aload_n 1, 1) := by decide +kernel
theorem dX4_arrive_92 : decode cX4_arrive 92 = .ok (.dup, 1) := by decide +kernel
theorem dX4_arrive_93 : decode cX4_arrive 93 = .ok (.getfield 132, 3) := by decide +kernel
theorem dX4_arrive_96 : decode cX4_arrive 96 = .ok (.iconst 1, 1) := by decide +kernel
theorem dX4_arrive_97 : decode cX4_arrive 97 = .ok (.iadd, 1) := by decide +kernel
theorem dX4_arrive_98 : decode cX4_arrive 98 = .ok (.putfield 132, 3) := by decide +kernel
theorem dX4_arrive_101 : decode cX4_arrive 101 = .ok (.aload_n 0, 1) := by decide +kernel
theorem dX4_arrive_102 : decode cX4_arrive 102 = .ok (.aload_n 1, 1) := by decide +kernel
theorem dX4_arrive_103 : decode cX4_arrive 103 = .ok (.invokevirtual 216, 3) := by decide +kernel
theorem dX4_arrive_106 : decode cX4_arrive 106 = .ok (.return_, 1) := by decide +kernel
theorem dX4_isDropOf_0 : decode cX4_isDropOf 0 = .ok (.iconst 0, 1) := by decide +kernel
theorem dX4_isDropOf_1 : decode cX4_isDropOf 1 = .ok (.istore_n 3, 1) := by decide +kernel
theorem dX4_isDropOf_2 : decode cX4_isDropOf 2 = .ok (.iload_n 3, 1) := by decide +kernel
theorem dX4_isDropOf_3 : decode cX4_isDropOf 3 = .ok (.aload_n 0, 1) := by decide +kernel
theorem dX4_isDropOf_4 : decode cX4_isDropOf 4 = .ok (.getfield 68, 3) := by decide +kernel
theorem dX4_isDropOf_7 : decode cX4_isDropOf 7 = .ok (.if_icmp .ge 40, 3) := by decide +kernel
theorem dX4_isDropOf_10 : decode cX4_isDropOf 10 = .ok (.aload_n 0, 1) := by decide +kernel
theorem dX4_isDropOf_11 : decode cX4_isDropOf 11 = .ok (.getfield 31, 3) := by decide +kernel
theorem dX4_isDropOf_14 : decode cX4_isDropOf 14 = .ok (.iload_n 3, 1) := by decide +kernel
theorem dX4_isDropOf_15 : decode cX4_isDropOf 15 = .ok (.aaload, 1) := by decide +kernel
theorem dX4_isDropOf_16 : decode cX4_isDropOf 16 = .ok (.getfield 143, 3) := by decide +kernel
theorem dX4_isDropOf_19 : decode cX4_isDropOf 19 = .ok (.aload_n 1, 1) := by decide +kernel
theorem dX4_isDropOf_20 : decode cX4_isDropOf 20 = .ok (.getfield 189, 3) := by decide +kernel
theorem dX4_isDropOf_23 : decode cX4_isDropOf 23 = .ok (.if_icmp .ne 18, 3) := by decide +kernel
theorem dX4_isDropOf_26 : decode cX4_isDropOf 26 = .ok (.aload_n 0, 1) := by decide +kernel
theorem dX4_isDropOf_27 : decode cX4_isDropOf 27 = .ok (.getfield 31, 3) := by decide +kernel
theorem dX4_isDropOf_30 : decode cX4_isDropOf 30 = .ok (.iload_n 3, 1) := by decide +kernel
theorem dX4_isDropOf_31 : decode cX4_isDropOf 31 = .ok (.aaload, 1) := by decide +kernel
theorem dX4_isDropOf_32 : decode cX4_isDropOf 32 = .ok (.getfield 149, 3) := by decide +kernel
theorem dX4_isDropOf_35 : decode cX4_isDropOf 35 = .ok (.iload_n 2, 1) := by decide +kernel
theorem dX4_isDropOf_36 : decode cX4_isDropOf 36 = .ok (.if_icmp .ne 5, 3) := by decide +kernel
theorem dX4_isDropOf_39 : decode cX4_isDropOf 39 = .ok (.iconst 1, 1) := by decide +kernel
theorem dX4_isDropOf_40 : decode cX4_isDropOf 40 = .ok (.ireturn, 1) := by decide +kernel
theorem dX4_isDropOf_41 : decode cX4_isDropOf 41 = .ok (.iinc 3 1, 3) := by decide +kernel
theorem dX4_isDropOf_44 : decode cX4_isDropOf 44 = .ok (.goto (-42), 3) := by decide +kernel
theorem dX4_isDropOf_47 : decode cX4_isDropOf 47 = .ok (.iconst 0, 1) := by decide +kernel
theorem dX4_isDropOf_48 : decode cX4_isDropOf 48 = .ok (.ireturn, 1) := by decide +kernel
theorem dX4_unload_0 : decode cX4_unload 0 = .ok (.iload_n 2, 1) := by decide +kernel
theorem dX4_unload_1 : decode cX4_unload 1 = .ok (.ifCond .lt 11, 3) := by decide +kernel
theorem dX4_unload_4 : decode cX4_unload 4 = .ok (.iload_n 2, 1) := by decide +kernel
theorem dX4_unload_5 : decode cX4_unload 5 = .ok (.aload_n 0, 1) := by decide +kernel
theorem dX4_unload_6 : decode cX4_unload 6 = .ok (.getfield 58, 3) := by decide +kernel
theorem dX4_unload_9 : decode cX4_unload 9 = .ok (.if_icmp .lt 4, 3) := by decide +kernel
theorem dX4_unload_12 : decode cX4_unload 12 = .ok (.return_, 1) := by decide +kernel
theorem dX4_unload_13 : decode cX4_unload 13 = .ok (.aload_n 0, 1) := by decide +kernel
theorem dX4_unload_14 : decode cX4_unload 14 = .ok (.getfield 71, 3) := by decide +kernel
theorem dX4_unload_17 : decode cX4_unload 17 = .ok (.aload_n 0, 1) := by decide +kernel
theorem dX4_unload_18 : decode cX4_unload 18 = .ok (.getfield 11, 3) := by decide +kernel
theorem dX4_unload_21 : decode cX4_unload 21 = .ok (.iload_n 2, 1) := by decide +kernel
theorem dX4_unload_22 : decode cX4_unload 22 = .ok (.aaload, 1) := by decide +kernel
theorem dX4_unload_23 : decode cX4_unload 23 = .ok (.getfield 90, 3) := by decide +kernel
theorem dX4_unload_26 : decode cX4_unload 26 = .ok (.iadd, 1) := by decide +kernel
theorem dX4_unload_27 : decode cX4_unload 27 = .ok (.istore_n 3, 1) := by decide +kernel
theorem dX4_unload_28 : decode cX4_unload 28 = .ok (.iconst 0, 1) := by decide +kernel
theorem dX4_unload_29 : decode cX4_unload 29 = .ok (.istore 4, 2) := by decide +kernel
theorem dX4_unload_31 : decode cX4_unload 31 = .ok (.iload 4, 2) := by decide +kernel
theorem dX4_unload_33 : decode cX4_unload 33 = .ok (.aload_n 0, 1) := by decide +kernel
theorem dX4_unload_34 : decode cX4_unload 34 = .ok (.getfield 68, 3) := by decide +kernel
theorem dX4_unload_37 : decode cX4_unload 37 = .ok (.if_icmp .ge 80, 3) := by decide +kernel
theorem dX4_unload_40 : decode cX4_unload 40 = .ok (.aload_n 0, 1) := by decide +kernel
theorem dX4_unload_41 : decode cX4_unload 41 = .ok (.getfield 31, 3) := by decide +kernel
theorem dX4_unload_44 : decode cX4_unload 44 = .ok (.iload 4, 2) := by decide +kernel
theorem dX4_unload_46 : decode cX4_unload 46 = .ok (.aaload, 1) := by decide +kernel
theorem dX4_unload_47 : decode cX4_unload 47 = .ok (.astore 5, 2) := by decide +kernel
theorem dX4_unload_49 : decode cX4_unload 49 = .ok (.aload 5, 2) := by decide +kernel
theorem dX4_unload_51 : decode cX4_unload 51 = .ok (.getfield 143, 3) := by decide +kernel
theorem dX4_unload_54 : decode cX4_unload 54 = .ok (.aload_n 1, 1) := by decide +kernel
theorem dX4_unload_55 : decode cX4_unload 55 = .ok (.getfield 189, 3) := by decide +kernel
theorem dX4_unload_58 : decode cX4_unload 58 = .ok (.if_icmp .ne 53, 3) := by decide +kernel
theorem dX4_unload_61 : decode cX4_unload 61 = .ok (.aload 5, 2) := by decide +kernel
theorem dX4_unload_63 : decode cX4_unload 63 = .ok (.getfield 149, 3) := by decide +kernel
theorem dX4_unload_66 : decode cX4_unload 66 = .ok (.iload_n 2, 1) := by decide +kernel
theorem dX4_unload_67 : decode cX4_unload 67 = .ok (.if_icmp .eq 6, 3) := by decide +kernel
theorem dX4_unload_70 : decode cX4_unload 70 = .ok (.goto 41, 3) := by decide +kernel
theorem dX4_unload_73 : decode cX4_unload 73 = .ok (.aload_n 0, 1) := by decide +kernel
theorem dX4_unload_74 : decode cX4_unload 74 = .ok (.dup, 1) := by decide +kernel
theorem dX4_unload_75 : decode cX4_unload 75 = .ok (.getfield 77, 3) := by decide +kernel
theorem dX4_unload_78 : decode cX4_unload 78 = .ok (.iconst 1, 1) := by decide +kernel
theorem dX4_unload_79 : decode cX4_unload 79 = .ok (.iadd, 1) := by decide +kernel
theorem dX4_unload_80 : decode cX4_unload 80 = .ok (.putfield 77, 3) := by decide +kernel
theorem dX4_unload_83 : decode cX4_unload 83 = .ok (.aload 5, 2) := by decide +kernel
theorem dX4_unload_85 : decode cX4_unload 85 = .ok (.getfield 136, 3) := by decide +kernel
theorem dX4_unload_88 : decode cX4_unload 88 = .ok (.iload_n 2, 1) := by decide +kernel
theorem dX4_unload_89 : decode cX4_unload 89 = .ok (.if_icmp .ne 15, 3) := by decide +kernel
theorem dX4_unload_92 : decode cX4_unload 92 = .ok (.aload 5, 2) := by decide +kernel
theorem dX4_unload_94 : decode cX4_unload 94 = .ok (.aload_n 0, 1) := by decide +kernel
theorem dX4_unload_95 : decode cX4_unload 95 = .ok (.getfield 71, 3) := by decide +kernel
theorem dX4_unload_98 : decode cX4_unload 98 = .ok (.invokevirtual 247, 3) := by decide +kernel
theorem dX4_unload_101 : decode cX4_unload 101 = .ok (.goto 10, 3) := by decide +kernel
theorem dX4_unload_104 : decode cX4_unload 104 = .ok (.aload 5, 2) := by decide +kernel
theorem dX4_unload_106 : decode cX4_unload 106 = .ok (.iload_n 2, 1) := by decide +kernel
theorem dX4_unload_107 : decode cX4_unload 107 = .ok (.iload_n 3, 1) := by decide +kernel
theorem dX4_unload_108 : decode cX4_unload 108 = .ok (.invokevirtual 250, 3) := by decide +kernel
theorem dX4_unload_111 : decode cX4_unload 111 = .ok (.iinc 4 1, 3) := by decide +kernel
theorem dX4_unload_114 : decode cX4_unload 114 = .ok (.goto (-83), 3) := by decide +kernel
theorem dX4_unload_117 : decode cX4_unload 117 = .ok (.return_, 1) := by decide +kernel
theorem dX5_init_0 : decode cX5_init 0 = .ok (.aload_n 0, 1) := by decide +kernel
theorem dX5_init_1 : decode cX5_init 1 = .ok (.invokespecial 1, 3) := by decide +kernel
theorem dX5_init_4 : decode cX5_init 4 = .ok (.return_, 1) := by decide +kernel
theorem dX5_copyFrom_0 : decode cX5_copyFrom 0 = .ok (.aload_n 0, 1) := by decide +kernel
theorem dX5_copyFrom_1 : decode cX5_copyFrom 1 = .ok (.aload_n 1, 1) := by decide +kernel
theorem dX5_copyFrom_2 : decode cX5_copyFrom 2 = .ok (.getfield 7, 3) := by decide +kernel
theorem dX5_copyFrom_5 : decode cX5_copyFrom 5 = .ok (.putfield 7, 3) := by decide +kernel
theorem dX5_copyFrom_8 : decode cX5_copyFrom 8 = .ok (.aload_n 0, 1) := by decide +kernel
theorem dX5_copyFrom_9 : decode cX5_copyFrom 9 = .ok (.aload_n 1, 1) := by decide +kernel
theorem dX5_copyFrom_10 : decode cX5_copyFrom 10 = .ok (.getfield 13, 3) := by decide +kernel
theorem dX5_copyFrom_13 : decode cX5_copyFrom 13 = .ok (.putfield 13, 3) := by decide +kernel
theorem dX5_copyFrom_16 : decode cX5_copyFrom 16 = .ok (.aload_n 0, 1) := by decide +kernel
theorem dX5_copyFrom_17 : decode cX5_copyFrom 17 = .ok (.aload_n 1, 1) := by decide +kernel
theorem dX5_copyFrom_18 : decode cX5_copyFrom 18 = .ok (.getfield 17, 3) := by decide +kernel
theorem dX5_copyFrom_21 : decode cX5_copyFrom 21 = .ok (.putfield 17, 3) := by decide +kernel
theorem dX5_copyFrom_24 : decode cX5_copyFrom 24 = .ok (.aload_n 0, 1) := by decide +kernel
theorem dX5_copyFrom_25 : decode cX5_copyFrom 25 = .ok (.aload_n 1, 1) := by decide +kernel
theorem dX5_copyFrom_26 : decode cX5_copyFrom 26 = .ok (.getfield 20, 3) := by decide +kernel
theorem dX5_copyFrom_29 : decode cX5_copyFrom 29 = .ok (.putfield 20, 3) := by decide +kernel
theorem dX5_copyFrom_32 : decode cX5_copyFrom 32 = .ok (.return_, 1) := by decide +kernel
theorem dX6_init_0 : decode cX6_init 0 = .ok (.aload_n 0, 1) := by decide +kernel
theorem dX6_init_1 : decode cX6_init 1 = .ok (.invokespecial 3, 3) := by decide +kernel
theorem dX6_init_4 : decode cX6_init 4 = .ok (.aload_n 0, 1) := by decide +kernel
theorem dX6_init_5 : decode cX6_init 5 = .ok (.sipush 600, 3) := by decide +kernel
theorem dX6_init_8 : decode cX6_init 8 = .ok (.newarray .byte, 2) := by decide +kernel
theorem dX6_init_10 : decode cX6_init 10 = .ok (.putfield 9, 3) := by decide +kernel
theorem dX6_init_13 : decode cX6_init 13 = .ok (.return_, 1) := by decide +kernel
theorem dX6_appendByte_0 : decode cX6_appendByte 0 = .ok (.aload_n 0, 1) := by decide +kernel
theorem dX6_appendByte_1 : decode cX6_appendByte 1 = .ok (.getfield 15, 3) := by decide +kernel
theorem dX6_appendByte_4 : decode cX6_appendByte 4 = .ok (.ifCond .lt 36, 3) := by decide +kernel
theorem dX6_appendByte_7 : decode cX6_appendByte 7 = .ok (.aload_n 0, 1) := by decide +kernel
theorem dX6_appendByte_8 : decode cX6_appendByte 8 = .ok (.getfield 15, 3) := by decide +kernel
theorem dX6_appendByte_11 : decode cX6_appendByte 11 = .ok (.aload_n 0, 1) := by decide +kernel
theorem dX6_appendByte_12 : decode cX6_appendByte 12 = .ok (.getfield 9, 3) := by decide +kernel
theorem dX6_appendByte_15 : decode cX6_appendByte 15 = .ok (.arraylength, 1) := by decide +kernel
theorem dX6_appendByte_16 : decode cX6_appendByte 16 = .ok (.if_icmp .ge 24, 3) := by decide +kernel
theorem dX6_appendByte_19 : decode cX6_appendByte 19 = .ok (.aload_n 0, 1) := by decide +kernel
theorem dX6_appendByte_20 : decode cX6_appendByte 20 = .ok (.getfield 9, 3) := by decide +kernel
theorem dX6_appendByte_23 : decode cX6_appendByte 23 = .ok (.aload_n 0, 1) := by decide +kernel
theorem dX6_appendByte_24 : decode cX6_appendByte 24 = .ok (.getfield 15, 3) := by decide +kernel
theorem dX6_appendByte_27 : decode cX6_appendByte 27 = .ok (.iload_n 1, 1) := by decide +kernel
theorem dX6_appendByte_28 : decode cX6_appendByte 28 = .ok (.i2b, 1) := by decide +kernel
theorem dX6_appendByte_29 : decode cX6_appendByte 29 = .ok (.bastore, 1) := by decide +kernel
theorem dX6_appendByte_30 : decode cX6_appendByte 30 = .ok (.aload_n 0, 1) := by decide +kernel
theorem dX6_appendByte_31 : decode cX6_appendByte 31 = .ok (.dup, 1) := by decide +kernel
theorem dX6_appendByte_32 : decode cX6_appendByte 32 = .ok (.getfield 15, 3) := by decide +kernel
theorem dX6_appendByte_35 : decode cX6_appendByte 35 = .ok (.iconst 1, 1) := by decide +kernel
theorem dX6_appendByte_36 : decode cX6_appendByte 36 = .ok (.iadd, 1) := by decide +kernel
theorem dX6_appendByte_37 : decode cX6_appendByte 37 = .ok (.putfield 15, 3) := by decide +kernel
theorem dX6_appendByte_40 : decode cX6_appendByte 40 = .ok (.return_, 1) := by decide +kernel
theorem dX6_appendFourBytes_0 : decode cX6_appendFourBytes 0 = .ok (.aload_n 0, 1) := by decide +kernel
theorem dX6_appendFourBytes_1 : decode cX6_appendFourBytes 1 = .ok (.iload_n 1, 1) := by decide +kernel
theorem dX6_appendFourBytes_2 : decode cX6_appendFourBytes 2 = .ok (.bipush 24, 2) := by decide +kernel
theorem dX6_appendFourBytes_4 : decode cX6_appendFourBytes 4 = .ok (.iushr, 1) := by decide +kernel
theorem dX6_appendFourBytes_5 : decode cX6_appendFourBytes 5 = .ok (.invokevirtual 19, 3) := by decide +kernel
theorem dX6_appendFourBytes_8 : decode cX6_appendFourBytes 8 = .ok (.aload_n 0, 1) := by decide +kernel
theorem dX6_appendFourBytes_9 : decode cX6_appendFourBytes 9 = .ok (.iload_n 1, 1) := by decide +kernel
theorem dX6_appendFourBytes_10 : decode cX6_appendFourBytes 10 = .ok (.bipush 16, 2) := by decide +kernel
theorem dX6_appendFourBytes_12 : decode cX6_appendFourBytes 12 = .ok (.iushr, 1) := by decide +kernel
theorem dX6_appendFourBytes_13 : decode cX6_appendFourBytes 13 = .ok (.invokevirtual 19, 3) := by decide +kernel
theorem dX6_appendFourBytes_16 : decode cX6_appendFourBytes 16 = .ok (.aload_n 0, 1) := by decide +kernel
theorem dX6_appendFourBytes_17 : decode cX6_appendFourBytes 17 = .ok (.iload_n 1, 1) := by decide +kernel
theorem dX6_appendFourBytes_18 : decode cX6_appendFourBytes 18 = .ok (.bipush 8, 2) := by decide +kernel
theorem dX6_appendFourBytes_20 : decode cX6_appendFourBytes 20 = .ok (.iushr, 1) := by decide +kernel
theorem dX6_appendFourBytes_21 : decode cX6_appendFourBytes 21 = .ok (.invokevirtual 19, 3) := by decide +kernel
theorem dX6_appendFourBytes_24 : decode cX6_appendFourBytes 24 = .ok (.aload_n 0, 1) := by decide +kernel
theorem dX6_appendFourBytes_25 : decode cX6_appendFourBytes 25 = .ok (.iload_n 1, 1) := by decide +kernel
theorem dX6_appendFourBytes_26 : decode cX6_appendFourBytes 26 = .ok (.invokevirtual 19, 3) := by decide +kernel
theorem dX6_appendFourBytes_29 : decode cX6_appendFourBytes 29 = .ok (.return_, 1) := by decide +kernel
theorem dX6_appendText_0 : decode cX6_appendText 0 = .ok (.iconst 0, 1) := by decide +kernel
theorem dX6_appendText_1 : decode cX6_appendText 1 = .ok (.istore_n 2, 1) := by decide +kernel
theorem dX6_appendText_2 : decode cX6_appendText 2 = .ok (.iload_n 2, 1) := by decide +kernel
theorem dX6_appendText_3 : decode cX6_appendText 3 = .ok (.aload_n 1, 1) := by decide +kernel
theorem dX6_appendText_4 : decode cX6_appendText 4 = .ok (.invokevirtual 23, 3) := by decide +kernel
theorem dX6_appendText_7 : decode cX6_appendText 7 = .ok (.if_icmp .ge 18, 3) := by decide +kernel
theorem dX6_appendText_10 : decode cX6_appendText 10 = .ok (.aload_n 0, 1) := by decide +kernel
theorem dX6_appendText_11 : decode cX6_appendText 11 = .ok (.aload_n 1, 1) := by decide +kernel
theorem dX6_appendText_12 : decode cX6_appendText 12 = .ok (.iload_n 2, 1) := by decide +kernel
theorem dX6_appendText_13 : decode cX6_appendText 13 = .ok (.invokevirtual 28, 3) := by decide +kernel
theorem dX6_appendText_16 : decode cX6_appendText 16 = .ok (.invokevirtual 19, 3) := by decide +kernel
theorem dX6_appendText_19 : decode cX6_appendText 19 = .ok (.iinc 2 1, 3) := by decide +kernel
theorem dX6_appendText_22 : decode cX6_appendText 22 = .ok (.goto (-20), 3) := by decide +kernel
theorem dX6_appendText_25 : decode cX6_appendText 25 = .ok (.return_, 1) := by decide +kernel
theorem dX6_begin_0 : decode cX6_begin 0 = .ok (.aload_n 0, 1) := by decide +kernel
theorem dX6_begin_1 : decode cX6_begin 1 = .ok (.iconst 0, 1) := by decide +kernel
theorem dX6_begin_2 : decode cX6_begin 2 = .ok (.putfield 32, 3) := by decide +kernel
theorem dX6_begin_5 : decode cX6_begin 5 = .ok (.aload_n 0, 1) := by decide +kernel
theorem dX6_begin_6 : decode cX6_begin 6 = .ok (.invokevirtual 35, 3) := by decide +kernel
theorem dX6_begin_9 : decode cX6_begin 9 = .ok (.return_, 1) := by decide +kernel
theorem dX6_advance_0 : decode cX6_advance 0 = .ok (.aload_n 0, 1) := by decide +kernel
theorem dX6_advance_1 : decode cX6_advance 1 = .ok (.aload_n 0, 1) := by decide +kernel
theorem dX6_advance_2 : decode cX6_advance 2 = .ok (.getfield 32, 3) := by decide +kernel
theorem dX6_advance_5 : decode cX6_advance 5 = .ok (.putfield 38, 3) := by decide +kernel
theorem dX6_advance_8 : decode cX6_advance 8 = .ok (.aload_n 0, 1) := by decide +kernel
theorem dX6_advance_9 : decode cX6_advance 9 = .ok (.getfield 38, 3) := by decide +kernel
theorem dX6_advance_12 : decode cX6_advance 12 = .ok (.aload_n 0, 1) := by decide +kernel
theorem dX6_advance_13 : decode cX6_advance 13 = .ok (.getfield 15, 3) := by decide +kernel
theorem dX6_advance_16 : decode cX6_advance 16 = .ok (.if_icmp .ge 30, 3) := by decide +kernel
theorem dX6_advance_19 : decode cX6_advance 19 = .ok (.aload_n 0, 1) := by decide +kernel
theorem dX6_advance_20 : decode cX6_advance 20 = .ok (.aload_n 0, 1) := by decide +kernel
theorem dX6_advance_21 : decode cX6_advance 21 = .ok (.getfield 38, 3) := by decide +kernel
theorem dX6_advance_24 : decode cX6_advance 24 = .ok (.invokevirtual 41, 3) := by decide +kernel
theorem dX6_advance_27 : decode cX6_advance 27 = .ok (.invokestatic 45, 3) := by decide +kernel
theorem dX6_advance_30 : decode cX6_advance 30 = .ok (.ifCond .eq 16, 3) := by decide +kernel
theorem dX6_advance_33 : decode cX6_advance 33 = .ok (.aload_n 0, 1) := by decide +kernel
theorem dX6_advance_34 : decode cX6_advance 34 = .ok (.dup, 1) := by decide +kernel
theorem dX6_advance_35 : decode cX6_advance 35 = .ok (.getfield 38, 3) := by decide +kernel
theorem dX6_advance_38 : decode cX6_advance 38 = .ok (.iconst 1, 1) := by decide +kernel
theorem dX6_advance_39 : decode cX6_advance 39 = .ok (.iadd, 1) := by decide +kernel
theorem dX6_advance_40 : decode cX6_advance 40 = .ok (.putfield 38, 3) := by decide +kernel
theorem dX6_advance_43 : decode cX6_advance 43 = .ok (.goto (-35), 3) := by decide +kernel
theorem dX6_advance_46 : decode cX6_advance 46 = .ok (.aload_n 0, 1) := by decide +kernel
theorem dX6_advance_47 : decode cX6_advance 47 = .ok (.aload_n 0, 1) := by decide +kernel
theorem dX6_advance_48 : decode cX6_advance 48 = .ok (.getfield 38, 3) := by decide +kernel
theorem dX6_advance_51 : decode cX6_advance 51 = .ok (.invokevirtual 41, 3) := by decide +kernel
theorem dX6_advance_54 : decode cX6_advance 54 = .ok (.istore_n 1, 1) := by decide +kernel
theorem dX6_advance_55 : decode cX6_advance 55 = .ok (.aload_n 0, 1) := by decide +kernel
theorem dX6_advance_56 : decode cX6_advance 56 = .ok (.getfield 38, 3) := by decide +kernel
theorem dX6_advance_59 : decode cX6_advance 59 = .ok (.aload_n 0, 1) := by decide +kernel
theorem dX6_advance_60 : decode cX6_advance 60 = .ok (.getfield 15, 3) := by decide +kernel
theorem dX6_advance_63 : decode cX6_advance 63 = .ok (.if_icmp .lt 19, 3) := by decide +kernel
theorem dX6_advance_66 : decode cX6_advance 66 = .ok (.aload_n 0, 1) := by decide +kernel
theorem dX6_advance_67 : decode cX6_advance 67 = .ok (.iconst 0, 1) := by decide +kernel
theorem dX6_advance_68 : decode cX6_advance 68 = .ok (.putfield 49, 3) := by decide +kernel
theorem dX6_advance_71 : decode cX6_advance 71 = .ok (.aload_n 0, 1) := by decide +kernel
theorem dX6_advance_72 : decode cX6_advance 72 = .ok (.aload_n 0, 1) := by decide +kernel
theorem dX6_advance_73 : decode cX6_advance 73 = .ok (.getfield 15, 3) := by decide +kernel
theorem dX6_advance_76 : decode cX6_advance 76 = .ok (.putfield 32, 3) := by decide +kernel
theorem dX6_advance_79 : decode cX6_advance 79 = .ok (.goto 92, 3) := by decide +kernel
theorem dX6_advance_82 : decode cX6_advance 82 = .ok (.iload_n 1, 1) := by decide +kernel
theorem dX6_advance_83 : decode cX6_advance 83 = .ok (.bipush 97, 2) := by decide +kernel
theorem dX6_advance_85 : decode cX6_advance 85 = .ok (.if_icmp .lt 29, 3) := by decide +kernel
theorem dX6_advance_88 : decode cX6_advance 88 = .ok (.iload_n 1, 1) := by decide +kernel
theorem dX6_advance_89 : decode cX6_advance 89 = .ok (.bipush 122, 2) := by decide +kernel
theorem dX6_advance_91 : decode cX6_advance 91 = .ok (.if_icmp .gt 23, 3) := by decide +kernel
theorem dX6_advance_94 : decode cX6_advance 94 = .ok (.aload_n 0, 1) := by decide +kernel
theorem dX6_advance_95 : decode cX6_advance 95 = .ok (.iconst 1, 1) := by decide +kernel
theorem dX6_advance_96 : decode cX6_advance 96 = .ok (.putfield 49, 3) := by decide +kernel
theorem dX6_advance_99 : decode cX6_advance 99 = .ok (.aload_n 0, 1) := by decide +kernel
theorem dX6_advance_100 : decode cX6_advance 100 = .ok (.aload_n 0, 1) := by decide +kernel
theorem dX6_advance_101 : decode cX6_advance 101 = .ok (.bipush 97, 2) := by decide +kernel
theorem dX6_advance_103 : decode cX6_advance 103 = .ok (.bipush 122, 2) := by decide +kernel
theorem dX6_advance_105 : decode cX6_advance 105 = .ok (.invokevirtual 52, 3) := by decide +kernel
theorem dX6_advance_108 : decode cX6_advance 108 = .ok (.putfield 32, 3) := by decide +kernel
theorem dX6_advance_111 : decode cX6_advance 111 = .ok (.goto 60, 3) := by decide +kernel
