theorem dX0_init_0 : decode cX0_init 0 = .ok (.aload_n 0, 1) := by decide +kernel
theorem dX0_init_1 : decode cX0_init 1 = .ok (.invokespecial 3, 3) := by decide +kernel
theorem dX0_init_4 : decode cX0_init 4 = .ok (.aload_n 0, 1) := by decide +kernel
theorem dX0_init_5 : decode cX0_init 5 = .ok (.iconst (-1), 1) := by decide +kernel
theorem dX0_init_6 : decode cX0_init 6 = .ok (.putfield 9, 3) := by decide +kernel
theorem dX0_init_9 : decode cX0_init 9 = .ok (.aload_n 0, 1) := by decide +kernel
theorem dX0_init_10 : decode cX0_init 10 = .ok (.iconst (-1), 1) := by decide +kernel
theorem dX0_init_11 : decode cX0_init 11 = .ok (.putfield 15, 3) := by decide +kernel
theorem dX0_init_14 : decode cX0_init 14 = .ok (.aload_n 0, 1) := by decide +kernel
theorem dX0_init_15 : decode cX0_init 15 = .ok (.iconst 0, 1) := by decide +kernel
theorem dX0_init_16 : decode cX0_init 16 = .ok (.putfield 18, 3) := by decide +kernel
theorem dX0_init_19 : decode cX0_init 19 = .ok (.aload_n 0, 1) := by decide +kernel
theorem dX0_init_20 : decode cX0_init 20 = .ok (.iconst 0, 1) := by decide +kernel
theorem dX0_init_21 : decode cX0_init 21 = .ok (.putfield 21, 3) := by decide +kernel
theorem dX0_init_24 : decode cX0_init 24 = .ok (.aload_n 0, 1) := by decide +kernel
theorem dX0_init_25 : decode cX0_init 25 = .ok (.iconst 0, 1) := by decide +kernel
theorem dX0_init_26 : decode cX0_init 26 = .ok (.putfield 24, 3) := by decide +kernel
theorem dX0_init_29 : decode cX0_init 29 = .ok (.aload_n 0, 1) := by decide +kernel
theorem dX0_init_30 : decode cX0_init 30 = .ok (.new 27, 3) := by decide +kernel
theorem dX0_init_33 : decode cX0_init 33 = .ok (.dup, 1) := by decide +kernel
theorem dX0_init_34 : decode cX0_init 34 = .ok (.iload_n 1, 1) := by decide +kernel
theorem dX0_init_35 : decode cX0_init 35 = .ok (.invokespecial 29, 3) := by decide +kernel
theorem dX0_init_38 : decode cX0_init 38 = .ok (.putfield 32, 3) := by decide +kernel
theorem dX0_init_41 : decode cX0_init 41 = .ok (.aload_n 0, 1) := by decide +kernel
theorem dX0_init_42 : decode cX0_init 42 = .ok (.new 27, 3) := by decide +kernel
theorem dX0_init_45 : decode cX0_init 45 = .ok (.dup, 1) := by decide +kernel
theorem dX0_init_46 : decode cX0_init 46 = .ok (.iload_n 2, 1) := by decide +kernel
theorem dX0_init_47 : decode cX0_init 47 = .ok (.invokespecial 29, 3) := by decide +kernel
theorem dX0_init_50 : decode cX0_init 50 = .ok (.putfield 36, 3) := by decide +kernel
theorem dX0_init_53 : decode cX0_init 53 = .ok (.aload_n 0, 1) := by decide +kernel
theorem dX0_init_54 : decode cX0_init 54 = .ok (.iload_n 3, 1) := by decide +kernel
theorem dX0_init_55 : decode cX0_init 55 = .ok (.putfield 39, 3) := by decide +kernel
theorem dX0_init_58 : decode cX0_init 58 = .ok (.aload_n 0, 1) := by decide +kernel
theorem dX0_init_59 : decode cX0_init 59 = .ok (.iload 4, 2) := by decide +kernel
theorem dX0_init_61 : decode cX0_init 61 = .ok (.putfield 42, 3) := by decide +kernel
theorem dX0_init_64 : decode cX0_init 64 = .ok (.aload_n 0, 1) := by decide +kernel
theorem dX0_init_65 : decode cX0_init 65 = .ok (.iload 5, 2) := by decide +kernel
theorem dX0_init_67 : decode cX0_init 67 = .ok (.putfield 45, 3) := by decide +kernel
theorem dX0_init_70 : decode cX0_init 70 = .ok (.return_, 1) := by decide +kernel
theorem dX0_corner_0 : decode cX0_corner 0 = .ok (.iload_n 1, 1) := by decide +kernel
theorem dX0_corner_1 : decode cX0_corner 1 = .ok (.ifCond .ne 10, 3) := by decide +kernel
theorem dX0_corner_4 : decode cX0_corner 4 = .ok (.aload_n 0, 1) := by decide +kernel
theorem dX0_corner_5 : decode cX0_corner 5 = .ok (.getfield 32, 3) := by decide +kernel
theorem dX0_corner_8 : decode cX0_corner 8 = .ok (.goto 7, 3) := by decide +kernel
theorem dX0_corner_11 : decode cX0_corner 11 = .ok (.aload_n 0, 1) := by decide +kernel
theorem dX0_corner_12 : decode cX0_corner 12 = .ok (.getfield 36, 3) := by decide +kernel
theorem dX0_corner_15 : decode cX0_corner 15 = .ok (.areturn, 1) := by decide +kernel
theorem dX0_has_0 : decode cX0_has 0 = .ok (.aload_n 0, 1) := by decide +kernel
theorem dX0_has_1 : decode cX0_has 1 = .ok (.getfield 32, 3) := by decide +kernel
theorem dX0_has_4 : decode cX0_has 4 = .ok (.getfield 48, 3) := by decide +kernel
theorem dX0_has_7 : decode cX0_has 7 = .ok (.iload_n 1, 1) := by decide +kernel
theorem dX0_has_8 : decode cX0_has 8 = .ok (.if_icmp .eq 14, 3) := by decide +kernel
theorem dX0_has_11 : decode cX0_has 11 = .ok (.aload_n 0, 1) := by decide +kernel
theorem dX0_has_12 : decode cX0_has 12 = .ok (.getfield 36, 3) := by decide +kernel
theorem dX0_has_15 : decode cX0_has 15 = .ok (.getfield 48, 3) := by decide +kernel
theorem dX0_has_18 : decode cX0_has 18 = .ok (.iload_n 1, 1) := by decide +kernel
theorem dX0_has_19 : decode cX0_has 19 = .ok (.if_icmp .ne 7, 3) := by decide +kernel
theorem dX0_has_22 : decode cX0_has 22 = .ok (.iconst 1, 1) := by decide +kernel
theorem dX0_has_23 : decode cX0_has 23 = .ok (.goto 4, 3) := by decide +kernel
theorem dX0_has_26 : decode cX0_has 26 = .ok (.iconst 0, 1) := by decide +kernel
theorem dX0_has_27 : decode cX0_has 27 = .ok (.ireturn, 1) := by decide +kernel
theorem dX0_sideOf_0 : decode cX0_sideOf 0 = .ok (.aload_n 0, 1) := by decide +kernel
theorem dX0_sideOf_1 : decode cX0_sideOf 1 = .ok (.getfield 32, 3) := by decide +kernel
theorem dX0_sideOf_4 : decode cX0_sideOf 4 = .ok (.getfield 48, 3) := by decide +kernel
theorem dX0_sideOf_7 : decode cX0_sideOf 7 = .ok (.iload_n 1, 1) := by decide +kernel
theorem dX0_sideOf_8 : decode cX0_sideOf 8 = .ok (.if_icmp .ne 7, 3) := by decide +kernel
theorem dX0_sideOf_11 : decode cX0_sideOf 11 = .ok (.iconst 0, 1) := by decide +kernel
theorem dX0_sideOf_12 : decode cX0_sideOf 12 = .ok (.goto 4, 3) := by decide +kernel
theorem dX0_sideOf_15 : decode cX0_sideOf 15 = .ok (.iconst 1, 1) := by decide +kernel
theorem dX0_sideOf_16 : decode cX0_sideOf 16 = .ok (.ireturn, 1) := by decide +kernel
theorem dX0_isOver_0 : decode cX0_isOver 0 = .ok (.aload_n 0, 1) := by decide +kernel
theorem dX0_isOver_1 : decode cX0_isOver 1 = .ok (.getfield 9, 3) := by decide +kernel
theorem dX0_isOver_4 : decode cX0_isOver 4 = .ok (.iconst (-1), 1) := by decide +kernel
theorem dX0_isOver_5 : decode cX0_isOver 5 = .ok (.if_icmp .eq 7, 3) := by decide +kernel
theorem dX0_isOver_8 : decode cX0_isOver 8 = .ok (.iconst 1, 1) := by decide +kernel
theorem dX0_isOver_9 : decode cX0_isOver 9 = .ok (.goto 4, 3) := by decide +kernel
theorem dX0_isOver_12 : decode cX0_isOver 12 = .ok (.iconst 0, 1) := by decide +kernel
theorem dX0_isOver_13 : decode cX0_isOver 13 = .ok (.ireturn, 1) := by decide +kernel
theorem dX0_isLike_0 : decode cX0_isLike 0 = .ok (.aload_n 0, 1) := by decide +kernel
theorem dX0_isLike_1 : decode cX0_isLike 1 = .ok (.getfield 32, 3) := by decide +kernel
theorem dX0_isLike_4 : decode cX0_isLike 4 = .ok (.getfield 51, 3) := by decide +kernel
theorem dX0_isLike_7 : decode cX0_isLike 7 = .ok (.aload_n 0, 1) := by decide +kernel
theorem dX0_isLike_8 : decode cX0_isLike 8 = .ok (.getfield 36, 3) := by decide +kernel
theorem dX0_isLike_11 : decode cX0_isLike 11 = .ok (.getfield 51, 3) := by decide +kernel
theorem dX0_isLike_14 : decode cX0_isLike 14 = .ok (.if_icmp .ne 7, 3) := by decide +kernel
theorem dX0_isLike_17 : decode cX0_isLike 17 = .ok (.iconst 1, 1) := by decide +kernel
theorem dX0_isLike_18 : decode cX0_isLike 18 = .ok (.goto 4, 3) := by decide +kernel
theorem dX0_isLike_21 : decode cX0_isLike 21 = .ok (.iconst 0, 1) := by decide +kernel
theorem dX0_isLike_22 : decode cX0_isLike 22 = .ok (.ireturn, 1) := by decide +kernel
theorem dX0_leader_0 : decode cX0_leader 0 = .ok (.aload_n 0, 1) := by decide +kernel
theorem dX0_leader_1 : decode cX0_leader 1 = .ok (.invokevirtual 54, 3) := by decide +kernel
theorem dX0_leader_4 : decode cX0_leader 4 = .ok (.ifCond .eq 26, 3) := by decide +kernel
theorem dX0_leader_7 : decode cX0_leader 7 = .ok (.aload_n 0, 1) := by decide +kernel
theorem dX0_leader_8 : decode cX0_leader 8 = .ok (.getfield 32, 3) := by decide +kernel
theorem dX0_leader_11 : decode cX0_leader 11 = .ok (.getfield 48, 3) := by decide +kernel
theorem dX0_leader_14 : decode cX0_leader 14 = .ok (.aload_n 0, 1) := by decide +kernel
theorem dX0_leader_15 : decode cX0_leader 15 = .ok (.getfield 36, 3) := by decide +kernel
theorem dX0_leader_18 : decode cX0_leader 18 = .ok (.getfield 48, 3) := by decide +kernel
theorem dX0_leader_21 : decode cX0_leader 21 = .ok (.if_icmp .ge 7, 3) := by decide +kernel
theorem dX0_leader_24 : decode cX0_leader 24 = .ok (.iconst 0, 1) := by decide +kernel
theorem dX0_leader_25 : decode cX0_leader 25 = .ok (.goto 4, 3) := by decide +kernel
theorem dX0_leader_28 : decode cX0_leader 28 = .ok (.iconst 1, 1) := by decide +kernel
theorem dX0_leader_29 : decode cX0_leader 29 = .ok (.ireturn, 1) := by decide +kernel
theorem dX0_leader_30 : decode cX0_leader 30 = .ok (.aload_n 0, 1) := by decide +kernel
theorem dX0_leader_31 : decode cX0_leader 31 = .ok (.getfield 32, 3) := by decide +kernel
theorem dX0_leader_34 : decode cX0_leader 34 = .ok (.getfield 51, 3) := by decide +kernel
theorem dX0_leader_37 : decode cX0_leader 37 = .ok (.aload_n 0, 1) := by decide +kernel
theorem dX0_leader_38 : decode cX0_leader 38 = .ok (.getfield 36, 3) := by decide +kernel
theorem dX0_leader_41 : decode cX0_leader 41 = .ok (.getfield 51, 3) := by decide +kernel
theorem dX0_leader_44 : decode cX0_leader 44 = .ok (.if_icmp .le 7, 3) := by decide +kernel
theorem dX0_leader_47 : decode cX0_leader 47 = .ok (.iconst 0, 1) := by decide +kernel
theorem dX0_leader_48 : decode cX0_leader 48 = .ok (.goto 4, 3) := by decide +kernel
theorem dX0_leader_51 : decode cX0_leader 51 = .ok (.iconst 1, 1) := by decide +kernel
theorem dX0_leader_52 : decode cX0_leader 52 = .ok (.ireturn, 1) := by decide +kernel
theorem dX0_finish_0 : decode cX0_finish 0 = .ok (.aload_n 0, 1) := by decide +kernel
theorem dX0_finish_1 : decode cX0_finish 1 = .ok (.iload_n 1, 1) := by decide +kernel
theorem dX0_finish_2 : decode cX0_finish 2 = .ok (.putfield 9, 3) := by decide +kernel
theorem dX0_finish_5 : decode cX0_finish 5 = .ok (.return_, 1) := by decide +kernel
theorem dX0_isDoubleTooFar_0 : decode cX0_isDoubleTooFar 0 = .ok (.aload_n 0, 1) := by decide +kernel
theorem dX0_isDoubleTooFar_1 : decode cX0_isDoubleTooFar 1 = .ok (.getfield 32, 3) := by decide +kernel
theorem dX0_isDoubleTooFar_4 : decode cX0_isDoubleTooFar 4 = .ok (.getfield 51, 3) := by decide +kernel
theorem dX0_isDoubleTooFar_7 : decode cX0_isDoubleTooFar 7 = .ok (.iconst 1, 1) := by decide +kernel
theorem dX0_isDoubleTooFar_8 : decode cX0_isDoubleTooFar 8 = .ok (.iadd, 1) := by decide +kernel
theorem dX0_isDoubleTooFar_9 : decode cX0_isDoubleTooFar 9 = .ok (.aload_n 0, 1) := by decide +kernel
theorem dX0_isDoubleTooFar_10 : decode cX0_isDoubleTooFar 10 = .ok (.getfield 42, 3) := by decide +kernel
theorem dX0_isDoubleTooFar_13 : decode cX0_isDoubleTooFar 13 = .ok (.if_icmp .lt 23, 3) := by decide +kernel
theorem dX0_isDoubleTooFar_16 : decode cX0_isDoubleTooFar 16 = .ok (.aload_n 0, 1) := by decide +kernel
theorem dX0_isDoubleTooFar_17 : decode cX0_isDoubleTooFar 17 = .ok (.getfield 36, 3) := by decide +kernel
theorem dX0_isDoubleTooFar_20 : decode cX0_isDoubleTooFar 20 = .ok (.getfield 51, 3) := by decide +kernel
theorem dX0_isDoubleTooFar_23 : decode cX0_isDoubleTooFar 23 = .ok (.iconst 1, 1) := by decide +kernel
theorem dX0_isDoubleTooFar_24 : decode cX0_isDoubleTooFar 24 = .ok (.iadd, 1) := by decide +kernel
theorem dX0_isDoubleTooFar_25 : decode cX0_isDoubleTooFar 25 = .ok (.aload_n 0, 1) := by decide +kernel
theorem dX0_isDoubleTooFar_26 : decode cX0_isDoubleTooFar 26 = .ok (.getfield 42, 3) := by decide +kernel
theorem dX0_isDoubleTooFar_29 : decode cX0_isDoubleTooFar 29 = .ok (.if_icmp .lt 7, 3) := by decide +kernel
theorem dX0_isDoubleTooFar_32 : decode cX0_isDoubleTooFar 32 = .ok (.iconst 1, 1) := by decide +kernel
theorem dX0_isDoubleTooFar_33 : decode cX0_isDoubleTooFar 33 = .ok (.goto 4, 3) := by decide +kernel
theorem dX0_isDoubleTooFar_36 : decode cX0_isDoubleTooFar 36 = .ok (.iconst 0, 1) := by decide +kernel
theorem dX0_isDoubleTooFar_37 : decode cX0_isDoubleTooFar 37 = .ok (.ireturn, 1) := by decide +kernel
theorem dX0_giveTouches_0 : decode cX0_giveTouches 0 = .ok (.iload_n 1, 1) := by decide +kernel
theorem dX0_giveTouches_1 : decode cX0_giveTouches 1 = .ok (.ifCond .eq 13, 3) := by decide +kernel
theorem dX0_giveTouches_4 : decode cX0_giveTouches 4 = .ok (.aload_n 0, 1) := by decide +kernel
theorem dX0_giveTouches_5 : decode cX0_giveTouches 5 = .ok (.iconst 0, 1) := by decide +kernel
theorem dX0_giveTouches_6 : decode cX0_giveTouches 6 = .ok (.putfield 21, 3) := by decide +kernel
theorem dX0_giveTouches_9 : decode cX0_giveTouches 9 = .ok (.aload_n 0, 1) := by decide +kernel
theorem dX0_giveTouches_10 : decode cX0_giveTouches 10 = .ok (.iload_n 1, 1) := by decide +kernel
theorem dX0_giveTouches_11 : decode cX0_giveTouches 11 = .ok (.invokevirtual 58, 3) := by decide +kernel
theorem dX0_giveTouches_14 : decode cX0_giveTouches 14 = .ok (.return_, 1) := by decide +kernel
theorem dX0_addTouches_0 : decode cX0_addTouches 0 = .ok (.iload_n 1, 1) := by decide +kernel
theorem dX0_addTouches_1 : decode cX0_addTouches 1 = .ok (.iconst 1, 1) := by decide +kernel
theorem dX0_addTouches_2 : decode cX0_addTouches 2 = .ok (.iand, 1) := by decide +kernel
theorem dX0_addTouches_3 : decode cX0_addTouches 3 = .ok (.ifCond .eq 16, 3) := by decide +kernel
theorem dX0_addTouches_6 : decode cX0_addTouches 6 = .ok (.aload_n 0, 1) := by decide +kernel
theorem dX0_addTouches_7 : decode cX0_addTouches 7 = .ok (.getfield 32, 3) := by decide +kernel
theorem dX0_addTouches_10 : decode cX0_addTouches 10 = .ok (.dup, 1) := by decide +kernel
theorem dX0_addTouches_11 : decode cX0_addTouches 11 = .ok (.getfield 51, 3) := by decide +kernel
theorem dX0_addTouches_14 : decode cX0_addTouches 14 = .ok (.iconst 1, 1) := by decide +kernel
theorem dX0_addTouches_15 : decode cX0_addTouches 15 = .ok (.iadd, 1) := by decide +kernel
theorem dX0_addTouches_16 : decode cX0_addTouches 16 = .ok (.putfield 51, 3) := by decide +kernel
theorem dX0_addTouches_19 : decode cX0_addTouches 19 = .ok (.iload_n 1, 1) := by decide +kernel
theorem dX0_addTouches_20 : decode cX0_addTouches 20 = .ok (.iconst 2, 1) := by decide +kernel
theorem dX0_addTouches_21 : decode cX0_addTouches 21 = .ok (.iand, 1) := by decide +kernel
theorem dX0_addTouches_22 : decode cX0_addTouches 22 = .ok (.ifCond .eq 16, 3) := by decide +kernel
theorem dX0_addTouches_25 : decode cX0_addTouches 25 = .ok (.aload_n 0, 1) := by decide +kernel
theorem dX0_addTouches_26 : decode cX0_addTouches 26 = .ok (.getfield 36, 3) := by decide +kernel
theorem dX0_addTouches_29 : decode cX0_addTouches 29 = .ok (.dup, 1) := by decide +kernel
theorem dX0_addTouches_30 : decode cX0_addTouches 30 = .ok (.getfield 51, 3) := by decide +kernel
theorem dX0_addTouches_33 : decode cX0_addTouches 33 = .ok (.iconst 1, 1) := by decide +kernel
theorem dX0_addTouches_34 : decode cX0_addTouches 34 = .ok (.iadd, 1) := by decide +kernel
theorem dX0_addTouches_35 : decode cX0_addTouches 35 = .ok (.putfield 51, 3) := by decide +kernel
theorem dX0_addTouches_38 : decode cX0_addTouches 38 = .ok (.aload_n 0, 1) := by decide +kernel
theorem dX0_addTouches_39 : decode cX0_addTouches 39 = .ok (.getfield 32, 3) := by decide +kernel
theorem dX0_addTouches_42 : decode cX0_addTouches 42 = .ok (.getfield 51, 3) := by decide +kernel
theorem dX0_addTouches_45 : decode cX0_addTouches 45 = .ok (.aload_n 0, 1) := by decide +kernel
theorem dX0_addTouches_46 : decode cX0_addTouches 46 = .ok (.getfield 42, 3) := by decide +kernel
theorem dX0_addTouches_49 : decode cX0_addTouches 49 = .ok (.if_icmp .ge 17, 3) := by decide +kernel
theorem dX0_addTouches_52 : decode cX0_addTouches 52 = .ok (.aload_n 0, 1) := by decide +kernel
theorem dX0_addTouches_53 : decode cX0_addTouches 53 = .ok (.getfield 36, 3) := by decide +kernel
theorem dX0_addTouches_56 : decode cX0_addTouches 56 = .ok (.getfield 51, 3) := by decide +kernel
theorem dX0_addTouches_59 : decode cX0_addTouches 59 = .ok (.aload_n 0, 1) := by decide +kernel
theorem dX0_addTouches_60 : decode cX0_addTouches 60 = .ok (.getfield 42, 3) := by decide +kernel
theorem dX0_addTouches_63 : decode cX0_addTouches 63 = .ok (.if_icmp .lt 7, 3) := by decide +kernel
theorem dX0_addTouches_66 : decode cX0_addTouches 66 = .ok (.iconst 1, 1) := by decide +kernel
theorem dX0_addTouches_67 : decode cX0_addTouches 67 = .ok (.goto 4, 3) := by decide +kernel
theorem dX0_addTouches_70 : decode cX0_addTouches 70 = .ok (.iconst 0, 1) := by decide +kernel
theorem dX0_addTouches_71 : decode cX0_addTouches 71 = .ok (.istore_n 2, 1) := by decide +kernel
theorem dX0_addTouches_72 : decode cX0_addTouches 72 = .ok (.iload_n 2, 1) := by decide +kernel
theorem dX0_addTouches_73 : decode cX0_addTouches 73 = .ok (.ifCond .ne 18, 3) := by decide +kernel
theorem dX0_addTouches_76 : decode cX0_addTouches 76 = .ok (.aload_n 0, 1) := by decide +kernel
theorem dX0_addTouches_77 : decode cX0_addTouches 77 = .ok (.getfield 15, 3) := by decide +kernel
theorem dX0_addTouches_80 : decode cX0_addTouches 80 = .ok (.iconst (-1), 1) := by decide +kernel
theorem dX0_addTouches_81 : decode cX0_addTouches 81 = .ok (.if_icmp .eq 18, 3) := by decide +kernel
theorem dX0_addTouches_84 : decode cX0_addTouches 84 = .ok (.aload_n 0, 1) := by decide +kernel
theorem dX0_addTouches_85 : decode cX0_addTouches 85 = .ok (.invokevirtual 54, 3) := by decide +kernel
theorem dX0_addTouches_88 : decode cX0_addTouches 88 = .ok (.ifCond .ne 11, 3) := by decide +kernel
theorem dX0_addTouches_91 : decode cX0_addTouches 91 = .ok (.aload_n 0, 1) := by decide +kernel
theorem dX0_addTouches_92 : decode cX0_addTouches 92 = .ok (.aload_n 0, 1) := by decide +kernel
theorem dX0_addTouches_93 : decode cX0_addTouches 93 = .ok (.invokevirtual 61, 3) := by decide +kernel
theorem dX0_addTouches_96 : decode cX0_addTouches 96 = .ok (.invokevirtual 65, 3) := by decide +kernel
theorem dX0_addTouches_99 : decode cX0_addTouches 99 = .ok (.return_, 1) := by decide +kernel
theorem dX0_giveCard_0 : decode cX0_giveCard 0 = .ok (.aload_n 0, 1) := by decide +kernel
theorem dX0_giveCard_1 : decode cX0_giveCard 1 = .ok (.iload_n 1, 1) := by decide +kernel
theorem dX0_giveCard_2 : decode cX0_giveCard 2 = .ok (.invokevirtual 68, 3) := by decide +kernel
theorem dX0_giveCard_5 : decode cX0_giveCard 5 = .ok (.iload_n 2, 1) := by decide +kernel
theorem dX0_giveCard_6 : decode cX0_giveCard 6 = .ok (.invokevirtual 72, 3) := by decide +kernel
theorem dX0_giveCard_9 : decode cX0_giveCard 9 = .ok (.istore_n 3, 1) := by decide +kernel
theorem dX0_giveCard_10 : decode cX0_giveCard 10 = .ok (.aload_n 0, 1) := by decide +kernel
theorem dX0_giveCard_11 : decode cX0_giveCard 11 = .ok (.iload_n 1, 1) := by decide +kernel
theorem dX0_giveCard_12 : decode cX0_giveCard 12 = .ok (.invokevirtual 68, 3) := by decide +kernel
theorem dX0_giveCard_15 : decode cX0_giveCard 15 = .ok (.iload_n 2, 1) := by decide +kernel
theorem dX0_giveCard_16 : decode cX0_giveCard 16 = .ok (.invokevirtual 76, 3) := by decide +kernel
theorem dX0_giveCard_19 : decode cX0_giveCard 19 = .ok (.iload_n 3, 1) := by decide +kernel
theorem dX0_giveCard_20 : decode cX0_giveCard 20 = .ok (.iconst 2, 1) := by decide +kernel
theorem dX0_giveCard_21 : decode cX0_giveCard 21 = .ok (.if_icmp .ne 16, 3) := by decide +kernel
theorem dX0_giveCard_24 : decode cX0_giveCard 24 = .ok (.aload_n 0, 1) := by decide +kernel
theorem dX0_giveCard_25 : decode cX0_giveCard 25 = .ok (.iconst 1, 1) := by decide +kernel
theorem dX0_giveCard_26 : decode cX0_giveCard 26 = .ok (.iload_n 1, 1) := by decide +kernel
theorem dX0_giveCard_27 : decode cX0_giveCard 27 = .ok (.isub, 1) := by decide +kernel
theorem dX0_giveCard_28 : decode cX0_giveCard 28 = .ok (.invokestatic 79, 3) := by decide +kernel
theorem dX0_giveCard_31 : decode cX0_giveCard 31 = .ok (.invokevirtual 82, 3) := by decide +kernel
theorem dX0_giveCard_34 : decode cX0_giveCard 34 = .ok (.goto 15, 3) := by decide +kernel
theorem dX0_giveCard_37 : decode cX0_giveCard 37 = .ok (.iload_n 3, 1) := by decide +kernel
theorem dX0_giveCard_38 : decode cX0_giveCard 38 = .ok (.iconst 3, 1) := by decide +kernel
theorem dX0_giveCard_39 : decode cX0_giveCard 39 = .ok (.if_icmp .ne 10, 3) := by decide +kernel
theorem dX0_giveCard_42 : decode cX0_giveCard 42 = .ok (.aload_n 0, 1) := by decide +kernel
theorem dX0_giveCard_43 : decode cX0_giveCard 43 = .ok (.iconst 1, 1) := by decide +kernel
theorem dX0_giveCard_44 : decode cX0_giveCard 44 = .ok (.iload_n 1, 1) := by decide +kernel
theorem dX0_giveCard_45 : decode cX0_giveCard 45 = .ok (.isub, 1) := by decide +kernel
theorem dX0_giveCard_46 : decode cX0_giveCard 46 = .ok (.invokevirtual 65, 3) := by decide +kernel
theorem dX0_giveCard_49 : decode cX0_giveCard 49 = .ok (.iload_n 3, 1) := by decide +kernel
theorem dX0_giveCard_50 : decode cX0_giveCard 50 = .ok (.ireturn, 1) := by decide +kernel
theorem dX0_passSecond_0 : decode cX0_passSecond 0 = .ok (.aload_n 0, 1) := by decide +kernel
theorem dX0_passSecond_1 : decode cX0_passSecond 1 = .ok (.dup, 1) := by decide +kernel
theorem dX0_passSecond_2 : decode cX0_passSecond 2 = .ok (.getfield 18, 3) := by decide +kernel
theorem dX0_passSecond_5 : decode cX0_passSecond 5 = .ok (.iconst 1, 1) := by decide +kernel
theorem dX0_passSecond_6 : decode cX0_passSecond 6 = .ok (.iadd, 1) := by decide +kernel
theorem dX0_passSecond_7 : decode cX0_passSecond 7 = .ok (.putfield 18, 3) := by decide +kernel
theorem dX0_passSecond_10 : decode cX0_passSecond 10 = .ok (.aload_n 0, 1) := by decide +kernel
theorem dX0_passSecond_11 : decode cX0_passSecond 11 = .ok (.dup, 1) := by decide +kernel
theorem dX0_passSecond_12 : decode cX0_passSecond 12 = .ok (.getfield 21, 3) := by decide +kernel
theorem dX0_passSecond_15 : decode cX0_passSecond 15 = .ok (.iconst 1, 1) := by decide +kernel
theorem dX0_passSecond_16 : decode cX0_passSecond 16 = .ok (.iadd, 1) := by decide +kernel
theorem dX0_passSecond_17 : decode cX0_passSecond 17 = .ok (.putfield 21, 3) := by decide +kernel
theorem dX0_passSecond_20 : decode cX0_passSecond 20 = .ok (.aload_n 0, 1) := by decide +kernel
theorem dX0_passSecond_21 : decode cX0_passSecond 21 = .ok (.getfield 21, 3) := by decide +kernel
theorem dX0_passSecond_24 : decode cX0_passSecond 24 = .ok (.bipush 60, 2) := by decide +kernel
theorem dX0_passSecond_26 : decode cX0_passSecond 26 = .ok (.if_icmp .lt 7, 3) := by decide +kernel
theorem dX0_passSecond_29 : decode cX0_passSecond 29 = .ok (.aload_n 0, 1) := by decide +kernel
theorem dX0_passSecond_30 : decode cX0_passSecond 30 = .ok (.invokevirtual 85, 3) := by decide +kernel
theorem dX0_passSecond_33 : decode cX0_passSecond 33 = .ok (.aload_n 0, 1) := by decide +kernel
theorem dX0_passSecond_34 : decode cX0_passSecond 34 = .ok (.invokevirtual 88, 3) := by decide +kernel
theorem dX0_passSecond_37 : decode cX0_passSecond 37 = .ok (.ifCond .ne 8, 3) := by decide +kernel
theorem dX0_passSecond_40 : decode cX0_passSecond 40 = .ok (.aload_n 0, 1) := by decide +kernel
theorem dX0_passSecond_41 : decode cX0_passSecond 41 = .ok (.aload_n 1, 1) := by decide +kernel
theorem dX0_passSecond_42 : decode cX0_passSecond 42 = .ok (.invokevirtual 91, 3) := by decide +kernel
theorem dX0_passSecond_45 : decode cX0_passSecond 45 = .ok (.return_, 1) := by decide +kernel
theorem dX0_becomePassive_0 : decode cX0_becomePassive 0 = .ok (.aload_n 0, 1) := by decide +kernel
theorem dX0_becomePassive_1 : decode cX0_becomePassive 1 = .ok (.iconst 0, 1) := by decide +kernel
theorem dX0_becomePassive_2 : decode cX0_becomePassive 2 = .ok (.putfield 21, 3) := by decide +kernel
theorem dX0_becomePassive_5 : decode cX0_becomePassive 5 = .ok (.aload_n 0, 1) := by decide +kernel
theorem dX0_becomePassive_6 : decode cX0_becomePassive 6 = .ok (.dup, 1) := by decide +kernel
theorem dX0_becomePassive_7 : decode cX0_becomePassive 7 = .ok (.getfield 24, 3) := by decide +kernel
theorem dX0_becomePassive_10 : decode cX0_becomePassive 10 = .ok (.iconst 1, 1) := by decide +kernel
theorem dX0_becomePassive_11 : decode cX0_becomePassive 11 = .ok (.iadd, 1) := by decide +kernel
theorem dX0_becomePassive_12 : decode cX0_becomePassive 12 = .ok (.putfield 24, 3) := by decide +kernel
theorem dX0_becomePassive_15 : decode cX0_becomePassive 15 = .ok (.aload_n 0, 1) := by decide +kernel
theorem dX0_becomePassive_16 : decode cX0_becomePassive 16 = .ok (.getfield 24, 3) := by decide +kernel
theorem dX0_becomePassive_19 : decode cX0_becomePassive 19 = .ok (.iconst 2, 1) := by decide +kernel
theorem dX0_becomePassive_20 : decode cX0_becomePassive 20 = .ok (.if_icmp .ne 11, 3) := by decide +kernel
theorem dX0_becomePassive_23 : decode cX0_becomePassive 23 = .ok (.aload_n 0, 1) := by decide +kernel
theorem dX0_becomePassive_24 : decode cX0_becomePassive 24 = .ok (.iconst 3, 1) := by decide +kernel
theorem dX0_becomePassive_25 : decode cX0_becomePassive 25 = .ok (.invokevirtual 58, 3) := by decide +kernel
theorem dX0_becomePassive_28 : decode cX0_becomePassive 28 = .ok (.goto 19, 3) := by decide +kernel
theorem dX0_becomePassive_31 : decode cX0_becomePassive 31 = .ok (.aload_n 0, 1) := by decide +kernel
theorem dX0_becomePassive_32 : decode cX0_becomePassive 32 = .ok (.getfield 24, 3) := by decide +kernel
theorem dX0_becomePassive_35 : decode cX0_becomePassive 35 = .ok (.iconst 3, 1) := by decide +kernel
theorem dX0_becomePassive_36 : decode cX0_becomePassive 36 = .ok (.if_icmp .lt 11, 3) := by decide +kernel
theorem dX0_becomePassive_39 : decode cX0_becomePassive 39 = .ok (.aload_n 0, 1) := by decide +kernel
theorem dX0_becomePassive_40 : decode cX0_becomePassive 40 = .ok (.aload_n 0, 1) := by decide +kernel
theorem dX0_becomePassive_41 : decode cX0_becomePassive 41 = .ok (.invokevirtual 61, 3) := by decide +kernel
theorem dX0_becomePassive_44 : decode cX0_becomePassive 44 = .ok (.invokevirtual 65, 3) := by decide +kernel
theorem dX0_becomePassive_47 : decode cX0_becomePassive 47 = .ok (.return_, 1) := by decide +kernel
theorem dX0_lookAtTime_0 : decode cX0_lookAtTime 0 = .ok (.aload_n 0, 1) := by decide +kernel
theorem dX0_lookAtTime_1 : decode cX0_lookAtTime 1 = .ok (.getfield 18, 3) := by decide +kernel
theorem dX0_lookAtTime_4 : decode cX0_lookAtTime 4 = .ok (.aload_n 0, 1) := by decide +kernel
theorem dX0_lookAtTime_5 : decode cX0_lookAtTime 5 = .ok (.invokevirtual 95, 3) := by decide +kernel
theorem dX0_lookAtTime_8 : decode cX0_lookAtTime 8 = .ok (.if_icmp .ge 4, 3) := by decide +kernel
theorem dX0_lookAtTime_11 : decode cX0_lookAtTime 11 = .ok (.return_, 1) := by decide +kernel
theorem dX0_lookAtTime_12 : decode cX0_lookAtTime 12 = .ok (.aload_n 0, 1) := by decide +kernel
theorem dX0_lookAtTime_13 : decode cX0_lookAtTime 13 = .ok (.getfield 15, 3) := by decide +kernel
theorem dX0_lookAtTime_16 : decode cX0_lookAtTime 16 = .ok (.iconst (-1), 1) := by decide +kernel
theorem dX0_lookAtTime_17 : decode cX0_lookAtTime 17 = .ok (.if_icmp .eq 14, 3) := by decide +kernel
theorem dX0_lookAtTime_20 : decode cX0_lookAtTime 20 = .ok (.aload_n 0, 1) := by decide +kernel
theorem dX0_lookAtTime_21 : decode cX0_lookAtTime 21 = .ok (.aload_n 0, 1) := by decide +kernel
theorem dX0_lookAtTime_22 : decode cX0_lookAtTime 22 = .ok (.getfield 15, 3) := by decide +kernel
theorem dX0_lookAtTime_25 : decode cX0_lookAtTime 25 = .ok (.invokevirtual 65, 3) := by decide +kernel
theorem dX0_lookAtTime_28 : decode cX0_lookAtTime 28 = .ok (.goto 29, 3) := by decide +kernel
theorem dX0_lookAtTime_31 : decode cX0_lookAtTime 31 = .ok (.aload_n 0, 1) := by decide +kernel
theorem dX0_lookAtTime_32 : decode cX0_lookAtTime 32 = .ok (.invokevirtual 54, 3) := by decide +kernel
theorem dX0_lookAtTime_35 : decode cX0_lookAtTime 35 = .ok (.ifCond .eq 14, 3) := by decide +kernel
theorem dX0_lookAtTime_38 : decode cX0_lookAtTime 38 = .ok (.aload_n 0, 1) := by decide +kernel
theorem dX0_lookAtTime_39 : decode cX0_lookAtTime 39 = .ok (.aload_n 1, 1) := by decide +kernel
theorem dX0_lookAtTime_40 : decode cX0_lookAtTime 40 = .ok (.invokevirtual 98, 3) := by decide +kernel
theorem dX0_lookAtTime_43 : decode cX0_lookAtTime 43 = .ok (.putfield 15, 3) := by decide +kernel
theorem dX0_lookAtTime_46 : decode cX0_lookAtTime 46 = .ok (.goto 11, 3) := by decide +kernel
theorem dX0_lookAtTime_49 : decode cX0_lookAtTime 49 = .ok (.aload_n 0, 1) := by decide +kernel
theorem dX0_lookAtTime_50 : decode cX0_lookAtTime 50 = .ok (.aload_n 0, 1) := by decide +kernel
theorem dX0_lookAtTime_51 : decode cX0_lookAtTime 51 = .ok (.invokevirtual 61, 3) := by decide +kernel
theorem dX0_lookAtTime_54 : decode cX0_lookAtTime 54 = .ok (.invokevirtual 65, 3) := by decide +kernel
theorem dX0_lookAtTime_57 : decode cX0_lookAtTime 57 = .ok (.return_, 1) := by decide +kernel
theorem dX0_timeLimit_0 : decode cX0_timeLimit 0 = .ok (.aload_n 0, 1) := by decide +kernel
theorem dX0_timeLimit_1 : decode cX0_timeLimit 1 = .ok (.getfield 15, 3) := by decide +kernel
theorem dX0_timeLimit_4 : decode cX0_timeLimit 4 = .ok (.iconst (-1), 1) := by decide +kernel
theorem dX0_timeLimit_5 : decode cX0_timeLimit 5 = .ok (.if_icmp .ne 9, 3) := by decide +kernel
theorem dX0_timeLimit_8 : decode cX0_timeLimit 8 = .ok (.sipush 180, 3) := by decide +kernel
theorem dX0_timeLimit_11 : decode cX0_timeLimit 11 = .ok (.goto 6, 3) := by decide +kernel
theorem dX0_timeLimit_14 : decode cX0_timeLimit 14 = .ok (.sipush 240, 3) := by decide +kernel
theorem dX0_timeLimit_17 : decode cX0_timeLimit 17 = .ok (.ireturn, 1) := by decide +kernel
theorem dX0_secondsLeft_0 : decode cX0_secondsLeft 0 = .ok (.aload_n 0, 1) := by decide +kernel
theorem dX0_secondsLeft_1 : decode cX0_secondsLeft 1 = .ok (.invokevirtual 88, 3) := by decide +kernel
theorem dX0_secondsLeft_4 : decode cX0_secondsLeft 4 = .ok (.ifCond .eq 7, 3) := by decide +kernel
theorem dX0_secondsLeft_7 : decode cX0_secondsLeft 7 = .ok (.iconst 0, 1) := by decide +kernel
theorem dX0_secondsLeft_8 : decode cX0_secondsLeft 8 = .ok (.goto 12, 3) := by decide +kernel
theorem dX0_secondsLeft_11 : decode cX0_secondsLeft 11 = .ok (.aload_n 0, 1) := by decide +kernel
theorem dX0_secondsLeft_12 : decode cX0_secondsLeft 12 = .ok (.invokevirtual 95, 3) := by decide +kernel
theorem dX0_secondsLeft_15 : decode cX0_secondsLeft 15 = .ok (.aload_n 0, 1) := by decide +kernel
theorem dX0_secondsLeft_16 : decode cX0_secondsLeft 16 = .ok (.getfield 18, 3) := by decide +kernel
theorem dX0_secondsLeft_19 : decode cX0_secondsLeft 19 = .ok (.isub, 1) := by decide +kernel
theorem dX0_secondsLeft_20 : decode cX0_secondsLeft 20 = .ok (.ireturn, 1) := by decide +kernel
theorem dX0_told_0 : decode cX0_told 0 = .ok (.iload_n 1, 1) := by decide +kernel
theorem dX0_told_1 : decode cX0_told 1 = .ok (.tableswitch 66 0 4 #[35, 43, 51, 56, 61], 35) := by decide +kernel
theorem dX0_told_36 : decode cX0_told 36 = .ok (.aload_n 0, 1) := by decide +kernel
theorem dX0_told_37 : decode cX0_told 37 = .ok (.getfield 32, 3) := by decide +kernel
theorem dX0_told_40 : decode cX0_told 40 = .ok (.getfield 51, 3) := by decide +kernel
theorem dX0_told_43 : decode cX0_told 43 = .ok (.ireturn, 1) := by decide +kernel
theorem dX0_told_44 : decode cX0_told 44 = .ok (.aload_n 0, 1) := by decide +kernel
theorem dX0_told_45 : decode cX0_told 45 = .ok (.getfield 36, 3) := by decide +kernel
theorem dX0_told_48 : decode cX0_told 48 = .ok (.getfield 51, 3) := by decide +kernel
theorem dX0_told_51 : decode cX0_told 51 = .ok (.ireturn, 1) := by decide +kernel
theorem dX0_told_52 : decode cX0_told 52 = .ok (.aload_n 0, 1) := by decide +kernel
theorem dX0_told_53 : decode cX0_told 53 = .ok (.getfield 9, 3) := by decide +kernel
theorem dX0_told_56 : decode cX0_told 56 = .ok (.ireturn, 1) := by decide +kernel
theorem dX0_told_57 : decode cX0_told 57 = .ok (.aload_n 0, 1) := by decide +kernel
theorem dX0_told_58 : decode cX0_told 58 = .ok (.getfield 18, 3) := by decide +kernel
theorem dX0_told_61 : decode cX0_told 61 = .ok (.ireturn, 1) := by decide +kernel
theorem dX0_told_62 : decode cX0_told 62 = .ok (.aload_n 0, 1) := by decide +kernel
theorem dX0_told_63 : decode cX0_told 63 = .ok (.getfield 24, 3) := by decide +kernel
theorem dX0_told_66 : decode cX0_told 66 = .ok (.ireturn, 1) := by decide +kernel
theorem dX0_told_67 : decode cX0_told 67 = .ok (.aload_n 0, 1) := by decide +kernel
theorem dX0_told_68 : decode cX0_told 68 = .ok (.getfield 15, 3) := by decide +kernel
theorem dX0_told_71 : decode cX0_told 71 = .ok (.ireturn, 1) := by decide +kernel
theorem dX0_share_0 : decode cX0_share 0 = .ok (.iload_n 2, 1) := by decide +kernel
theorem dX0_share_1 : decode cX0_share 1 = .ok (.tableswitch 52 0 2 #[27, 29, 43], 27) := by decide +kernel
theorem dX0_share_28 : decode cX0_share 28 = .ok (.iconst 1, 1) := by decide +kernel
theorem dX0_share_29 : decode cX0_share 29 = .ok (.ireturn, 1) := by decide +kernel
theorem dX0_share_30 : decode cX0_share 30 = .ok (.aload_n 0, 1) := by decide +kernel
theorem dX0_share_31 : decode cX0_share 31 = .ok (.getfield 9, 3) := by decide +kernel
theorem dX0_share_34 : decode cX0_share 34 = .ok (.iload_n 1, 1) := by decide +kernel
theorem dX0_share_35 : decode cX0_share 35 = .ok (.if_icmp .ne 7, 3) := by decide +kernel
theorem dX0_share_38 : decode cX0_share 38 = .ok (.iconst 1, 1) := by decide +kernel
theorem dX0_share_39 : decode cX0_share 39 = .ok (.goto 4, 3) := by decide +kernel
theorem dX0_share_42 : decode cX0_share 42 = .ok (.iconst 0, 1) := by decide +kernel
theorem dX0_share_43 : decode cX0_share 43 = .ok (.ireturn, 1) := by decide +kernel
theorem dX0_share_44 : decode cX0_share 44 = .ok (.aload_n 0, 1) := by decide +kernel
theorem dX0_share_45 : decode cX0_share 45 = .ok (.iload_n 1, 1) := by decide +kernel
theorem dX0_share_46 : decode cX0_share 46 = .ok (.invokevirtual 68, 3) := by decide +kernel
theorem dX0_share_49 : decode cX0_share 49 = .ok (.getfield 51, 3) := by decide +kernel
theorem dX0_share_52 : decode cX0_share 52 = .ok (.ireturn, 1) := by decide +kernel
theorem dX0_share_53 : decode cX0_share 53 = .ok (.aload_n 0, 1) := by decide +kernel
theorem dX0_share_54 : decode cX0_share 54 = .ok (.iconst 1, 1) := by decide +kernel
theorem dX0_share_55 : decode cX0_share 55 = .ok (.iload_n 1, 1) := by decide +kernel
theorem dX0_share_56 : decode cX0_share 56 = .ok (.isub, 1) := by decide +kernel
theorem dX0_share_57 : decode cX0_share 57 = .ok (.invokevirtual 68, 3) := by decide +kernel
theorem dX0_share_60 : decode cX0_share 60 = .ok (.getfield 51, 3) := by decide +kernel
theorem dX0_share_63 : decode cX0_share 63 = .ok (.ireturn, 1) := by decide +kernel
theorem dX1_init_0 : decode cX1_init 0 = .ok (.aload_n 0, 1) := by decide +kernel
theorem dX1_init_1 : decode cX1_init 1 = .ok (.invokespecial 3, 3) := by decide +kernel
theorem dX1_init_4 : decode cX1_init 4 = .ok (.aload_n 0, 1) := by decide +kernel
theorem dX1_init_5 : decode cX1_init 5 = .ok (.bipush 32, 2) := by decide +kernel
theorem dX1_init_7 : decode cX1_init 7 = .ok (.newarray .int, 2) := by decide +kernel
theorem dX1_init_9 : decode cX1_init 9 = .ok (.putfield 11, 3) := by decide +kernel
theorem dX1_init_12 : decode cX1_init 12 = .ok (.aload_n 0, 1) := by decide +kernel
theorem dX1_init_13 : decode cX1_init 13 = .ok (.bipush 16, 2) := by decide +kernel
theorem dX1_init_15 : decode cX1_init 15 = .ok (.newarray .int, 2) := by decide +kernel
theorem dX1_init_17 : decode cX1_init 17 = .ok (.putfield 15, 3) := by decide +kernel
theorem dX1_init_20 : decode cX1_init 20 = .ok (.aload_n 0, 1) := by decide +kernel
theorem dX1_init_21 : decode cX1_init 21 = .ok (.iconst 0, 1) := by decide +kernel
theorem dX1_init_22 : decode cX1_init 22 = .ok (.putfield 18, 3) := by decide +kernel
theorem dX1_init_25 : decode cX1_init 25 = .ok (.return_, 1) := by decide +kernel
theorem dX1_makeFrom_0 : decode cX1_makeFrom 0 = .ok (.aload_n 1, 1) := by decide +kernel
theorem dX1_makeFrom_1 : decode cX1_makeFrom 1 = .ok (.invokevirtual 22, 3) := by decide +kernel
theorem dX1_makeFrom_4 : decode cX1_makeFrom 4 = .ok (.aload_n 0, 1) := by decide +kernel
theorem dX1_makeFrom_5 : decode cX1_makeFrom 5 = .ok (.aload_n 1, 1) := by decide +kernel
theorem dX1_makeFrom_6 : decode cX1_makeFrom 6 = .ok (.invokevirtual 27, 3) := by decide +kernel
theorem dX1_makeFrom_9 : decode cX1_makeFrom 9 = .ok (.invokestatic 31, 3) := by decide +kernel
theorem dX1_makeFrom_12 : decode cX1_makeFrom 12 = .ok (.invokevirtual 35, 3) := by decide +kernel
theorem dX1_makeFrom_15 : decode cX1_makeFrom 15 = .ok (.iconst 0, 1) := by decide +kernel
theorem dX1_makeFrom_16 : decode cX1_makeFrom 16 = .ok (.istore_n 2, 1) := by decide +kernel
theorem dX1_makeFrom_17 : decode cX1_makeFrom 17 = .ok (.iload_n 2, 1) := by decide +kernel
theorem dX1_makeFrom_18 : decode cX1_makeFrom 18 = .ok (.aload_n 0, 1) := by decide +kernel
theorem dX1_makeFrom_19 : decode cX1_makeFrom 19 = .ok (.getfield 18, 3) := by decide +kernel
theorem dX1_makeFrom_22 : decode cX1_makeFrom 22 = .ok (.if_icmp .ge 15, 3) := by decide +kernel
theorem dX1_makeFrom_25 : decode cX1_makeFrom 25 = .ok (.aload_n 0, 1) := by decide +kernel
theorem dX1_makeFrom_26 : decode cX1_makeFrom 26 = .ok (.iload_n 2, 1) := by decide +kernel
theorem dX1_makeFrom_27 : decode cX1_makeFrom 27 = .ok (.iconst (-1), 1) := by decide +kernel
theorem dX1_makeFrom_28 : decode cX1_makeFrom 28 = .ok (.invokevirtual 39, 3) := by decide +kernel
theorem dX1_makeFrom_31 : decode cX1_makeFrom 31 = .ok (.iinc 2 1, 3) := by decide +kernel
theorem dX1_makeFrom_34 : decode cX1_makeFrom 34 = .ok (.goto (-17), 3) := by decide +kernel
theorem dX1_makeFrom_37 : decode cX1_makeFrom 37 = .ok (.iconst 0, 1) := by decide +kernel
theorem dX1_makeFrom_38 : decode cX1_makeFrom 38 = .ok (.istore_n 2, 1) := by decide +kernel
theorem dX1_makeFrom_39 : decode cX1_makeFrom 39 = .ok (.iload_n 2, 1) := by decide +kernel
theorem dX1_makeFrom_40 : decode cX1_makeFrom 40 = .ok (.aload_n 0, 1) := by decide +kernel
theorem dX1_makeFrom_41 : decode cX1_makeFrom 41 = .ok (.getfield 18, 3) := by decide +kernel
theorem dX1_makeFrom_44 : decode cX1_makeFrom 44 = .ok (.if_icmp .ge 35, 3) := by decide +kernel
theorem dX1_makeFrom_47 : decode cX1_makeFrom 47 = .ok (.iload_n 2, 1) := by decide +kernel
theorem dX1_makeFrom_48 : decode cX1_makeFrom 48 = .ok (.bipush 16, 2) := by decide +kernel
theorem dX1_makeFrom_50 : decode cX1_makeFrom 50 = .ok (.if_icmp .ge 29, 3) := by decide +kernel
theorem dX1_makeFrom_53 : decode cX1_makeFrom 53 = .ok (.aload_n 0, 1) := by decide +kernel
theorem dX1_makeFrom_54 : decode cX1_makeFrom 54 = .ok (.aload_n 0, 1) := by decide +kernel
theorem dX1_makeFrom_55 : decode cX1_makeFrom 55 = .ok (.getfield 18, 3) := by decide +kernel
theorem dX1_makeFrom_58 : decode cX1_makeFrom 58 = .ok (.iload_n 2, 1) := by decide +kernel
theorem dX1_makeFrom_59 : decode cX1_makeFrom 59 = .ok (.iadd, 1) := by decide +kernel
theorem dX1_makeFrom_60 : decode cX1_makeFrom 60 = .ok (.aload_n 1, 1) := by decide +kernel
theorem dX1_makeFrom_61 : decode cX1_makeFrom 61 = .ok (.aload_n 0, 1) := by decide +kernel
theorem dX1_makeFrom_62 : decode cX1_makeFrom 62 = .ok (.getfield 15, 3) := by decide +kernel
theorem dX1_makeFrom_65 : decode cX1_makeFrom 65 = .ok (.iload_n 2, 1) := by decide +kernel
theorem dX1_makeFrom_66 : decode cX1_makeFrom 66 = .ok (.iaload, 1) := by decide +kernel
theorem dX1_makeFrom_67 : decode cX1_makeFrom 67 = .ok (.invokevirtual 43, 3) := by decide +kernel
theorem dX1_makeFrom_70 : decode cX1_makeFrom 70 = .ok (.invokevirtual 39, 3) := by decide +kernel
theorem dX1_makeFrom_73 : decode cX1_makeFrom 73 = .ok (.iinc 2 1, 3) := by decide +kernel
theorem dX1_makeFrom_76 : decode cX1_makeFrom 76 = .ok (.goto (-37), 3) := by decide +kernel
theorem dX1_makeFrom_79 : decode cX1_makeFrom 79 = .ok (.aload_n 0, 1) := by decide +kernel
theorem dX1_makeFrom_80 : decode cX1_makeFrom 80 = .ok (.getfield 18, 3) := by decide +kernel
theorem dX1_makeFrom_83 : decode cX1_makeFrom 83 = .ok (.iconst 2, 1) := by decide +kernel
theorem dX1_makeFrom_84 : decode cX1_makeFrom 84 = .ok (.idiv, 1) := by decide +kernel
theorem dX1_makeFrom_85 : decode cX1_makeFrom 85 = .ok (.istore_n 2, 1) := by decide +kernel
theorem dX1_makeFrom_86 : decode cX1_makeFrom 86 = .ok (.iload_n 2, 1) := by decide +kernel
theorem dX1_makeFrom_87 : decode cX1_makeFrom 87 = .ok (.aload_n 0, 1) := by decide +kernel
theorem dX1_makeFrom_88 : decode cX1_makeFrom 88 = .ok (.getfield 18, 3) := by decide +kernel
theorem dX1_makeFrom_91 : decode cX1_makeFrom 91 = .ok (.if_icmp .ge 14, 3) := by decide +kernel
theorem dX1_makeFrom_94 : decode cX1_makeFrom 94 = .ok (.aload_n 0, 1) := by decide +kernel
theorem dX1_makeFrom_95 : decode cX1_makeFrom 95 = .ok (.iload_n 2, 1) := by decide +kernel
theorem dX1_makeFrom_96 : decode cX1_makeFrom 96 = .ok (.invokevirtual 46, 3) := by decide +kernel
theorem dX1_makeFrom_99 : decode cX1_makeFrom 99 = .ok (.iinc 2 1, 3) := by decide +kernel
theorem dX1_makeFrom_102 : decode cX1_makeFrom 102 = .ok (.goto (-16), 3) := by decide +kernel
theorem dX1_makeFrom_105 : decode cX1_makeFrom 105 = .ok (.return_, 1) := by decide +kernel
theorem dX1_leastPlaces_0 : decode cX1_leastPlaces 0 = .ok (.iconst 2, 1) := by decide +kernel
theorem dX1_leastPlaces_1 : decode cX1_leastPlaces 1 = .ok (.istore_n 1, 1) := by decide +kernel
theorem dX1_leastPlaces_2 : decode cX1_leastPlaces 2 = .ok (.iload_n 1, 1) := by decide +kernel
theorem dX1_leastPlaces_3 : decode cX1_leastPlaces 3 = .ok (.iload_n 0, 1) := by decide +kernel
theorem dX1_leastPlaces_4 : decode cX1_leastPlaces 4 = .ok (.if_icmp .ge 16, 3) := by decide +kernel
theorem dX1_leastPlaces_7 : decode cX1_leastPlaces 7 = .ok (.iload_n 1, 1) := by decide +kernel
theorem dX1_leastPlaces_8 : decode cX1_leastPlaces 8 = .ok (.bipush 16, 2) := by decide +kernel
theorem dX1_leastPlaces_10 : decode cX1_leastPlaces 10 = .ok (.if_icmp .ge 10, 3) := by decide +kernel
theorem dX1_leastPlaces_13 : decode cX1_leastPlaces 13 = .ok (.iload_n 1, 1) := by decide +kernel
theorem dX1_leastPlaces_14 : decode cX1_leastPlaces 14 = .ok (.iconst 2, 1) := by decide +kernel
theorem dX1_leastPlaces_15 : decode cX1_leastPlaces 15 = .ok (.imul, 1) := by decide +kernel
theorem dX1_leastPlaces_16 : decode cX1_leastPlaces 16 = .ok (.istore_n 1, 1) := by decide +kernel
theorem dX1_leastPlaces_17 : decode cX1_leastPlaces 17 = .ok (.goto (-15), 3) := by decide +kernel
theorem dX1_leastPlaces_20 : decode cX1_leastPlaces 20 = .ok (.iload_n 1, 1) := by decide +kernel
theorem dX1_leastPlaces_21 : decode cX1_leastPlaces 21 = .ok (.ireturn, 1) := by decide +kernel
theorem dX1_orderPlaces_0 : decode cX1_orderPlaces 0 = .ok (.aload_n 0, 1) := by decide +kernel
theorem dX1_orderPlaces_1 : decode cX1_orderPlaces 1 = .ok (.iconst 2, 1) := by decide +kernel
theorem dX1_orderPlaces_2 : decode cX1_orderPlaces 2 = .ok (.putfield 18, 3) := by decide +kernel
theorem dX1_orderPlaces_5 : decode cX1_orderPlaces 5 = .ok (.aload_n 0, 1) := by decide +kernel
theorem dX1_orderPlaces_6 : decode cX1_orderPlaces 6 = .ok (.getfield 15, 3) := by decide +kernel
theorem dX1_orderPlaces_9 : decode cX1_orderPlaces 9 = .ok (.iconst 0, 1) := by decide +kernel
theorem dX1_orderPlaces_10 : decode cX1_orderPlaces 10 = .ok (.iconst 0, 1) := by decide +kernel
theorem dX1_orderPlaces_11 : decode cX1_orderPlaces 11 = .ok (.iastore, 1) := by decide +kernel
theorem dX1_orderPlaces_12 : decode cX1_orderPlaces 12 = .ok (.aload_n 0, 1) := by decide +kernel
theorem dX1_orderPlaces_13 : decode cX1_orderPlaces 13 = .ok (.getfield 15, 3) := by decide +kernel
theorem dX1_orderPlaces_16 : decode cX1_orderPlaces 16 = .ok (.iconst 1, 1) := by decide +kernel
theorem dX1_orderPlaces_17 : decode cX1_orderPlaces 17 = .ok (.iconst 1, 1) := by decide +kernel
theorem dX1_orderPlaces_18 : decode cX1_orderPlaces 18 = .ok (.iastore, 1) := by decide +kernel
theorem dX1_orderPlaces_19 : decode cX1_orderPlaces 19 = .ok (.aload_n 0, 1) := by decide +kernel
theorem dX1_orderPlaces_20 : decode cX1_orderPlaces 20 = .ok (.getfield 18, 3) := by decide +kernel
theorem dX1_orderPlaces_23 : decode cX1_orderPlaces 23 = .ok (.iload_n 1, 1) := by decide +kernel
theorem dX1_orderPlaces_24 : decode cX1_orderPlaces 24 = .ok (.if_icmp .ge 80, 3) := by decide +kernel
theorem dX1_orderPlaces_27 : decode cX1_orderPlaces 27 = .ok (.iconst 2, 1) := by decide +kernel
theorem dX1_orderPlaces_28 : decode cX1_orderPlaces 28 = .ok (.aload_n 0, 1) := by decide +kernel
theorem dX1_orderPlaces_29 : decode cX1_orderPlaces 29 = .ok (.getfield 18, 3) := by decide +kernel
theorem dX1_orderPlaces_32 : decode cX1_orderPlaces 32 = .ok (.imul, 1) := by decide +kernel
theorem dX1_orderPlaces_33 : decode cX1_orderPlaces 33 = .ok (.bipush 16, 2) := by decide +kernel
theorem dX1_orderPlaces_35 : decode cX1_orderPlaces 35 = .ok (.if_icmp .gt 69, 3) := by decide +kernel
theorem dX1_orderPlaces_38 : decode cX1_orderPlaces 38 = .ok (.aload_n 0, 1) := by decide +kernel
theorem dX1_orderPlaces_39 : decode cX1_orderPlaces 39 = .ok (.getfield 18, 3) := by decide +kernel
theorem dX1_orderPlaces_42 : decode cX1_orderPlaces 42 = .ok (.iconst 1, 1) := by decide +kernel
theorem dX1_orderPlaces_43 : decode cX1_orderPlaces 43 = .ok (.isub, 1) := by decide +kernel
theorem dX1_orderPlaces_44 : decode cX1_orderPlaces 44 = .ok (.istore_n 2, 1) := by decide +kernel
theorem dX1_orderPlaces_45 : decode cX1_orderPlaces 45 = .ok (.iload_n 2, 1) := by decide +kernel
theorem dX1_orderPlaces_46 : decode cX1_orderPlaces 46 = .ok (.ifCond .lt 45, 3) := by decide +kernel
theorem dX1_orderPlaces_49 : decode cX1_orderPlaces 49 = .ok (.aload_n 0, 1) := by decide +kernel
theorem dX1_orderPlaces_50 : decode cX1_orderPlaces 50 = .ok (.getfield 15, 3) := by decide +kernel
theorem dX1_orderPlaces_53 : decode cX1_orderPlaces 53 = .ok (.iload_n 2, 1) := by decide +kernel
theorem dX1_orderPlaces_54 : decode cX1_orderPlaces 54 = .ok (.iaload, 1) := by decide +kernel
theorem dX1_orderPlaces_55 : decode cX1_orderPlaces 55 = .ok (.istore_n 3, 1) := by decide +kernel
theorem dX1_orderPlaces_56 : decode cX1_orderPlaces 56 = .ok (.aload_n 0, 1) := by decide +kernel
theorem dX1_orderPlaces_57 : decode cX1_orderPlaces 57 = .ok (.getfield 15, 3) := by decide +kernel
theorem dX1_orderPlaces_60 : decode cX1_orderPlaces 60 = .ok (.iconst 2, 1) := by decide +kernel
theorem dX1_orderPlaces_61 : decode cX1_orderPlaces 61 = .ok (.iload_n 2, 1) := by decide +kernel
theorem dX1_orderPlaces_62 : decode cX1_orderPlaces 62 = .ok (.imul, 1) := by decide +kernel
theorem dX1_orderPlaces_63 : decode cX1_orderPlaces 63 = .ok (.iload_n 3, 1) := by decide +kernel
theorem dX1_orderPlaces_64 : decode cX1_orderPlaces 64 = .ok (.iastore, 1) := by decide +kernel
theorem dX1_orderPlaces_65 : decode cX1_orderPlaces 65 = .ok (.aload_n 0, 1) := by decide +kernel
theorem dX1_orderPlaces_66 : decode cX1_orderPlaces 66 = .ok (.getfield 15, 3) := by decide +kernel
theorem dX1_orderPlaces_69 : decode cX1_orderPlaces 69 = .ok (.iconst 2, 1) := by decide +kernel
theorem dX1_orderPlaces_70 : decode cX1_orderPlaces 70 = .ok (.iload_n 2, 1) := by decide +kernel
theorem dX1_orderPlaces_71 : decode cX1_orderPlaces 71 = .ok (.imul, 1) := by decide +kernel
theorem dX1_orderPlaces_72 : decode cX1_orderPlaces 72 = .ok (.iconst 1, 1) := by decide +kernel
theorem dX1_orderPlaces_73 : decode cX1_orderPlaces 73 = .ok (.iadd, 1) := by decide +kernel
theorem dX1_orderPlaces_74 : decode cX1_orderPlaces 74 = .ok (.iconst 2, 1) := by decide +kernel
theorem dX1_orderPlaces_75 : decode cX1_orderPlaces 75 = .ok (.aload_n 0, 1) := by decide +kernel
theorem dX1_orderPlaces_76 : decode cX1_orderPlaces 76 = .ok (.getfield 18, 3) := by decide +kernel
theorem dX1_orderPlaces_79 : decode cX1_orderPlaces 79 = .ok (.imul, 1) := by decide +kernel
theorem dX1_orderPlaces_80 : decode cX1_orderPlaces 80 = .ok (.iconst 1, 1) := by decide +kernel
theorem dX1_orderPlaces_81 : decode cX1_orderPlaces 81 = .ok (.isub, 1) := by decide +kernel
theorem dX1_orderPlaces_82 : decode cX1_orderPlaces 82 = .ok (.iload_n 3, 1) := by decide +kernel
theorem dX1_orderPlaces_83 : decode cX1_orderPlaces 83 = .ok (.isub, 1) := by decide +kernel
theorem dX1_orderPlaces_84 : decode cX1_orderPlaces 84 = .ok (.iastore, 1) := by decide +kernel
theorem dX1_orderPlaces_85 : decode cX1_orderPlaces 85 = .ok (.iinc 2 (-1), 3) := by decide +kernel
theorem dX1_orderPlaces_88 : decode cX1_orderPlaces 88 = .ok (.goto (-43), 3) := by decide +kernel
theorem dX1_orderPlaces_91 : decode cX1_orderPlaces 91 = .ok (.aload_n 0, 1) := by decide +kernel
theorem dX1_orderPlaces_92 : decode cX1_orderPlaces 92 = .ok (.dup, 1) := by decide +kernel
theorem dX1_orderPlaces_93 : decode cX1_orderPlaces 93 = .ok (.getfield 18, 3) := by decide +kernel
theorem dX1_orderPlaces_96 : decode cX1_orderPlaces 96 = .ok (.iconst 2, 1) := by decide +kernel
theorem dX1_orderPlaces_97 : decode cX1_orderPlaces 97 = .ok (.imul, 1) := by decide +kernel
theorem dX1_orderPlaces_98 : decode cX1_orderPlaces 98 = .ok (.putfield 18, 3) := by decide +kernel
theorem dX1_orderPlaces_101 : decode cX1_orderPlaces 101 = .ok (.goto (-82), 3) := by decide +kernel
theorem dX1_orderPlaces_104 : decode cX1_orderPlaces 104 = .ok (.return_, 1) := by decide +kernel
theorem dX1_passBye_0 : decode cX1_passBye 0 = .ok (.aload_n 0, 1) := by decide +kernel
theorem dX1_passBye_1 : decode cX1_passBye 1 = .ok (.iconst 2, 1) := by decide +kernel
theorem dX1_passBye_2 : decode cX1_passBye 2 = .ok (.iload_n 1, 1) := by decide +kernel
theorem dX1_passBye_3 : decode cX1_passBye 3 = .ok (.imul, 1) := by decide +kernel
theorem dX1_passBye_4 : decode cX1_passBye 4 = .ok (.invokevirtual 49, 3) := by decide +kernel
theorem dX1_passBye_7 : decode cX1_passBye 7 = .ok (.istore_n 2, 1) := by decide +kernel
theorem dX1_passBye_8 : decode cX1_passBye 8 = .ok (.aload_n 0, 1) := by decide +kernel
theorem dX1_passBye_9 : decode cX1_passBye 9 = .ok (.iconst 2, 1) := by decide +kernel
theorem dX1_passBye_10 : decode cX1_passBye 10 = .ok (.iload_n 1, 1) := by decide +kernel
theorem dX1_passBye_11 : decode cX1_passBye 11 = .ok (.imul, 1) := by decide +kernel
theorem dX1_passBye_12 : decode cX1_passBye 12 = .ok (.iconst 1, 1) := by decide +kernel
theorem dX1_passBye_13 : decode cX1_passBye 13 = .ok (.iadd, 1) := by decide +kernel
theorem dX1_passBye_14 : decode cX1_passBye 14 = .ok (.invokevirtual 49, 3) := by decide +kernel
theorem dX1_passBye_17 : decode cX1_passBye 17 = .ok (.istore_n 3, 1) := by decide +kernel
theorem dX1_passBye_18 : decode cX1_passBye 18 = .ok (.iload_n 2, 1) := by decide +kernel
theorem dX1_passBye_19 : decode cX1_passBye 19 = .ok (.iconst (-1), 1) := by decide +kernel
theorem dX1_passBye_20 : decode cX1_passBye 20 = .ok (.if_icmp .eq 8, 3) := by decide +kernel
theorem dX1_passBye_23 : decode cX1_passBye 23 = .ok (.iload_n 3, 1) := by decide +kernel
theorem dX1_passBye_24 : decode cX1_passBye 24 = .ok (.iconst (-1), 1) := by decide +kernel
theorem dX1_passBye_25 : decode cX1_passBye 25 = .ok (.if_icmp .ne 18, 3) := by decide +kernel
theorem dX1_passBye_28 : decode cX1_passBye 28 = .ok (.aload_n 0, 1) := by decide +kernel
theorem dX1_passBye_29 : decode cX1_passBye 29 = .ok (.iload_n 1, 1) := by decide +kernel
theorem dX1_passBye_30 : decode cX1_passBye 30 = .ok (.iload_n 2, 1) := by decide +kernel
theorem dX1_passBye_31 : decode cX1_passBye 31 = .ok (.iconst (-1), 1) := by decide +kernel
theorem dX1_passBye_32 : decode cX1_passBye 32 = .ok (.if_icmp .ne 7, 3) := by decide +kernel
theorem dX1_passBye_35 : decode cX1_passBye 35 = .ok (.iload_n 3, 1) := by decide +kernel
theorem dX1_passBye_36 : decode cX1_passBye 36 = .ok (.goto 4, 3) := by decide +kernel
theorem dX1_passBye_39 : decode cX1_passBye 39 = .ok (.iload_n 2, 1) := by decide +kernel
theorem dX1_passBye_40 : decode cX1_passBye 40 = .ok (.invokevirtual 39, 3) := by decide +kernel
theorem dX1_passBye_43 : decode cX1_passBye 43 = .ok (.return_, 1) := by decide +kernel
theorem dX1_at_0 : decode cX1_at 0 = .ok (.iload_n 1, 1) := by decide +kernel
theorem dX1_at_1 : decode cX1_at 1 = .ok (.ifCond .lt 21, 3) := by decide +kernel
theorem dX1_at_4 : decode cX1_at 4 = .ok (.iload_n 1, 1) := by decide +kernel
theorem dX1_at_5 : decode cX1_at 5 = .ok (.aload_n 0, 1) := by decide +kernel
theorem dX1_at_6 : decode cX1_at 6 = .ok (.getfield 11, 3) := by decide +kernel
theorem dX1_at_9 : decode cX1_at 9 = .ok (.arraylength, 1) := by decide +kernel
theorem dX1_at_10 : decode cX1_at 10 = .ok (.if_icmp .ge 12, 3) := by decide +kernel
theorem dX1_at_13 : decode cX1_at 13 = .ok (.aload_n 0, 1) := by decide +kernel
theorem dX1_at_14 : decode cX1_at 14 = .ok (.getfield 11, 3) := by decide +kernel
theorem dX1_at_17 : decode cX1_at 17 = .ok (.iload_n 1, 1) := by decide +kernel
theorem dX1_at_18 : decode cX1_at 18 = .ok (.iaload, 1) := by decide +kernel
theorem dX1_at_19 : decode cX1_at 19 = .ok (.goto 4, 3) := by decide +kernel
theorem dX1_at_22 : decode cX1_at 22 = .ok (.iconst (-1), 1) := by decide +kernel
theorem dX1_at_23 : decode cX1_at 23 = .ok (.ireturn, 1) := by decide +kernel
theorem dX1_put_0 : decode cX1_put 0 = .ok (.iload_n 1, 1) := by decide +kernel
theorem dX1_put_1 : decode cX1_put 1 = .ok (.ifCond .lt 19, 3) := by decide +kernel
theorem dX1_put_4 : decode cX1_put 4 = .ok (.iload_n 1, 1) := by decide +kernel
theorem dX1_put_5 : decode cX1_put 5 = .ok (.aload_n 0, 1) := by decide +kernel
theorem dX1_put_6 : decode cX1_put 6 = .ok (.getfield 11, 3) := by decide +kernel
theorem dX1_put_9 : decode cX1_put 9 = .ok (.arraylength, 1) := by decide +kernel
theorem dX1_put_10 : decode cX1_put 10 = .ok (.if_icmp .ge 10, 3) := by decide +kernel
theorem dX1_put_13 : decode cX1_put 13 = .ok (.aload_n 0, 1) := by decide +kernel
theorem dX1_put_14 : decode cX1_put 14 = .ok (.getfield 11, 3) := by decide +kernel
theorem dX1_put_17 : decode cX1_put 17 = .ok (.iload_n 1, 1) := by decide +kernel
theorem dX1_put_18 : decode cX1_put 18 = .ok (.iload_n 2, 1) := by decide +kernel
theorem dX1_put_19 : decode cX1_put 19 = .ok (.iastore, 1) := by decide +kernel
theorem dX1_put_20 : decode cX1_put 20 = .ok (.return_, 1) := by decide +kernel
theorem dX1_matchesIn_0 : decode cX1_matchesIn 0 = .ok (.iload_n 1, 1) := by decide +kernel
theorem dX1_matchesIn_1 : decode cX1_matchesIn 1 = .ok (.ifCond .lt 19, 3) := by decide +kernel
theorem dX1_matchesIn_4 : decode cX1_matchesIn 4 = .ok (.iload_n 1, 1) := by decide +kernel
theorem dX1_matchesIn_5 : decode cX1_matchesIn 5 = .ok (.iconst 3, 1) := by decide +kernel
theorem dX1_matchesIn_6 : decode cX1_matchesIn 6 = .ok (.if_icmp .gt 14, 3) := by decide +kernel
theorem dX1_matchesIn_9 : decode cX1_matchesIn 9 = .ok (.aload_n 0, 1) := by decide +kernel
theorem dX1_matchesIn_10 : decode cX1_matchesIn 10 = .ok (.getfield 18, 3) := by decide +kernel
theorem dX1_matchesIn_13 : decode cX1_matchesIn 13 = .ok (.iload_n 1, 1) := by decide +kernel
theorem dX1_matchesIn_14 : decode cX1_matchesIn 14 = .ok (.iconst 1, 1) := by decide +kernel
theorem dX1_matchesIn_15 : decode cX1_matchesIn 15 = .ok (.iadd, 1) := by decide +kernel
theorem dX1_matchesIn_16 : decode cX1_matchesIn 16 = .ok (.ishr, 1) := by decide +kernel
theorem dX1_matchesIn_17 : decode cX1_matchesIn 17 = .ok (.goto 4, 3) := by decide +kernel
theorem dX1_matchesIn_20 : decode cX1_matchesIn 20 = .ok (.iconst 0, 1) := by decide +kernel
theorem dX1_matchesIn_21 : decode cX1_matchesIn 21 = .ok (.ireturn, 1) := by decide +kernel
theorem dX1_hasMatch_0 : decode cX1_hasMatch 0 = .ok (.iload_n 2, 1) := by decide +kernel
theorem dX1_hasMatch_1 : decode cX1_hasMatch 1 = .ok (.ifCond .lt 16, 3) := by decide +kernel
theorem dX1_hasMatch_4 : decode cX1_hasMatch 4 = .ok (.iload_n 2, 1) := by decide +kernel
theorem dX1_hasMatch_5 : decode cX1_hasMatch 5 = .ok (.aload_n 0, 1) := by decide +kernel
theorem dX1_hasMatch_6 : decode cX1_hasMatch 6 = .ok (.iload_n 1, 1) := by decide +kernel
theorem dX1_hasMatch_7 : decode cX1_hasMatch 7 = .ok (.invokevirtual 52, 3) := by decide +kernel
theorem dX1_hasMatch_10 : decode cX1_hasMatch 10 = .ok (.if_icmp .ge 7, 3) := by decide +kernel
theorem dX1_hasMatch_13 : decode cX1_hasMatch 13 = .ok (.iconst 1, 1) := by decide +kernel
theorem dX1_hasMatch_14 : decode cX1_hasMatch 14 = .ok (.goto 4, 3) := by decide +kernel
theorem dX1_hasMatch_17 : decode cX1_hasMatch 17 = .ok (.iconst 0, 1) := by decide +kernel
theorem dX1_hasMatch_18 : decode cX1_hasMatch 18 = .ok (.ireturn, 1) := by decide +kernel
theorem dX1_nodeOf_0 : decode cX1_nodeOf 0 = .ok (.aload_n 0, 1) := by decide +kernel
theorem dX1_nodeOf_1 : decode cX1_nodeOf 1 = .ok (.iload_n 1, 1) := by decide +kernel
theorem dX1_nodeOf_2 : decode cX1_nodeOf 2 = .ok (.invokevirtual 52, 3) := by decide +kernel
theorem dX1_nodeOf_5 : decode cX1_nodeOf 5 = .ok (.iload_n 2, 1) := by decide +kernel
theorem dX1_nodeOf_6 : decode cX1_nodeOf 6 = .ok (.iadd, 1) := by decide +kernel
theorem dX1_nodeOf_7 : decode cX1_nodeOf 7 = .ok (.ireturn, 1) := by decide +kernel
theorem dX1_winnerOf_0 : decode cX1_winnerOf 0 = .ok (.aload_n 0, 1) := by decide +kernel
theorem dX1_winnerOf_1 : decode cX1_winnerOf 1 = .ok (.aload_n 0, 1) := by decide +kernel
theorem dX1_winnerOf_2 : decode cX1_winnerOf 2 = .ok (.iload_n 1, 1) := by decide +kernel
theorem dX1_winnerOf_3 : decode cX1_winnerOf 3 = .ok (.iload_n 2, 1) := by decide +kernel
theorem dX1_winnerOf_4 : decode cX1_winnerOf 4 = .ok (.invokevirtual 55, 3) := by decide +kernel
theorem dX1_winnerOf_7 : decode cX1_winnerOf 7 = .ok (.invokevirtual 49, 3) := by decide +kernel
theorem dX1_winnerOf_10 : decode cX1_winnerOf 10 = .ok (.ireturn, 1) := by decide +kernel
theorem dX1_fencerIn_0 : decode cX1_fencerIn 0 = .ok (.aload_n 0, 1) := by decide +kernel
theorem dX1_fencerIn_1 : decode cX1_fencerIn 1 = .ok (.iconst 2, 1) := by decide +kernel
theorem dX1_fencerIn_2 : decode cX1_fencerIn 2 = .ok (.aload_n 0, 1) := by decide +kernel
theorem dX1_fencerIn_3 : decode cX1_fencerIn 3 = .ok (.iload_n 1, 1) := by decide +kernel
theorem dX1_fencerIn_4 : decode cX1_fencerIn 4 = .ok (.iload_n 2, 1) := by decide +kernel
theorem dX1_fencerIn_5 : decode cX1_fencerIn 5 = .ok (.invokevirtual 55, 3) := by decide +kernel
theorem dX1_fencerIn_8 : decode cX1_fencerIn 8 = .ok (.imul, 1) := by decide +kernel
theorem dX1_fencerIn_9 : decode cX1_fencerIn 9 = .ok (.iload_n 3, 1) := by decide +kernel
theorem dX1_fencerIn_10 : decode cX1_fencerIn 10 = .ok (.iadd, 1) := by decide +kernel
theorem dX1_fencerIn_11 : decode cX1_fencerIn 11 = .ok (.invokevirtual 49, 3) := by decide +kernel
theorem dX1_fencerIn_14 : decode cX1_fencerIn 14 = .ok (.ireturn, 1) := by decide +kernel
theorem dX1_isOpen_0 : decode cX1_isOpen 0 = .ok (.aload_n 0, 1) := by decide +kernel
theorem dX1_isOpen_1 : decode cX1_isOpen 1 = .ok (.iload_n 1, 1) := by decide +kernel
theorem dX1_isOpen_2 : decode cX1_isOpen 2 = .ok (.iload_n 2, 1) := by decide +kernel
theorem dX1_isOpen_3 : decode cX1_isOpen 3 = .ok (.iconst 0, 1) := by decide +kernel
theorem dX1_isOpen_4 : decode cX1_isOpen 4 = .ok (.invokevirtual 59, 3) := by decide +kernel
theorem dX1_isOpen_7 : decode cX1_isOpen 7 = .ok (.iconst (-1), 1) := by decide +kernel
theorem dX1_isOpen_8 : decode cX1_isOpen 8 = .ok (.if_icmp .eq 18, 3) := by decide +kernel
theorem dX1_isOpen_11 : decode cX1_isOpen 11 = .ok (.aload_n 0, 1) := by decide +kernel
theorem dX1_isOpen_12 : decode cX1_isOpen 12 = .ok (.iload_n 1, 1) := by decide +kernel
theorem dX1_isOpen_13 : decode cX1_isOpen 13 = .ok (.iload_n 2, 1) := by decide +kernel
theorem dX1_isOpen_14 : decode cX1_isOpen 14 = .ok (.iconst 1, 1) := by decide +kernel
theorem dX1_isOpen_15 : decode cX1_isOpen 15 = .ok (.invokevirtual 59, 3) := by decide +kernel
theorem dX1_isOpen_18 : decode cX1_isOpen 18 = .ok (.iconst (-1), 1) := by decide +kernel
theorem dX1_isOpen_19 : decode cX1_isOpen 19 = .ok (.if_icmp .eq 7, 3) := by decide +kernel
theorem dX1_isOpen_22 : decode cX1_isOpen 22 = .ok (.iconst 1, 1) := by decide +kernel
theorem dX1_isOpen_23 : decode cX1_isOpen 23 = .ok (.goto 4, 3) := by decide +kernel
theorem dX1_isOpen_26 : decode cX1_isOpen 26 = .ok (.iconst 0, 1) := by decide +kernel
theorem dX1_isOpen_27 : decode cX1_isOpen 27 = .ok (.istore_n 3, 1) := by decide +kernel
theorem dX1_isOpen_28 : decode cX1_isOpen 28 = .ok (.iload_n 3, 1) := by decide +kernel
theorem dX1_isOpen_29 : decode cX1_isOpen 29 = .ok (.ifCond .eq 17, 3) := by decide +kernel
theorem dX1_isOpen_32 : decode cX1_isOpen 32 = .ok (.aload_n 0, 1) := by decide +kernel
theorem dX1_isOpen_33 : decode cX1_isOpen 33 = .ok (.iload_n 1, 1) := by decide +kernel
theorem dX1_isOpen_34 : decode cX1_isOpen 34 = .ok (.iload_n 2, 1) := by decide +kernel
theorem dX1_isOpen_35 : decode cX1_isOpen 35 = .ok (.invokevirtual 63, 3) := by decide +kernel
theorem dX1_isOpen_38 : decode cX1_isOpen 38 = .ok (.iconst (-1), 1) := by decide +kernel
theorem dX1_isOpen_39 : decode cX1_isOpen 39 = .ok (.if_icmp .ne 7, 3) := by decide +kernel
theorem dX1_isOpen_42 : decode cX1_isOpen 42 = .ok (.iconst 1, 1) := by decide +kernel
theorem dX1_isOpen_43 : decode cX1_isOpen 43 = .ok (.goto 4, 3) := by decide +kernel
theorem dX1_isOpen_46 : decode cX1_isOpen 46 = .ok (.iconst 0, 1) := by decide +kernel
theorem dX1_isOpen_47 : decode cX1_isOpen 47 = .ok (.ireturn, 1) := by decide +kernel
theorem dX1_settle_0 : decode cX1_settle 0 = .ok (.aload_n 0, 1) := by decide +kernel
theorem dX1_settle_1 : decode cX1_settle 1 = .ok (.iload_n 1, 1) := by decide +kernel
theorem dX1_settle_2 : decode cX1_settle 2 = .ok (.iload_n 2, 1) := by decide +kernel
theorem dX1_settle_3 : decode cX1_settle 3 = .ok (.iload_n 3, 1) := by decide +kernel
theorem dX1_settle_4 : decode cX1_settle 4 = .ok (.invokevirtual 59, 3) := by decide +kernel
theorem dX1_settle_7 : decode cX1_settle 7 = .ok (.istore 4, 2) := by decide +kernel
theorem dX1_settle_9 : decode cX1_settle 9 = .ok (.aload_n 0, 1) := by decide +kernel
theorem dX1_settle_10 : decode cX1_settle 10 = .ok (.aload_n 0, 1) := by decide +kernel
theorem dX1_settle_11 : decode cX1_settle 11 = .ok (.iload_n 1, 1) := by decide +kernel
theorem dX1_settle_12 : decode cX1_settle 12 = .ok (.iload_n 2, 1) := by decide +kernel
theorem dX1_settle_13 : decode cX1_settle 13 = .ok (.invokevirtual 55, 3) := by decide +kernel
theorem dX1_settle_16 : decode cX1_settle 16 = .ok (.iload 4, 2) := by decide +kernel
theorem dX1_settle_18 : decode cX1_settle 18 = .ok (.invokevirtual 39, 3) := by decide +kernel
theorem dX1_settle_21 : decode cX1_settle 21 = .ok (.iload 4, 2) := by decide +kernel
theorem dX1_settle_23 : decode cX1_settle 23 = .ok (.ireturn, 1) := by decide +kernel
theorem dX2_init_0 : decode cX2_init 0 = .ok (.aload_n 0, 1) := by decide +kernel
theorem dX2_init_1 : decode cX2_init 1 = .ok (.invokespecial 3, 3) := by decide +kernel
theorem dX2_init_4 : decode cX2_init 4 = .ok (.aload_n 0, 1) := by decide +kernel
theorem dX2_init_5 : decode cX2_init 5 = .ok (.iconst 0, 1) := by decide +kernel
theorem dX2_init_6 : decode cX2_init 6 = .ok (.putfield 9, 3) := by decide +kernel
theorem dX2_init_9 : decode cX2_init 9 = .ok (.aload_n 0, 1) := by decide +kernel
theorem dX2_init_10 : decode cX2_init 10 = .ok (.iconst 0, 1) := by decide +kernel
theorem dX2_init_11 : decode cX2_init 11 = .ok (.putfield 15, 3) := by decide +kernel
theorem dX2_init_14 : decode cX2_init 14 = .ok (.aload_n 0, 1) := by decide +kernel
theorem dX2_init_15 : decode cX2_init 15 = .ok (.iconst 0, 1) := by decide +kernel
theorem dX2_init_16 : decode cX2_init 16 = .ok (.putfield 19, 3) := by decide +kernel
theorem dX2_init_19 : decode cX2_init 19 = .ok (.aload_n 0, 1) := by decide +kernel
theorem dX2_init_20 : decode cX2_init 20 = .ok (.iload_n 1, 1) := by decide +kernel
theorem dX2_init_21 : decode cX2_init 21 = .ok (.putfield 22, 3) := by decide +kernel
theorem dX2_init_24 : decode cX2_init 24 = .ok (.return_, 1) := by decide +kernel
theorem dX2_colourFor_0 : decode cX2_colourFor 0 = .ok (.iload_n 1, 1) := by decide +kernel
theorem dX2_colourFor_1 : decode cX2_colourFor 1 = .ok (.iconst 1, 1) := by decide +kernel
theorem dX2_colourFor_2 : decode cX2_colourFor 2 = .ok (.if_icmp .ne 16, 3) := by decide +kernel
theorem dX2_colourFor_5 : decode cX2_colourFor 5 = .ok (.aload_n 0, 1) := by decide +kernel
theorem dX2_colourFor_6 : decode cX2_colourFor 6 = .ok (.getfield 15, 3) := by decide +kernel
theorem dX2_colourFor_9 : decode cX2_colourFor 9 = .ok (.ifCond .eq 7, 3) := by decide +kernel
theorem dX2_colourFor_12 : decode cX2_colourFor 12 = .ok (.iconst 2, 1) := by decide +kernel
theorem dX2_colourFor_13 : decode cX2_colourFor 13 = .ok (.goto 4, 3) := by decide +kernel
theorem dX2_colourFor_16 : decode cX2_colourFor 16 = .ok (.iconst 1, 1) := by decide +kernel
theorem dX2_colourFor_17 : decode cX2_colourFor 17 = .ok (.ireturn, 1) := by decide +kernel
theorem dX2_colourFor_18 : decode cX2_colourFor 18 = .ok (.iload_n 1, 1) := by decide +kernel
theorem dX2_colourFor_19 : decode cX2_colourFor 19 = .ok (.iconst 3, 1) := by decide +kernel
theorem dX2_colourFor_20 : decode cX2_colourFor 20 = .ok (.if_icmp .ne 14, 3) := by decide +kernel
theorem dX2_colourFor_23 : decode cX2_colourFor 23 = .ok (.aload_n 0, 1) := by decide +kernel
theorem dX2_colourFor_24 : decode cX2_colourFor 24 = .ok (.getfield 19, 3) := by decide +kernel
theorem dX2_colourFor_27 : decode cX2_colourFor 27 = .ok (.ifCond .eq 7, 3) := by decide +kernel
theorem dX2_colourFor_30 : decode cX2_colourFor 30 = .ok (.iconst 3, 1) := by decide +kernel
theorem dX2_colourFor_31 : decode cX2_colourFor 31 = .ok (.goto 4, 3) := by decide +kernel
theorem dX2_colourFor_34 : decode cX2_colourFor 34 = .ok (.iconst 2, 1) := by decide +kernel
theorem dX2_colourFor_35 : decode cX2_colourFor 35 = .ok (.ireturn, 1) := by decide +kernel
theorem dX2_note_0 : decode cX2_note 0 = .ok (.aload_n 0, 1) := by decide +kernel
theorem dX2_note_1 : decode cX2_note 1 = .ok (.iconst 1, 1) := by decide +kernel
theorem dX2_note_2 : decode cX2_note 2 = .ok (.putfield 15, 3) := by decide +kernel
theorem dX2_note_5 : decode cX2_note 5 = .ok (.iload_n 1, 1) := by decide +kernel
theorem dX2_note_6 : decode cX2_note 6 = .ok (.iconst 3, 1) := by decide +kernel
theorem dX2_note_7 : decode cX2_note 7 = .ok (.if_icmp .ne 8, 3) := by decide +kernel
theorem dX2_note_10 : decode cX2_note 10 = .ok (.aload_n 0, 1) := by decide +kernel
theorem dX2_note_11 : decode cX2_note 11 = .ok (.iconst 1, 1) := by decide +kernel
theorem dX2_note_12 : decode cX2_note 12 = .ok (.putfield 19, 3) := by decide +kernel
theorem dX2_note_15 : decode cX2_note 15 = .ok (.return_, 1) := by decide +kernel
theorem dX3_init_0 : decode cX3_init 0 = .ok (.aload_n 0, 1) := by decide +kernel
theorem dX3_init_1 : decode cX3_init 1 = .ok (.invokespecial 1, 3) := by decide +kernel
theorem dX3_init_4 : decode cX3_init 4 = .ok (.aload_n 0, 1) := by decide +kernel
theorem dX3_init_5 : decode cX3_init 5 = .ok (.lconst 0, 1) := by decide +kernel
theorem dX3_init_6 : decode cX3_init 6 = .ok (.putfield 7, 3) := by decide +kernel
theorem dX3_init_9 : decode cX3_init 9 = .ok (.return_, 1) := by decide +kernel
theorem dX3_draw_0 : decode cX3_draw 0 = .ok (.aload_n 0, 1) := by decide +kernel
theorem dX3_draw_1 : decode cX3_draw 1 = .ok (.ldc2_w 13, 3) := by decide +kernel
theorem dX3_draw_4 : decode cX3_draw 4 = .ok (.aload_n 0, 1) := by decide +kernel
theorem dX3_draw_5 : decode cX3_draw 5 = .ok (.getfield 7, 3) := by decide +kernel
theorem dX3_draw_8 : decode cX3_draw 8 = .ok (.lmul, 1) := by decide +kernel
theorem dX3_draw_9 : decode cX3_draw 9 = .ok (.ldc2_w 15, 3) := by decide +kernel
theorem dX3_draw_12 : decode cX3_draw 12 = .ok (.ladd, 1) := by decide +kernel
theorem dX3_draw_13 : decode cX3_draw 13 = .ok (.ldc2_w 17, 3) := by decide +kernel
theorem dX3_draw_16 : decode cX3_draw 16 = .ok (.lrem, 1) := by decide +kernel
theorem dX3_draw_17 : decode cX3_draw 17 = .ok (.putfield 7, 3) := by decide +kernel
theorem dX3_draw_20 : decode cX3_draw 20 = .ok (.aload_n 0, 1) := by decide +kernel
theorem dX3_draw_21 : decode cX3_draw 21 = .ok (.getfield 7, 3) := by decide +kernel
theorem dX3_draw_24 : decode cX3_draw 24 = .ok (.ldc2_w 19, 3) := by decide +kernel
theorem dX3_draw_27 : decode cX3_draw 27 = .ok (.ldiv, 1) := by decide +kernel
theorem dX3_draw_28 : decode cX3_draw 28 = .ok (.ldc2_w 21, 3) := by decide +kernel
theorem dX3_draw_31 : decode cX3_draw 31 = .ok (.lrem, 1) := by decide +kernel
theorem dX3_draw_32 : decode cX3_draw 32 = .ok (.l2i, 1) := by decide +kernel
theorem dX3_draw_33 : decode cX3_draw 33 = .ok (.ireturn, 1) := by decide +kernel
theorem dX4_init_0 : decode cX4_init 0 = .ok (.aload_n 0, 1) := by decide +kernel
theorem dX4_init_1 : decode cX4_init 1 = .ok (.invokespecial 3, 3) := by decide +kernel
theorem dX4_init_4 : decode cX4_init 4 = .ok (.aload_n 0, 1) := by decide +kernel
theorem dX4_init_5 : decode cX4_init 5 = .ok (.bipush 24, 2) := by decide +kernel
theorem dX4_init_7 : decode cX4_init 7 = .ok (.newarray .int, 2) := by decide +kernel
theorem dX4_init_9 : decode cX4_init 9 = .ok (.putfield 11, 3) := by decide +kernel
theorem dX4_init_12 : decode cX4_init 12 = .ok (.aload_n 0, 1) := by decide +kernel
theorem dX4_init_13 : decode cX4_init 13 = .ok (.bipush 24, 2) := by decide +kernel
theorem dX4_init_15 : decode cX4_init 15 = .ok (.newarray .int, 2) := by decide +kernel
theorem dX4_init_17 : decode cX4_init 17 = .ok (.putfield 15, 3) := by decide +kernel
theorem dX4_init_20 : decode cX4_init 20 = .ok (.aload_n 0, 1) := by decide +kernel
theorem dX4_init_21 : decode cX4_init 21 = .ok (.bipush 24, 2) := by decide +kernel
theorem dX4_init_23 : decode cX4_init 23 = .ok (.newarray .int, 2) := by decide +kernel
theorem dX4_init_25 : decode cX4_init 25 = .ok (.putfield 18, 3) := by decide +kernel
theorem dX4_init_28 : decode cX4_init 28 = .ok (.aload_n 0, 1) := by decide +kernel
theorem dX4_init_29 : decode cX4_init 29 = .ok (.bipush 24, 2) := by decide +kernel
theorem dX4_init_31 : decode cX4_init 31 = .ok (.newarray .int, 2) := by decide +kernel
theorem dX4_init_33 : decode cX4_init 33 = .ok (.putfield 21, 3) := by decide +kernel
theorem dX4_init_36 : decode cX4_init 36 = .ok (.aload_n 0, 1) := by decide +kernel
theorem dX4_init_37 : decode cX4_init 37 = .ok (.bipush 24, 2) := by decide +kernel
theorem dX4_init_39 : decode cX4_init 39 = .ok (.newarray .int, 2) := by decide +kernel
theorem dX4_init_41 : decode cX4_init 41 = .ok (.putfield 24, 3) := by decide +kernel
theorem dX4_init_44 : decode cX4_init 44 = .ok (.aload_n 0, 1) := by decide +kernel
theorem dX4_init_45 : decode cX4_init 45 = .ok (.new 27, 3) := by decide +kernel
theorem dX4_init_48 : decode cX4_init 48 = .ok (.dup, 1) := by decide +kernel
theorem dX4_init_49 : decode cX4_init 49 = .ok (.invokespecial 29, 3) := by decide +kernel
theorem dX4_init_52 : decode cX4_init 52 = .ok (.putfield 30, 3) := by decide +kernel
theorem dX4_init_55 : decode cX4_init 55 = .ok (.aload_n 0, 1) := by decide +kernel
theorem dX4_init_56 : decode cX4_init 56 = .ok (.iconst 0, 1) := by decide +kernel
theorem dX4_init_57 : decode cX4_init 57 = .ok (.putfield 34, 3) := by decide +kernel
theorem dX4_init_60 : decode cX4_init 60 = .ok (.return_, 1) := by decide +kernel
theorem dX4_empty_0 : decode cX4_empty 0 = .ok (.aload_n 0, 1) := by decide +kernel
theorem dX4_empty_1 : decode cX4_empty 1 = .ok (.iconst 0, 1) := by decide +kernel
theorem dX4_empty_2 : decode cX4_empty 2 = .ok (.putfield 34, 3) := by decide +kernel
theorem dX4_empty_5 : decode cX4_empty 5 = .ok (.return_, 1) := by decide +kernel
theorem dX4_isFull_0 : decode cX4_isFull 0 = .ok (.aload_n 0, 1) := by decide +kernel
theorem dX4_isFull_1 : decode cX4_isFull 1 = .ok (.getfield 34, 3) := by decide +kernel
theorem dX4_isFull_4 : decode cX4_isFull 4 = .ok (.bipush 24, 2) := by decide +kernel
theorem dX4_isFull_6 : decode cX4_isFull 6 = .ok (.if_icmp .lt 7, 3) := by decide +kernel
theorem dX4_isFull_9 : decode cX4_isFull 9 = .ok (.iconst 1, 1) := by decide +kernel
theorem dX4_isFull_10 : decode cX4_isFull 10 = .ok (.goto 4, 3) := by decide +kernel
theorem dX4_isFull_13 : decode cX4_isFull 13 = .ok (.iconst 0, 1) := by decide +kernel
theorem dX4_isFull_14 : decode cX4_isFull 14 = .ok (.ireturn, 1) := by decide +kernel
theorem dX4_lastTime_0 : decode cX4_lastTime 0 = .ok (.aload_n 0, 1) := by decide +kernel
theorem dX4_lastTime_1 : decode cX4_lastTime 1 = .ok (.getfield 34, 3) := by decide +kernel
theorem dX4_lastTime_4 : decode cX4_lastTime 4 = .ok (.ifCond .ne 7, 3) := by decide +kernel
theorem dX4_lastTime_7 : decode cX4_lastTime 7 = .ok (.iconst 0, 1) := by decide +kernel
theorem dX4_lastTime_8 : decode cX4_lastTime 8 = .ok (.goto 13, 3) := by decide +kernel
theorem dX4_lastTime_11 : decode cX4_lastTime 11 = .ok (.aload_n 0, 1) := by decide +kernel
theorem dX4_lastTime_12 : decode cX4_lastTime 12 = .ok (.aload_n 0, 1) := by decide +kernel
theorem dX4_lastTime_13 : decode cX4_lastTime 13 = .ok (.getfield 34, 3) := by decide +kernel
theorem dX4_lastTime_16 : decode cX4_lastTime 16 = .ok (.iconst 1, 1) := by decide +kernel
theorem dX4_lastTime_17 : decode cX4_lastTime 17 = .ok (.isub, 1) := by decide +kernel
theorem dX4_lastTime_18 : decode cX4_lastTime 18 = .ok (.invokevirtual 38, 3) := by decide +kernel
theorem dX4_lastTime_21 : decode cX4_lastTime 21 = .ok (.ireturn, 1) := by decide +kernel
theorem dX4_addAction_0 : decode cX4_addAction 0 = .ok (.aload_n 0, 1) := by decide +kernel
theorem dX4_addAction_1 : decode cX4_addAction 1 = .ok (.iload_n 1, 1) := by decide +kernel
theorem dX4_addAction_2 : decode cX4_addAction 2 = .ok (.iload_n 2, 1) := by decide +kernel
theorem dX4_addAction_3 : decode cX4_addAction 3 = .ok (.iload_n 3, 1) := by decide +kernel
theorem dX4_addAction_4 : decode cX4_addAction 4 = .ok (.iconst 0, 1) := by decide +kernel
theorem dX4_addAction_5 : decode cX4_addAction 5 = .ok (.iconst (-1), 1) := by decide +kernel
theorem dX4_addAction_6 : decode cX4_addAction 6 = .ok (.invokevirtual 42, 3) := by decide +kernel
theorem dX4_addAction_9 : decode cX4_addAction 9 = .ok (.ireturn, 1) := by decide +kernel
theorem dX4_addContact_0 : decode cX4_addContact 0 = .ok (.aload_n 0, 1) := by decide +kernel
theorem dX4_addContact_1 : decode cX4_addContact 1 = .ok (.iload_n 1, 1) := by decide +kernel
theorem dX4_addContact_2 : decode cX4_addContact 2 = .ok (.iconst (-1), 1) := by decide +kernel
theorem dX4_addContact_3 : decode cX4_addContact 3 = .ok (.iload_n 2, 1) := by decide +kernel
theorem dX4_addContact_4 : decode cX4_addContact 4 = .ok (.iload_n 3, 1) := by decide +kernel
theorem dX4_addContact_5 : decode cX4_addContact 5 = .ok (.iload 4, 2) := by decide +kernel
theorem dX4_addContact_7 : decode cX4_addContact 7 = .ok (.invokevirtual 42, 3) := by decide +kernel
theorem dX4_addContact_10 : decode cX4_addContact 10 = .ok (.ireturn, 1) := by decide +kernel
theorem dX4_append_0 : decode cX4_append 0 = .ok (.aload_n 0, 1) := by decide +kernel
theorem dX4_append_1 : decode cX4_append 1 = .ok (.getfield 34, 3) := by decide +kernel
theorem dX4_append_4 : decode cX4_append 4 = .ok (.ifCond .lt 74, 3) := by decide +kernel
theorem dX4_append_7 : decode cX4_append 7 = .ok (.aload_n 0, 1) := by decide +kernel
theorem dX4_append_8 : decode cX4_append 8 = .ok (.getfield 34, 3) := by decide +kernel
theorem dX4_append_11 : decode cX4_append 11 = .ok (.bipush 24, 2) := by decide +kernel
theorem dX4_append_13 : decode cX4_append 13 = .ok (.if_icmp .ge 65, 3) := by decide +kernel
theorem dX4_append_16 : decode cX4_append 16 = .ok (.aload_n 0, 1) := by decide +kernel
theorem dX4_append_17 : decode cX4_append 17 = .ok (.getfield 11, 3) := by decide +kernel
theorem dX4_append_20 : decode cX4_append 20 = .ok (.aload_n 0, 1) := by decide +kernel
theorem dX4_append_21 : decode cX4_append 21 = .ok (.getfield 34, 3) := by decide +kernel
theorem dX4_append_24 : decode cX4_append 24 = .ok (.iload_n 1, 1) := by decide +kernel
theorem dX4_append_25 : decode cX4_append 25 = .ok (.iastore, 1) := by decide +kernel
theorem dX4_append_26 : decode cX4_append 26 = .ok (.aload_n 0, 1) := by decide +kernel
theorem dX4_append_27 : decode cX4_append 27 = .ok (.getfield 15, 3) := by decide +kernel
theorem dX4_append_30 : decode cX4_append 30 = .ok (.aload_n 0, 1) := by decide +kernel
theorem dX4_append_31 : decode cX4_append 31 = .ok (.getfield 34, 3) := by decide +kernel
theorem dX4_append_34 : decode cX4_append 34 = .ok (.iload_n 2, 1) := by decide +kernel
theorem dX4_append_35 : decode cX4_append 35 = .ok (.iastore, 1) := by decide +kernel
theorem dX4_append_36 : decode cX4_append 36 = .ok (.aload_n 0, 1) := by decide +kernel
theorem dX4_append_37 : decode cX4_append 37 = .ok (.getfield 18, 3) := by decide +kernel
theorem dX4_append_40 : decode cX4_append 40 = .ok (.aload_n 0, 1) := by decide +kernel
theorem dX4_append_41 : decode cX4_append 41 = .ok (.getfield 34, 3) := by decide +kernel
theorem dX4_append_44 : decode cX4_append 44 = .ok (.iload_n 3, 1) := by decide +kernel
theorem dX4_append_45 : decode cX4_append 45 = .ok (.iastore, 1) := by decide +kernel
theorem dX4_append_46 : decode cX4_append 46 = .ok (.aload_n 0, 1) := by decide +kernel
theorem dX4_append_47 : decode cX4_append 47 = .ok (.getfield 21, 3) := by decide +kernel
theorem dX4_append_50 : decode cX4_append 50 = .ok (.aload_n 0, 1) := by decide +kernel
theorem dX4_append_51 : decode cX4_append 51 = .ok (.getfield 34, 3) := by decide +kernel
theorem dX4_append_54 : decode cX4_append 54 = .ok (.iload 4, 2) := by decide +kernel
theorem dX4_append_56 : decode cX4_append 56 = .ok (.iastore, 1) := by decide +kernel
theorem dX4_append_57 : decode cX4_append 57 = .ok (.aload_n 0, 1) := by decide +kernel
theorem dX4_append_58 : decode cX4_append 58 = .ok (.getfield 24, 3) := by decide +kernel
theorem dX4_append_61 : decode cX4_append 61 = .ok (.aload_n 0, 1) := by decide +kernel
theorem dX4_append_62 : decode cX4_append 62 = .ok (.getfield 34, 3) := by decide +kernel
theorem dX4_append_65 : decode cX4_append 65 = .ok (.iload 5, 2) := by decide +kernel
theorem dX4_append_67 : decode cX4_append 67 = .ok (.iastore, 1) := by decide +kernel
theorem dX4_append_68 : decode cX4_append 68 = .ok (.aload_n 0, 1) := by decide +kernel
theorem dX4_append_69 : decode cX4_append 69 = .ok (.dup, 1) := by decide +kernel
theorem dX4_append_70 : decode cX4_append 70 = .ok (.getfield 34, 3) := by decide +kernel
theorem dX4_append_73 : decode cX4_append 73 = .ok (.iconst 1, 1) := by decide +kernel
theorem dX4_append_74 : decode cX4_append 74 = .ok (.iadd, 1) := by decide +kernel
theorem dX4_append_75 : decode cX4_append 75 = .ok (.putfield 34, 3) := by decide +kernel
theorem dX4_append_78 : decode cX4_append 78 = .ok (.aload_n 0, 1) := by decide +kernel
theorem dX4_append_79 : decode cX4_append 79 = .ok (.getfield 34, 3) := by decide +kernel
theorem dX4_append_82 : decode cX4_append 82 = .ok (.ireturn, 1) := by decide +kernel
theorem dX4_isEntry_0 : decode cX4_isEntry 0 = .ok (.iload_n 1, 1) := by decide +kernel
theorem dX4_isEntry_1 : decode cX4_isEntry 1 = .ok (.ifCond .lt 21, 3) := by decide +kernel
theorem dX4_isEntry_4 : decode cX4_isEntry 4 = .ok (.iload_n 1, 1) := by decide +kernel
theorem dX4_isEntry_5 : decode cX4_isEntry 5 = .ok (.aload_n 0, 1) := by decide +kernel
theorem dX4_isEntry_6 : decode cX4_isEntry 6 = .ok (.getfield 34, 3) := by decide +kernel
theorem dX4_isEntry_9 : decode cX4_isEntry 9 = .ok (.if_icmp .ge 13, 3) := by decide +kernel
theorem dX4_isEntry_12 : decode cX4_isEntry 12 = .ok (.iload_n 1, 1) := by decide +kernel
theorem dX4_isEntry_13 : decode cX4_isEntry 13 = .ok (.bipush 24, 2) := by decide +kernel
theorem dX4_isEntry_15 : decode cX4_isEntry 15 = .ok (.if_icmp .ge 7, 3) := by decide +kernel
theorem dX4_isEntry_18 : decode cX4_isEntry 18 = .ok (.iconst 1, 1) := by decide +kernel
theorem dX4_isEntry_19 : decode cX4_isEntry 19 = .ok (.goto 4, 3) := by decide +kernel
theorem dX4_isEntry_22 : decode cX4_isEntry 22 = .ok (.iconst 0, 1) := by decide +kernel
theorem dX4_isEntry_23 : decode cX4_isEntry 23 = .ok (.ireturn, 1) := by decide +kernel
theorem dX4_timeAt_0 : decode cX4_timeAt 0 = .ok (.aload_n 0, 1) := by decide +kernel
theorem dX4_timeAt_1 : decode cX4_timeAt 1 = .ok (.iload_n 1, 1) := by decide +kernel
theorem dX4_timeAt_2 : decode cX4_timeAt 2 = .ok (.invokevirtual 46, 3) := by decide +kernel
theorem dX4_timeAt_5 : decode cX4_timeAt 5 = .ok (.ifCond .eq 12, 3) := by decide +kernel
theorem dX4_timeAt_8 : decode cX4_timeAt 8 = .ok (.aload_n 0, 1) := by decide +kernel
theorem dX4_timeAt_9 : decode cX4_timeAt 9 = .ok (.getfield 18, 3) := by decide +kernel
theorem dX4_timeAt_12 : decode cX4_timeAt 12 = .ok (.iload_n 1, 1) := by decide +kernel
theorem dX4_timeAt_13 : decode cX4_timeAt 13 = .ok (.iaload, 1) := by decide +kernel
theorem dX4_timeAt_14 : decode cX4_timeAt 14 = .ok (.goto 4, 3) := by decide +kernel
theorem dX4_timeAt_17 : decode cX4_timeAt 17 = .ok (.iconst 0, 1) := by decide +kernel
theorem dX4_timeAt_18 : decode cX4_timeAt 18 = .ok (.ireturn, 1) := by decide +kernel
theorem dX4_targetAt_0 : decode cX4_targetAt 0 = .ok (.aload_n 0, 1) := by decide +kernel
theorem dX4_targetAt_1 : decode cX4_targetAt 1 = .ok (.iload_n 1, 1) := by decide +kernel
theorem dX4_targetAt_2 : decode cX4_targetAt 2 = .ok (.invokevirtual 46, 3) := by decide +kernel
theorem dX4_targetAt_5 : decode cX4_targetAt 5 = .ok (.ifCond .eq 12, 3) := by decide +kernel
theorem dX4_targetAt_8 : decode cX4_targetAt 8 = .ok (.aload_n 0, 1) := by decide +kernel
theorem dX4_targetAt_9 : decode cX4_targetAt 9 = .ok (.getfield 24, 3) := by decide +kernel
theorem dX4_targetAt_12 : decode cX4_targetAt 12 = .ok (.iload_n 1, 1) := by decide +kernel
theorem dX4_targetAt_13 : decode cX4_targetAt 13 = .ok (.iaload, 1) := by decide +kernel
theorem dX4_targetAt_14 : decode cX4_targetAt 14 = .ok (.goto 4, 3) := by decide +kernel
theorem dX4_targetAt_17 : decode cX4_targetAt 17 = .ok (.iconst (-1), 1) := by decide +kernel
theorem dX4_targetAt_18 : decode cX4_targetAt 18 = .ok (.ireturn, 1) := by decide +kernel
theorem dX4_registered_0 : decode cX4_registered 0 = .ok (.iconst (-1), 1) := by decide +kernel
theorem dX4_registered_1 : decode cX4_registered 1 = .ok (.istore_n 3, 1) := by decide +kernel
theorem dX4_registered_2 : decode cX4_registered 2 = .ok (.iconst 0, 1) := by decide +kernel
theorem dX4_registered_3 : decode cX4_registered 3 = .ok (.istore 4, 2) := by decide +kernel
theorem dX4_registered_5 : decode cX4_registered 5 = .ok (.iload 4, 2) := by decide +kernel
theorem dX4_registered_7 : decode cX4_registered 7 = .ok (.aload_n 0, 1) := by decide +kernel
theorem dX4_registered_8 : decode cX4_registered 8 = .ok (.getfield 34, 3) := by decide +kernel
theorem dX4_registered_11 : decode cX4_registered 11 = .ok (.if_icmp .ge 74, 3) := by decide +kernel
theorem dX4_registered_14 : decode cX4_registered 14 = .ok (.aload_n 0, 1) := by decide +kernel
theorem dX4_registered_15 : decode cX4_registered 15 = .ok (.iload 4, 2) := by decide +kernel
theorem dX4_registered_17 : decode cX4_registered 17 = .ok (.invokevirtual 46, 3) := by decide +kernel
theorem dX4_registered_20 : decode cX4_registered 20 = .ok (.ifCond .eq 59, 3) := by decide +kernel
theorem dX4_registered_23 : decode cX4_registered 23 = .ok (.aload_n 0, 1) := by decide +kernel
theorem dX4_registered_24 : decode cX4_registered 24 = .ok (.iload 4, 2) := by decide +kernel
theorem dX4_registered_26 : decode cX4_registered 26 = .ok (.iload_n 2, 1) := by decide +kernel
theorem dX4_registered_27 : decode cX4_registered 27 = .ok (.invokevirtual 50, 3) := by decide +kernel
theorem dX4_registered_30 : decode cX4_registered 30 = .ok (.ifCond .eq 49, 3) := by decide +kernel
theorem dX4_registered_33 : decode cX4_registered 33 = .ok (.iload_n 3, 1) := by decide +kernel
theorem dX4_registered_34 : decode cX4_registered 34 = .ok (.iconst (-1), 1) := by decide +kernel
theorem dX4_registered_35 : decode cX4_registered 35 = .ok (.if_icmp .ne 8, 3) := by decide +kernel
theorem dX4_registered_38 : decode cX4_registered 38 = .ok (.iload 4, 2) := by decide +kernel
theorem dX4_registered_40 : decode cX4_registered 40 = .ok (.goto 4, 3) := by decide +kernel
theorem dX4_registered_43 : decode cX4_registered 43 = .ok (.iload_n 3, 1) := by decide +kernel
theorem dX4_registered_44 : decode cX4_registered 44 = .ok (.istore_n 3, 1) := by decide +kernel
theorem dX4_registered_45 : decode cX4_registered 45 = .ok (.aload_n 0, 1) := by decide +kernel
theorem dX4_registered_46 : decode cX4_registered 46 = .ok (.getfield 11, 3) := by decide +kernel
theorem dX4_registered_49 : decode cX4_registered 49 = .ok (.iload 4, 2) := by decide +kernel
theorem dX4_registered_51 : decode cX4_registered 51 = .ok (.iaload, 1) := by decide +kernel
theorem dX4_registered_52 : decode cX4_registered 52 = .ok (.iload_n 1, 1) := by decide +kernel
theorem dX4_registered_53 : decode cX4_registered 53 = .ok (.if_icmp .ne 26, 3) := by decide +kernel
theorem dX4_registered_56 : decode cX4_registered 56 = .ok (.aload_n 0, 1) := by decide +kernel
theorem dX4_registered_57 : decode cX4_registered 57 = .ok (.getfield 18, 3) := by decide +kernel
theorem dX4_registered_60 : decode cX4_registered 60 = .ok (.iload 4, 2) := by decide +kernel
theorem dX4_registered_62 : decode cX4_registered 62 = .ok (.iaload, 1) := by decide +kernel
theorem dX4_registered_63 : decode cX4_registered 63 = .ok (.aload_n 0, 1) := by decide +kernel
theorem dX4_registered_64 : decode cX4_registered 64 = .ok (.iload_n 3, 1) := by decide +kernel
theorem dX4_registered_65 : decode cX4_registered 65 = .ok (.invokevirtual 38, 3) := by decide +kernel
theorem dX4_registered_68 : decode cX4_registered 68 = .ok (.isub, 1) := by decide +kernel
theorem dX4_registered_69 : decode cX4_registered 69 = .ok (.iload_n 2, 1) := by decide +kernel
theorem dX4_registered_70 : decode cX4_registered 70 = .ok (.invokestatic 54, 3) := by decide +kernel
theorem dX4_registered_73 : decode cX4_registered 73 = .ok (.if_icmp .gt 6, 3) := by decide +kernel
theorem dX4_registered_76 : decode cX4_registered 76 = .ok (.iload 4, 2) := by decide +kernel
theorem dX4_registered_78 : decode cX4_registered 78 = .ok (.ireturn, 1) := by decide +kernel
theorem dX4_registered_79 : decode cX4_registered 79 = .ok (.iinc 4 1, 3) := by decide +kernel
theorem dX4_registered_82 : decode cX4_registered 82 = .ok (.goto (-77), 3) := by decide +kernel
theorem dX4_registered_85 : decode cX4_registered 85 = .ok (.iconst (-1), 1) := by decide +kernel
theorem dX4_registered_86 : decode cX4_registered 86 = .ok (.ireturn, 1) := by decide +kernel
theorem dX4_couldRegister_0 : decode cX4_couldRegister 0 = .ok (.aload_n 0, 1) := by decide +kernel
theorem dX4_couldRegister_1 : decode cX4_couldRegister 1 = .ok (.iload_n 1, 1) := by decide +kernel
theorem dX4_couldRegister_2 : decode cX4_couldRegister 2 = .ok (.invokevirtual 46, 3) := by decide +kernel
theorem dX4_couldRegister_5 : decode cX4_couldRegister 5 = .ok (.ifCond .eq 26, 3) := by decide +kernel
theorem dX4_couldRegister_8 : decode cX4_couldRegister 8 = .ok (.aload_n 0, 1) := by decide +kernel
theorem dX4_couldRegister_9 : decode cX4_couldRegister 9 = .ok (.getfield 15, 3) := by decide +kernel
theorem dX4_couldRegister_12 : decode cX4_couldRegister 12 = .ok (.iload_n 1, 1) := by decide +kernel
theorem dX4_couldRegister_13 : decode cX4_couldRegister 13 = .ok (.iaload, 1) := by decide +kernel
theorem dX4_couldRegister_14 : decode cX4_couldRegister 14 = .ok (.iconst (-1), 1) := by decide +kernel
theorem dX4_couldRegister_15 : decode cX4_couldRegister 15 = .ok (.if_icmp .ne 16, 3) := by decide +kernel
theorem dX4_couldRegister_18 : decode cX4_couldRegister 18 = .ok (.aload_n 0, 1) := by decide +kernel
theorem dX4_couldRegister_19 : decode cX4_couldRegister 19 = .ok (.getfield 21, 3) := by decide +kernel
theorem dX4_couldRegister_22 : decode cX4_couldRegister 22 = .ok (.iload_n 1, 1) := by decide +kernel
theorem dX4_couldRegister_23 : decode cX4_couldRegister 23 = .ok (.iaload, 1) := by decide +kernel
theorem dX4_couldRegister_24 : decode cX4_couldRegister 24 = .ok (.iload_n 2, 1) := by decide +kernel
theorem dX4_couldRegister_25 : decode cX4_couldRegister 25 = .ok (.invokestatic 57, 3) := by decide +kernel
theorem dX4_couldRegister_28 : decode cX4_couldRegister 28 = .ok (.if_icmp .ge 5, 3) := by decide +kernel
theorem dX4_couldRegister_31 : decode cX4_couldRegister 31 = .ok (.iconst 0, 1) := by decide +kernel
theorem dX4_couldRegister_32 : decode cX4_couldRegister 32 = .ok (.ireturn, 1) := by decide +kernel
theorem dX4_couldRegister_33 : decode cX4_couldRegister 33 = .ok (.aload_n 0, 1) := by decide +kernel
theorem dX4_couldRegister_34 : decode cX4_couldRegister 34 = .ok (.getfield 24, 3) := by decide +kernel
theorem dX4_couldRegister_37 : decode cX4_couldRegister 37 = .ok (.iload_n 1, 1) := by decide +kernel
theorem dX4_couldRegister_38 : decode cX4_couldRegister 38 = .ok (.iaload, 1) := by decide +kernel
theorem dX4_couldRegister_39 : decode cX4_couldRegister 39 = .ok (.ifCond .eq 17, 3) := by decide +kernel
theorem dX4_couldRegister_42 : decode cX4_couldRegister 42 = .ok (.iload_n 2, 1) := by decide +kernel
theorem dX4_couldRegister_43 : decode cX4_couldRegister 43 = .ok (.ifCond .ne 17, 3) := by decide +kernel
theorem dX4_couldRegister_46 : decode cX4_couldRegister 46 = .ok (.aload_n 0, 1) := by decide +kernel
theorem dX4_couldRegister_47 : decode cX4_couldRegister 47 = .ok (.getfield 24, 3) := by decide +kernel
theorem dX4_couldRegister_50 : decode cX4_couldRegister 50 = .ok (.iload_n 1, 1) := by decide +kernel
theorem dX4_couldRegister_51 : decode cX4_couldRegister 51 = .ok (.iaload, 1) := by decide +kernel
theorem dX4_couldRegister_52 : decode cX4_couldRegister 52 = .ok (.iconst 1, 1) := by decide +kernel
theorem dX4_couldRegister_53 : decode cX4_couldRegister 53 = .ok (.if_icmp .ne 7, 3) := by decide +kernel
theorem dX4_couldRegister_56 : decode cX4_couldRegister 56 = .ok (.iconst 1, 1) := by decide +kernel
theorem dX4_couldRegister_57 : decode cX4_couldRegister 57 = .ok (.goto 4, 3) := by decide +kernel
theorem dX4_couldRegister_60 : decode cX4_couldRegister 60 = .ok (.iconst 0, 1) := by decide +kernel
theorem dX4_couldRegister_61 : decode cX4_couldRegister 61 = .ok (.ireturn, 1) := by decide +kernel
theorem dX4_leastSpan_0 : decode cX4_leastSpan 0 = .ok (.iload_n 0, 1) := by decide +kernel
theorem dX4_leastSpan_1 : decode cX4_leastSpan 1 = .ok (.ifCond .ne 8, 3) := by decide +kernel
theorem dX4_leastSpan_4 : decode cX4_leastSpan 4 = .ok (.bipush 14, 2) := by decide +kernel
theorem dX4_leastSpan_6 : decode cX4_leastSpan 6 = .ok (.goto 13, 3) := by decide +kernel
theorem dX4_leastSpan_9 : decode cX4_leastSpan 9 = .ok (.iload_n 0, 1) := by decide +kernel
theorem dX4_leastSpan_10 : decode cX4_leastSpan 10 = .ok (.iconst 1, 1) := by decide +kernel
theorem dX4_leastSpan_11 : decode cX4_leastSpan 11 = .ok (.if_icmp .ne 7, 3) := by decide +kernel
theorem dX4_leastSpan_14 : decode cX4_leastSpan 14 = .ok (.iconst 2, 1) := by decide +kernel
theorem dX4_leastSpan_15 : decode cX4_leastSpan 15 = .ok (.goto 4, 3) := by decide +kernel
theorem dX4_leastSpan_18 : decode cX4_leastSpan 18 = .ok (.iconst 1, 1) := by decide +kernel
theorem dX4_leastSpan_19 : decode cX4_leastSpan 19 = .ok (.ireturn, 1) := by decide +kernel
theorem dX4_lockout_0 : decode cX4_lockout 0 = .ok (.iload_n 0, 1) := by decide +kernel
theorem dX4_lockout_1 : decode cX4_lockout 1 = .ok (.ifCond .ne 9, 3) := by decide +kernel
theorem dX4_lockout_4 : decode cX4_lockout 4 = .ok (.sipush 300, 3) := by decide +kernel
theorem dX4_lockout_7 : decode cX4_lockout 7 = .ok (.goto 16, 3) := by decide +kernel
theorem dX4_lockout_10 : decode cX4_lockout 10 = .ok (.iload_n 0, 1) := by decide +kernel
theorem dX4_lockout_11 : decode cX4_lockout 11 = .ok (.iconst 1, 1) := by decide +kernel
theorem dX4_lockout_12 : decode cX4_lockout 12 = .ok (.if_icmp .ne 8, 3) := by decide +kernel
theorem dX4_lockout_15 : decode cX4_lockout 15 = .ok (.bipush 45, 2) := by decide +kernel
theorem dX4_lockout_17 : decode cX4_lockout 17 = .ok (.goto 6, 3) := by decide +kernel
theorem dX4_lockout_20 : decode cX4_lockout 20 = .ok (.sipush 170, 3) := by decide +kernel
theorem dX4_lockout_23 : decode cX4_lockout 23 = .ok (.ireturn, 1) := by decide +kernel
theorem dX4_holderAhead_0 : decode cX4_holderAhead 0 = .ok (.aload_n 0, 1) := by decide +kernel
theorem dX4_holderAhead_1 : decode cX4_holderAhead 1 = .ok (.getfield 30, 3) := by decide +kernel
theorem dX4_holderAhead_4 : decode cX4_holderAhead 4 = .ok (.invokevirtual 60, 3) := by decide +kernel
theorem dX4_holderAhead_7 : decode cX4_holderAhead 7 = .ok (.iconst 0, 1) := by decide +kernel
theorem dX4_holderAhead_8 : decode cX4_holderAhead 8 = .ok (.istore_n 2, 1) := by decide +kernel
theorem dX4_holderAhead_9 : decode cX4_holderAhead 9 = .ok (.iload_n 2, 1) := by decide +kernel
theorem dX4_holderAhead_10 : decode cX4_holderAhead 10 = .ok (.iload_n 1, 1) := by decide +kernel
theorem dX4_holderAhead_11 : decode cX4_holderAhead 11 = .ok (.if_icmp .ge 60, 3) := by decide +kernel
theorem dX4_holderAhead_14 : decode cX4_holderAhead 14 = .ok (.iload_n 2, 1) := by decide +kernel
theorem dX4_holderAhead_15 : decode cX4_holderAhead 15 = .ok (.aload_n 0, 1) := by decide +kernel
theorem dX4_holderAhead_16 : decode cX4_holderAhead 16 = .ok (.getfield 34, 3) := by decide +kernel
theorem dX4_holderAhead_19 : decode cX4_holderAhead 19 = .ok (.if_icmp .ge 52, 3) := by decide +kernel
theorem dX4_holderAhead_22 : decode cX4_holderAhead 22 = .ok (.aload_n 0, 1) := by decide +kernel
theorem dX4_holderAhead_23 : decode cX4_holderAhead 23 = .ok (.iload_n 2, 1) := by decide +kernel
theorem dX4_holderAhead_24 : decode cX4_holderAhead 24 = .ok (.invokevirtual 46, 3) := by decide +kernel
theorem dX4_holderAhead_27 : decode cX4_holderAhead 27 = .ok (.ifCond .eq 38, 3) := by decide +kernel
theorem dX4_holderAhead_30 : decode cX4_holderAhead 30 = .ok (.aload_n 0, 1) := by decide +kernel
theorem dX4_holderAhead_31 : decode cX4_holderAhead 31 = .ok (.getfield 15, 3) := by decide +kernel
theorem dX4_holderAhead_34 : decode cX4_holderAhead 34 = .ok (.iload_n 2, 1) := by decide +kernel
theorem dX4_holderAhead_35 : decode cX4_holderAhead 35 = .ok (.iaload, 1) := by decide +kernel
theorem dX4_holderAhead_36 : decode cX4_holderAhead 36 = .ok (.iconst (-1), 1) := by decide +kernel
theorem dX4_holderAhead_37 : decode cX4_holderAhead 37 = .ok (.if_icmp .eq 28, 3) := by decide +kernel
theorem dX4_holderAhead_40 : decode cX4_holderAhead 40 = .ok (.aload_n 0, 1) := by decide +kernel
theorem dX4_holderAhead_41 : decode cX4_holderAhead 41 = .ok (.getfield 30, 3) := by decide +kernel
theorem dX4_holderAhead_44 : decode cX4_holderAhead 44 = .ok (.aload_n 0, 1) := by decide +kernel
theorem dX4_holderAhead_45 : decode cX4_holderAhead 45 = .ok (.getfield 11, 3) := by decide +kernel
theorem dX4_holderAhead_48 : decode cX4_holderAhead 48 = .ok (.iload_n 2, 1) := by decide +kernel
theorem dX4_holderAhead_49 : decode cX4_holderAhead 49 = .ok (.iaload, 1) := by decide +kernel
theorem dX4_holderAhead_50 : decode cX4_holderAhead 50 = .ok (.aload_n 0, 1) := by decide +kernel
theorem dX4_holderAhead_51 : decode cX4_holderAhead 51 = .ok (.getfield 15, 3) := by decide +kernel
theorem dX4_holderAhead_54 : decode cX4_holderAhead 54 = .ok (.iload_n 2, 1) := by decide +kernel
theorem dX4_holderAhead_55 : decode cX4_holderAhead 55 = .ok (.iaload, 1) := by decide +kernel
theorem dX4_holderAhead_56 : decode cX4_holderAhead 56 = .ok (.aload_n 0, 1) := by decide +kernel
theorem dX4_holderAhead_57 : decode cX4_holderAhead 57 = .ok (.getfield 18, 3) := by decide +kernel
theorem dX4_holderAhead_60 : decode cX4_holderAhead 60 = .ok (.iload_n 2, 1) := by decide +kernel
theorem dX4_holderAhead_61 : decode cX4_holderAhead 61 = .ok (.iaload, 1) := by decide +kernel
theorem dX4_holderAhead_62 : decode cX4_holderAhead 62 = .ok (.invokevirtual 63, 3) := by decide +kernel
theorem dX4_holderAhead_65 : decode cX4_holderAhead 65 = .ok (.iinc 2 1, 3) := by decide +kernel
theorem dX4_holderAhead_68 : decode cX4_holderAhead 68 = .ok (.goto (-59), 3) := by decide +kernel
theorem dX4_holderAhead_71 : decode cX4_holderAhead 71 = .ok (.aload_n 0, 1) := by decide +kernel
theorem dX4_holderAhead_72 : decode cX4_holderAhead 72 = .ok (.getfield 30, 3) := by decide +kernel
theorem dX4_holderAhead_75 : decode cX4_holderAhead 75 = .ok (.getfield 67, 3) := by decide +kernel
theorem dX4_holderAhead_78 : decode cX4_holderAhead 78 = .ok (.ireturn, 1) := by decide +kernel
theorem dX5_init_0 : decode cX5_init 0 = .ok (.aload_n 0, 1) := by decide +kernel
theorem dX5_init_1 : decode cX5_init 1 = .ok (.invokespecial 3, 3) := by decide +kernel
theorem dX5_init_4 : decode cX5_init 4 = .ok (.aload_n 0, 1) := by decide +kernel
theorem dX5_init_5 : decode cX5_init 5 = .ok (.bipush 48, 2) := by decide +kernel
theorem dX5_init_7 : decode cX5_init 7 = .ok (.newarray .int, 2) := by decide +kernel
theorem dX5_init_9 : decode cX5_init 9 = .ok (.putfield 11, 3) := by decide +kernel
theorem dX5_init_12 : decode cX5_init 12 = .ok (.aload_n 0, 1) := by decide +kernel
theorem dX5_init_13 : decode cX5_init 13 = .ok (.bipush 12, 2) := by decide +kernel
theorem dX5_init_15 : decode cX5_init 15 = .ok (.newarray .int, 2) := by decide +kernel
theorem dX5_init_17 : decode cX5_init 17 = .ok (.putfield 15, 3) := by decide +kernel
theorem dX5_init_20 : decode cX5_init 20 = .ok (.aload_n 0, 1) := by decide +kernel
theorem dX5_init_21 : decode cX5_init 21 = .ok (.iconst 0, 1) := by decide +kernel
theorem dX5_init_22 : decode cX5_init 22 = .ok (.putfield 18, 3) := by decide +kernel
theorem dX5_init_25 : decode cX5_init 25 = .ok (.aload_n 0, 1) := by decide +kernel
theorem dX5_init_26 : decode cX5_init 26 = .ok (.iload_n 1, 1) := by decide +kernel
theorem dX5_init_27 : decode cX5_init 27 = .ok (.putfield 22, 3) := by decide +kernel
theorem dX5_init_30 : decode cX5_init 30 = .ok (.aload_n 0, 1) := by decide +kernel
theorem dX5_init_31 : decode cX5_init 31 = .ok (.iload_n 2, 1) := by decide +kernel
theorem dX5_init_32 : decode cX5_init 32 = .ok (.putfield 25, 3) := by decide +kernel
theorem dX5_init_35 : decode cX5_init 35 = .ok (.return_, 1) := by decide +kernel
theorem dX5_isIn_0 : decode cX5_isIn 0 = .ok (.iload_n 1, 1) := by decide +kernel
theorem dX5_isIn_1 : decode cX5_isIn 1 = .ok (.ifCond .lt 21, 3) := by decide +kernel
theorem dX5_isIn_4 : decode cX5_isIn 4 = .ok (.iload_n 1, 1) := by decide +kernel
theorem dX5_isIn_5 : decode cX5_isIn 5 = .ok (.bipush 12, 2) := by decide +kernel
theorem dX5_isIn_7 : decode cX5_isIn 7 = .ok (.if_icmp .ge 15, 3) := by decide +kernel
theorem dX5_isIn_10 : decode cX5_isIn 10 = .ok (.iload_n 0, 1) := by decide +kernel
theorem dX5_isIn_11 : decode cX5_isIn 11 = .ok (.iconst 1, 1) := by decide +kernel
theorem dX5_isIn_12 : decode cX5_isIn 12 = .ok (.iload_n 1, 1) := by decide +kernel
theorem dX5_isIn_13 : decode cX5_isIn 13 = .ok (.ishl, 1) := by decide +kernel
theorem dX5_isIn_14 : decode cX5_isIn 14 = .ok (.iand, 1) := by decide +kernel
theorem dX5_isIn_15 : decode cX5_isIn 15 = .ok (.ifCond .eq 7, 3) := by decide +kernel
theorem dX5_isIn_18 : decode cX5_isIn 18 = .ok (.iconst 1, 1) := by decide +kernel
theorem dX5_isIn_19 : decode cX5_isIn 19 = .ok (.goto 4, 3) := by decide +kernel
theorem dX5_isIn_22 : decode cX5_isIn 22 = .ok (.iconst 0, 1) := by decide +kernel
theorem dX5_isIn_23 : decode cX5_isIn 23 = .ok (.ireturn, 1) := by decide +kernel
theorem dX5_has_0 : decode cX5_has 0 = .ok (.aload_n 0, 1) := by decide +kernel
theorem dX5_has_1 : decode cX5_has 1 = .ok (.getfield 25, 3) := by decide +kernel
theorem dX5_has_4 : decode cX5_has 4 = .ok (.iload_n 1, 1) := by decide +kernel
theorem dX5_has_5 : decode cX5_has 5 = .ok (.invokestatic 28, 3) := by decide +kernel
theorem dX5_has_8 : decode cX5_has 8 = .ok (.ireturn, 1) := by decide +kernel
theorem dX5_isWithdrawn_0 : decode cX5_isWithdrawn 0 = .ok (.aload_n 0, 1) := by decide +kernel
theorem dX5_isWithdrawn_1 : decode cX5_isWithdrawn 1 = .ok (.getfield 18, 3) := by decide +kernel
theorem dX5_isWithdrawn_4 : decode cX5_isWithdrawn 4 = .ok (.iload_n 1, 1) := by decide +kernel
theorem dX5_isWithdrawn_5 : decode cX5_isWithdrawn 5 = .ok (.invokestatic 28, 3) := by decide +kernel
theorem dX5_isWithdrawn_8 : decode cX5_isWithdrawn 8 = .ok (.ireturn, 1) := by decide +kernel
theorem dX5_markWithdrawn_0 : decode cX5_markWithdrawn 0 = .ok (.aload_n 0, 1) := by decide +kernel
theorem dX5_markWithdrawn_1 : decode cX5_markWithdrawn 1 = .ok (.iload_n 1, 1) := by decide +kernel
theorem dX5_markWithdrawn_2 : decode cX5_markWithdrawn 2 = .ok (.invokevirtual 32, 3) := by decide +kernel
theorem dX5_markWithdrawn_5 : decode cX5_markWithdrawn 5 = .ok (.ifCond .eq 15, 3) := by decide +kernel
theorem dX5_markWithdrawn_8 : decode cX5_markWithdrawn 8 = .ok (.aload_n 0, 1) := by decide +kernel
theorem dX5_markWithdrawn_9 : decode cX5_markWithdrawn 9 = .ok (.dup, 1) := by decide +kernel
theorem dX5_markWithdrawn_10 : decode cX5_markWithdrawn 10 = .ok (.getfield 18, 3) := by decide +kernel
theorem dX5_markWithdrawn_13 : decode cX5_markWithdrawn 13 = .ok (.iconst 1, 1) := by decide +kernel
theorem dX5_markWithdrawn_14 : decode cX5_markWithdrawn 14 = .ok (.iload_n 1, 1) := by decide +kernel
theorem dX5_markWithdrawn_15 : decode cX5_markWithdrawn 15 = .ok (.ishl, 1) := by decide +kernel
theorem dX5_markWithdrawn_16 : decode cX5_markWithdrawn 16 = .ok (.ior, 1) := by decide +kernel
theorem dX5_markWithdrawn_17 : decode cX5_markWithdrawn 17 = .ok (.putfield 18, 3) := by decide +kernel
theorem dX5_markWithdrawn_20 : decode cX5_markWithdrawn 20 = .ok (.return_, 1) := by decide +kernel
theorem dX5_counts_0 : decode cX5_counts 0 = .ok (.aload_n 1, 1) := by decide +kernel
theorem dX5_counts_1 : decode cX5_counts 1 = .ok (.getfield 36, 3) := by decide +kernel
theorem dX5_counts_4 : decode cX5_counts 4 = .ok (.aload_n 0, 1) := by decide +kernel
theorem dX5_counts_5 : decode cX5_counts 5 = .ok (.getfield 22, 3) := by decide +kernel
theorem dX5_counts_8 : decode cX5_counts 8 = .ok (.if_icmp .ne 42, 3) := by decide +kernel
theorem dX5_counts_11 : decode cX5_counts 11 = .ok (.aload_n 1, 1) := by decide +kernel
theorem dX5_counts_12 : decode cX5_counts 12 = .ok (.invokevirtual 41, 3) := by decide +kernel
theorem dX5_counts_15 : decode cX5_counts 15 = .ok (.ifCond .eq 35, 3) := by decide +kernel
theorem dX5_counts_18 : decode cX5_counts 18 = .ok (.aload_n 0, 1) := by decide +kernel
theorem dX5_counts_19 : decode cX5_counts 19 = .ok (.aload_n 1, 1) := by decide +kernel
theorem dX5_counts_20 : decode cX5_counts 20 = .ok (.getfield 45, 3) := by decide +kernel
theorem dX5_counts_23 : decode cX5_counts 23 = .ok (.getfield 49, 3) := by decide +kernel
theorem dX5_counts_26 : decode cX5_counts 26 = .ok (.invokevirtual 54, 3) := by decide +kernel
theorem dX5_counts_29 : decode cX5_counts 29 = .ok (.ifCond .ne 21, 3) := by decide +kernel
theorem dX5_counts_32 : decode cX5_counts 32 = .ok (.aload_n 0, 1) := by decide +kernel
theorem dX5_counts_33 : decode cX5_counts 33 = .ok (.aload_n 1, 1) := by decide +kernel
theorem dX5_counts_34 : decode cX5_counts 34 = .ok (.getfield 57, 3) := by decide +kernel
theorem dX5_counts_37 : decode cX5_counts 37 = .ok (.getfield 49, 3) := by decide +kernel
theorem dX5_counts_40 : decode cX5_counts 40 = .ok (.invokevirtual 54, 3) := by decide +kernel
theorem dX5_counts_43 : decode cX5_counts 43 = .ok (.ifCond .ne 7, 3) := by decide +kernel
theorem dX5_counts_46 : decode cX5_counts 46 = .ok (.iconst 1, 1) := by decide +kernel
theorem dX5_counts_47 : decode cX5_counts 47 = .ok (.goto 4, 3) := by decide +kernel
theorem dX5_counts_50 : decode cX5_counts 50 = .ok (.iconst 0, 1) := by decide +kernel
theorem dX5_counts_51 : decode cX5_counts 51 = .ok (.ireturn, 1) := by decide +kernel
theorem dX5_enter_0 : decode cX5_enter 0 = .ok (.iconst 0, 1) := by decide +kernel
theorem dX5_enter_1 : decode cX5_enter 1 = .ok (.istore_n 3, 1) := by decide +kernel
theorem dX5_enter_2 : decode cX5_enter 2 = .ok (.iload_n 3, 1) := by decide +kernel
theorem dX5_enter_3 : decode cX5_enter 3 = .ok (.iconst 4, 1) := by decide +kernel
theorem dX5_enter_4 : decode cX5_enter 4 = .ok (.if_icmp .ge 49, 3) := by decide +kernel
theorem dX5_enter_7 : decode cX5_enter 7 = .ok (.aload_n 0, 1) := by decide +kernel
theorem dX5_enter_8 : decode cX5_enter 8 = .ok (.aload_n 1, 1) := by decide +kernel
theorem dX5_enter_9 : decode cX5_enter 9 = .ok (.getfield 45, 3) := by decide +kernel
theorem dX5_enter_12 : decode cX5_enter 12 = .ok (.getfield 49, 3) := by decide +kernel
theorem dX5_enter_15 : decode cX5_enter 15 = .ok (.iload_n 3, 1) := by decide +kernel
theorem dX5_enter_16 : decode cX5_enter 16 = .ok (.iload_n 2, 1) := by decide +kernel
theorem dX5_enter_17 : decode cX5_enter 17 = .ok (.aload_n 1, 1) := by decide +kernel
theorem dX5_enter_18 : decode cX5_enter 18 = .ok (.iconst 0, 1) := by decide +kernel
theorem dX5_enter_19 : decode cX5_enter 19 = .ok (.iload_n 3, 1) := by decide +kernel
theorem dX5_enter_20 : decode cX5_enter 20 = .ok (.invokevirtual 60, 3) := by decide +kernel
theorem dX5_enter_23 : decode cX5_enter 23 = .ok (.imul, 1) := by decide +kernel
theorem dX5_enter_24 : decode cX5_enter 24 = .ok (.invokevirtual 64, 3) := by decide +kernel
theorem dX5_enter_27 : decode cX5_enter 27 = .ok (.aload_n 0, 1) := by decide +kernel
theorem dX5_enter_28 : decode cX5_enter 28 = .ok (.aload_n 1, 1) := by decide +kernel
theorem dX5_enter_29 : decode cX5_enter 29 = .ok (.getfield 57, 3) := by decide +kernel
theorem dX5_enter_32 : decode cX5_enter 32 = .ok (.getfield 49, 3) := by decide +kernel
theorem dX5_enter_35 : decode cX5_enter 35 = .ok (.iload_n 3, 1) := by decide +kernel
theorem dX5_enter_36 : decode cX5_enter 36 = .ok (.iload_n 2, 1) := by decide +kernel
theorem dX5_enter_37 : decode cX5_enter 37 = .ok (.aload_n 1, 1) := by decide +kernel
theorem dX5_enter_38 : decode cX5_enter 38 = .ok (.iconst 1, 1) := by decide +kernel
theorem dX5_enter_39 : decode cX5_enter 39 = .ok (.iload_n 3, 1) := by decide +kernel
theorem dX5_enter_40 : decode cX5_enter 40 = .ok (.invokevirtual 60, 3) := by decide +kernel
theorem dX5_enter_43 : decode cX5_enter 43 = .ok (.imul, 1) := by decide +kernel
theorem dX5_enter_44 : decode cX5_enter 44 = .ok (.invokevirtual 64, 3) := by decide +kernel
theorem dX5_enter_47 : decode cX5_enter 47 = .ok (.iinc 3 1, 3) := by decide +kernel
theorem dX5_enter_50 : decode cX5_enter 50 = .ok (.goto (-48), 3) := by decide +kernel
theorem dX5_enter_53 : decode cX5_enter 53 = .ok (.return_, 1) := by decide +kernel
theorem dX5_addTo_0 : decode cX5_addTo 0 = .ok (.iload_n 1, 1) := by decide +kernel
theorem dX5_addTo_1 : decode cX5_addTo 1 = .ok (.iconst 4, 1) := by decide +kernel
theorem dX5_addTo_2 : decode cX5_addTo 2 = .ok (.imul, 1) := by decide +kernel
theorem dX5_addTo_3 : decode cX5_addTo 3 = .ok (.iload_n 2, 1) := by decide +kernel
theorem dX5_addTo_4 : decode cX5_addTo 4 = .ok (.iadd, 1) := by decide +kernel
theorem dX5_addTo_5 : decode cX5_addTo 5 = .ok (.istore 4, 2) := by decide +kernel
theorem dX5_addTo_7 : decode cX5_addTo 7 = .ok (.iload 4, 2) := by decide +kernel
theorem dX5_addTo_9 : decode cX5_addTo 9 = .ok (.ifCond .lt 24, 3) := by decide +kernel
theorem dX5_addTo_12 : decode cX5_addTo 12 = .ok (.iload 4, 2) := by decide +kernel
theorem dX5_addTo_14 : decode cX5_addTo 14 = .ok (.aload_n 0, 1) := by decide +kernel
theorem dX5_addTo_15 : decode cX5_addTo 15 = .ok (.getfield 11, 3) := by decide +kernel
theorem dX5_addTo_18 : decode cX5_addTo 18 = .ok (.arraylength, 1) := by decide +kernel
theorem dX5_addTo_19 : decode cX5_addTo 19 = .ok (.if_icmp .ge 14, 3) := by decide +kernel
theorem dX5_addTo_22 : decode cX5_addTo 22 = .ok (.aload_n 0, 1) := by decide +kernel
theorem dX5_addTo_23 : decode cX5_addTo 23 = .ok (.getfield 11, 3) := by decide +kernel
theorem dX5_addTo_26 : decode cX5_addTo 26 = .ok (.iload 4, 2) := by decide +kernel
theorem dX5_addTo_28 : decode cX5_addTo 28 = .ok (.dup2, 1) := by decide +kernel
theorem dX5_addTo_29 : decode cX5_addTo 29 = .ok (.iaload, 1) := by decide +kernel
theorem dX5_addTo_30 : decode cX5_addTo 30 = .ok (.iload_n 3, 1) := by decide +kernel
theorem dX5_addTo_31 : decode cX5_addTo 31 = .ok (.iadd, 1) := by decide +kernel
theorem dX5_addTo_32 : decode cX5_addTo 32 = .ok (.iastore, 1) := by decide +kernel
theorem dX5_addTo_33 : decode cX5_addTo 33 = .ok (.return_, 1) := by decide +kernel
theorem dX5_kept_0 : decode cX5_kept 0 = .ok (.iload_n 1, 1) := by decide +kernel
theorem dX5_kept_1 : decode cX5_kept 1 = .ok (.iconst 4, 1) := by decide +kernel
theorem dX5_kept_2 : decode cX5_kept 2 = .ok (.imul, 1) := by decide +kernel
theorem dX5_kept_3 : decode cX5_kept 3 = .ok (.iload_n 2, 1) := by decide +kernel
theorem dX5_kept_4 : decode cX5_kept 4 = .ok (.iadd, 1) := by decide +kernel
theorem dX5_kept_5 : decode cX5_kept 5 = .ok (.istore_n 3, 1) := by decide +kernel
theorem dX5_kept_6 : decode cX5_kept 6 = .ok (.iload_n 3, 1) := by decide +kernel
theorem dX5_kept_7 : decode cX5_kept 7 = .ok (.ifCond .lt 21, 3) := by decide +kernel
theorem dX5_kept_10 : decode cX5_kept 10 = .ok (.iload_n 3, 1) := by decide +kernel
theorem dX5_kept_11 : decode cX5_kept 11 = .ok (.aload_n 0, 1) := by decide +kernel
theorem dX5_kept_12 : decode cX5_kept 12 = .ok (.getfield 11, 3) := by decide +kernel
theorem dX5_kept_15 : decode cX5_kept 15 = .ok (.arraylength, 1) := by decide +kernel
theorem dX5_kept_16 : decode cX5_kept 16 = .ok (.if_icmp .ge 12, 3) := by decide +kernel
theorem dX5_kept_19 : decode cX5_kept 19 = .ok (.aload_n 0, 1) := by decide +kernel
theorem dX5_kept_20 : decode cX5_kept 20 = .ok (.getfield 11, 3) := by decide +kernel
theorem dX5_kept_23 : decode cX5_kept 23 = .ok (.iload_n 3, 1) := by decide +kernel
theorem dX5_kept_24 : decode cX5_kept 24 = .ok (.iaload, 1) := by decide +kernel
theorem dX5_kept_25 : decode cX5_kept 25 = .ok (.goto 4, 3) := by decide +kernel
theorem dX5_kept_28 : decode cX5_kept 28 = .ok (.iconst 0, 1) := by decide +kernel
theorem dX5_kept_29 : decode cX5_kept 29 = .ok (.ireturn, 1) := by decide +kernel
theorem dX5_isRanked_0 : decode cX5_isRanked 0 = .ok (.aload_n 0, 1) := by decide +kernel
theorem dX5_isRanked_1 : decode cX5_isRanked 1 = .ok (.iload_n 1, 1) := by decide +kernel
theorem dX5_isRanked_2 : decode cX5_isRanked 2 = .ok (.invokevirtual 32, 3) := by decide +kernel
theorem dX5_isRanked_5 : decode cX5_isRanked 5 = .ok (.ifCond .eq 15, 3) := by decide +kernel
theorem dX5_isRanked_8 : decode cX5_isRanked 8 = .ok (.aload_n 0, 1) := by decide +kernel
theorem dX5_isRanked_9 : decode cX5_isRanked 9 = .ok (.iload_n 1, 1) := by decide +kernel
theorem dX5_isRanked_10 : decode cX5_isRanked 10 = .ok (.invokevirtual 54, 3) := by decide +kernel
theorem dX5_isRanked_13 : decode cX5_isRanked 13 = .ok (.ifCond .ne 7, 3) := by decide +kernel
theorem dX5_isRanked_16 : decode cX5_isRanked 16 = .ok (.iconst 1, 1) := by decide +kernel
theorem dX5_isRanked_17 : decode cX5_isRanked 17 = .ok (.goto 4, 3) := by decide +kernel
theorem dX5_isRanked_20 : decode cX5_isRanked 20 = .ok (.iconst 0, 1) := by decide +kernel
theorem dX5_isRanked_21 : decode cX5_isRanked 21 = .ok (.ireturn, 1) := by decide +kernel
theorem dX5_rankedCount_0 : decode cX5_rankedCount 0 = .ok (.aload_n 0, 1) := by decide +kernel
theorem dX5_rankedCount_1 : decode cX5_rankedCount 1 = .ok (.getfield 25, 3) := by decide +kernel
theorem dX5_rankedCount_4 : decode cX5_rankedCount 4 = .ok (.aload_n 0, 1) := by decide +kernel
theorem dX5_rankedCount_5 : decode cX5_rankedCount 5 = .ok (.getfield 18, 3) := by decide +kernel
theorem dX5_rankedCount_8 : decode cX5_rankedCount 8 = .ok (.iconst (-1), 1) := by decide +kernel
theorem dX5_rankedCount_9 : decode cX5_rankedCount 9 = .ok (.ixor, 1) := by decide +kernel
theorem dX5_rankedCount_10 : decode cX5_rankedCount 10 = .ok (.iand, 1) := by decide +kernel
theorem dX5_rankedCount_11 : decode cX5_rankedCount 11 = .ok (.invokestatic 68, 3) := by decide +kernel
theorem dX5_rankedCount_14 : decode cX5_rankedCount 14 = .ok (.ireturn, 1) := by decide +kernel
theorem dX5_orderRanked_0 : decode cX5_orderRanked 0 = .ok (.iconst 0, 1) := by decide +kernel
theorem dX5_orderRanked_1 : decode cX5_orderRanked 1 = .ok (.istore_n 1, 1) := by decide +kernel
theorem dX5_orderRanked_2 : decode cX5_orderRanked 2 = .ok (.iconst 0, 1) := by decide +kernel
theorem dX5_orderRanked_3 : decode cX5_orderRanked 3 = .ok (.istore_n 2, 1) := by decide +kernel
theorem dX5_orderRanked_4 : decode cX5_orderRanked 4 = .ok (.iload_n 2, 1) := by decide +kernel
theorem dX5_orderRanked_5 : decode cX5_orderRanked 5 = .ok (.bipush 12, 2) := by decide +kernel
theorem dX5_orderRanked_7 : decode cX5_orderRanked 7 = .ok (.if_icmp .ge 33, 3) := by decide +kernel
theorem dX5_orderRanked_10 : decode cX5_orderRanked 10 = .ok (.aload_n 0, 1) := by decide +kernel
theorem dX5_orderRanked_11 : decode cX5_orderRanked 11 = .ok (.getfield 15, 3) := by decide +kernel
theorem dX5_orderRanked_14 : decode cX5_orderRanked 14 = .ok (.iload_n 2, 1) := by decide +kernel
theorem dX5_orderRanked_15 : decode cX5_orderRanked 15 = .ok (.iconst (-1), 1) := by decide +kernel
theorem dX5_orderRanked_16 : decode cX5_orderRanked 16 = .ok (.iastore, 1) := by decide +kernel
theorem dX5_orderRanked_17 : decode cX5_orderRanked 17 = .ok (.aload_n 0, 1) := by decide +kernel
theorem dX5_orderRanked_18 : decode cX5_orderRanked 18 = .ok (.iload_n 2, 1) := by decide +kernel
theorem dX5_orderRanked_19 : decode cX5_orderRanked 19 = .ok (.invokevirtual 74, 3) := by decide +kernel
theorem dX5_orderRanked_22 : decode cX5_orderRanked 22 = .ok (.ifCond .eq 12, 3) := by decide +kernel
theorem dX5_orderRanked_25 : decode cX5_orderRanked 25 = .ok (.aload_n 0, 1) := by decide +kernel
theorem dX5_orderRanked_26 : decode cX5_orderRanked 26 = .ok (.iload_n 2, 1) := by decide +kernel
theorem dX5_orderRanked_27 : decode cX5_orderRanked 27 = .ok (.iload_n 1, 1) := by decide +kernel
theorem dX5_orderRanked_28 : decode cX5_orderRanked 28 = .ok (.invokevirtual 77, 3) := by decide +kernel
theorem dX5_orderRanked_31 : decode cX5_orderRanked 31 = .ok (.iinc 1 1, 3) := by decide +kernel
theorem dX5_orderRanked_34 : decode cX5_orderRanked 34 = .ok (.iinc 2 1, 3) := by decide +kernel
theorem dX5_orderRanked_37 : decode cX5_orderRanked 37 = .ok (.goto (-33), 3) := by decide +kernel
theorem dX5_orderRanked_40 : decode cX5_orderRanked 40 = .ok (.return_, 1) := by decide +kernel
theorem dX5_insert_0 : decode cX5_insert 0 = .ok (.iload_n 2, 1) := by decide +kernel
theorem dX5_insert_1 : decode cX5_insert 1 = .ok (.istore_n 3, 1) := by decide +kernel
theorem dX5_insert_2 : decode cX5_insert 2 = .ok (.iload_n 3, 1) := by decide +kernel
theorem dX5_insert_3 : decode cX5_insert 3 = .ok (.ifCond .le 45, 3) := by decide +kernel
theorem dX5_insert_6 : decode cX5_insert 6 = .ok (.iload_n 3, 1) := by decide +kernel
theorem dX5_insert_7 : decode cX5_insert 7 = .ok (.bipush 12, 2) := by decide +kernel
theorem dX5_insert_9 : decode cX5_insert 9 = .ok (.if_icmp .ge 39, 3) := by decide +kernel
theorem dX5_insert_12 : decode cX5_insert 12 = .ok (.aload_n 0, 1) := by decide +kernel
theorem dX5_insert_13 : decode cX5_insert 13 = .ok (.iload_n 1, 1) := by decide +kernel
theorem dX5_insert_14 : decode cX5_insert 14 = .ok (.aload_n 0, 1) := by decide +kernel
theorem dX5_insert_15 : decode cX5_insert 15 = .ok (.getfield 15, 3) := by decide +kernel
theorem dX5_insert_18 : decode cX5_insert 18 = .ok (.iload_n 3, 1) := by decide +kernel
theorem dX5_insert_19 : decode cX5_insert 19 = .ok (.iconst 1, 1) := by decide +kernel
theorem dX5_insert_20 : decode cX5_insert 20 = .ok (.isub, 1) := by decide +kernel
theorem dX5_insert_21 : decode cX5_insert 21 = .ok (.iaload, 1) := by decide +kernel
theorem dX5_insert_22 : decode cX5_insert 22 = .ok (.invokevirtual 81, 3) := by decide +kernel
theorem dX5_insert_25 : decode cX5_insert 25 = .ok (.ifCond .eq 23, 3) := by decide +kernel
theorem dX5_insert_28 : decode cX5_insert 28 = .ok (.aload_n 0, 1) := by decide +kernel
theorem dX5_insert_29 : decode cX5_insert 29 = .ok (.getfield 15, 3) := by decide +kernel
theorem dX5_insert_32 : decode cX5_insert 32 = .ok (.iload_n 3, 1) := by decide +kernel
theorem dX5_insert_33 : decode cX5_insert 33 = .ok (.aload_n 0, 1) := by decide +kernel
theorem dX5_insert_34 : decode cX5_insert 34 = .ok (.getfield 15, 3) := by decide +kernel
theorem dX5_insert_37 : decode cX5_insert 37 = .ok (.iload_n 3, 1) := by decide +kernel
theorem dX5_insert_38 : decode cX5_insert 38 = .ok (.iconst 1, 1) := by decide +kernel
theorem dX5_insert_39 : decode cX5_insert 39 = .ok (.isub, 1) := by decide +kernel
theorem dX5_insert_40 : decode cX5_insert 40 = .ok (.iaload, 1) := by decide +kernel
theorem dX5_insert_41 : decode cX5_insert 41 = .ok (.iastore, 1) := by decide +kernel
theorem dX5_insert_42 : decode cX5_insert 42 = .ok (.iinc 3 (-1), 3) := by decide +kernel
theorem dX5_insert_45 : decode cX5_insert 45 = .ok (.goto (-43), 3) := by decide +kernel
theorem dX5_insert_48 : decode cX5_insert 48 = .ok (.iload_n 3, 1) := by decide +kernel
theorem dX5_insert_49 : decode cX5_insert 49 = .ok (.ifCond .lt 16, 3) := by decide +kernel
theorem dX5_insert_52 : decode cX5_insert 52 = .ok (.iload_n 3, 1) := by decide +kernel
theorem dX5_insert_53 : decode cX5_insert 53 = .ok (.bipush 12, 2) := by decide +kernel
theorem dX5_insert_55 : decode cX5_insert 55 = .ok (.if_icmp .ge 10, 3) := by decide +kernel
theorem dX5_insert_58 : decode cX5_insert 58 = .ok (.aload_n 0, 1) := by decide +kernel
theorem dX5_insert_59 : decode cX5_insert 59 = .ok (.getfield 15, 3) := by decide +kernel
theorem dX5_insert_62 : decode cX5_insert 62 = .ok (.iload_n 3, 1) := by decide +kernel
theorem dX5_insert_63 : decode cX5_insert 63 = .ok (.iload_n 1, 1) := by decide +kernel
theorem dX5_insert_64 : decode cX5_insert 64 = .ok (.iastore, 1) := by decide +kernel
theorem dX5_insert_65 : decode cX5_insert 65 = .ok (.return_, 1) := by decide +kernel
theorem dX5_rankedAt_0 : decode cX5_rankedAt 0 = .ok (.iload_n 1, 1) := by decide +kernel
theorem dX5_rankedAt_1 : decode cX5_rankedAt 1 = .ok (.ifCond .lt 18, 3) := by decide +kernel
theorem dX5_rankedAt_4 : decode cX5_rankedAt 4 = .ok (.iload_n 1, 1) := by decide +kernel
theorem dX5_rankedAt_5 : decode cX5_rankedAt 5 = .ok (.bipush 12, 2) := by decide +kernel
theorem dX5_rankedAt_7 : decode cX5_rankedAt 7 = .ok (.if_icmp .ge 12, 3) := by decide +kernel
theorem dX5_rankedAt_10 : decode cX5_rankedAt 10 = .ok (.aload_n 0, 1) := by decide +kernel
theorem dX5_rankedAt_11 : decode cX5_rankedAt 11 = .ok (.getfield 15, 3) := by decide +kernel
theorem dX5_rankedAt_14 : decode cX5_rankedAt 14 = .ok (.iload_n 1, 1) := by decide +kernel
theorem dX5_rankedAt_15 : decode cX5_rankedAt 15 = .ok (.iaload, 1) := by decide +kernel
theorem dX5_rankedAt_16 : decode cX5_rankedAt 16 = .ok (.goto 4, 3) := by decide +kernel
theorem dX5_rankedAt_19 : decode cX5_rankedAt 19 = .ok (.iconst (-1), 1) := by decide +kernel
theorem dX5_rankedAt_20 : decode cX5_rankedAt 20 = .ok (.ireturn, 1) := by decide +kernel
theorem dX5_isAhead_0 : decode cX5_isAhead 0 = .ok (.aload_n 0, 1) := by decide +kernel
theorem dX5_isAhead_1 : decode cX5_isAhead 1 = .ok (.iload_n 1, 1) := by decide +kernel
theorem dX5_isAhead_2 : decode cX5_isAhead 2 = .ok (.iconst 1, 1) := by decide +kernel
theorem dX5_isAhead_3 : decode cX5_isAhead 3 = .ok (.invokevirtual 84, 3) := by decide +kernel
theorem dX5_isAhead_6 : decode cX5_isAhead 6 = .ok (.iconst 1, 1) := by decide +kernel
theorem dX5_isAhead_7 : decode cX5_isAhead 7 = .ok (.aload_n 0, 1) := by decide +kernel
theorem dX5_isAhead_8 : decode cX5_isAhead 8 = .ok (.iload_n 2, 1) := by decide +kernel
theorem dX5_isAhead_9 : decode cX5_isAhead 9 = .ok (.iconst 0, 1) := by decide +kernel
theorem dX5_isAhead_10 : decode cX5_isAhead 10 = .ok (.invokevirtual 84, 3) := by decide +kernel
theorem dX5_isAhead_13 : decode cX5_isAhead 13 = .ok (.invokestatic 87, 3) := by decide +kernel
theorem dX5_isAhead_16 : decode cX5_isAhead 16 = .ok (.imul, 1) := by decide +kernel
theorem dX5_isAhead_17 : decode cX5_isAhead 17 = .ok (.istore_n 3, 1) := by decide +kernel
theorem dX5_isAhead_18 : decode cX5_isAhead 18 = .ok (.aload_n 0, 1) := by decide +kernel
theorem dX5_isAhead_19 : decode cX5_isAhead 19 = .ok (.iload_n 2, 1) := by decide +kernel
theorem dX5_isAhead_20 : decode cX5_isAhead 20 = .ok (.iconst 1, 1) := by decide +kernel
theorem dX5_isAhead_21 : decode cX5_isAhead 21 = .ok (.invokevirtual 84, 3) := by decide +kernel
theorem dX5_isAhead_24 : decode cX5_isAhead 24 = .ok (.iconst 1, 1) := by decide +kernel
theorem dX5_isAhead_25 : decode cX5_isAhead 25 = .ok (.aload_n 0, 1) := by decide +kernel
theorem dX5_isAhead_26 : decode cX5_isAhead 26 = .ok (.iload_n 1, 1) := by decide +kernel
theorem dX5_isAhead_27 : decode cX5_isAhead 27 = .ok (.iconst 0, 1) := by decide +kernel
theorem dX5_isAhead_28 : decode cX5_isAhead 28 = .ok (.invokevirtual 84, 3) := by decide +kernel
theorem dX5_isAhead_31 : decode cX5_isAhead 31 = .ok (.invokestatic 87, 3) := by decide +kernel
theorem dX5_isAhead_34 : decode cX5_isAhead 34 = .ok (.imul, 1) := by decide +kernel
theorem dX5_isAhead_35 : decode cX5_isAhead 35 = .ok (.istore 4, 2) := by decide +kernel
theorem dX5_isAhead_37 : decode cX5_isAhead 37 = .ok (.iload_n 3, 1) := by decide +kernel
theorem dX5_isAhead_38 : decode cX5_isAhead 38 = .ok (.iload 4, 2) := by decide +kernel
theorem dX5_isAhead_40 : decode cX5_isAhead 40 = .ok (.if_icmp .eq 15, 3) := by decide +kernel
theorem dX5_isAhead_43 : decode cX5_isAhead 43 = .ok (.iload_n 3, 1) := by decide +kernel
theorem dX5_isAhead_44 : decode cX5_isAhead 44 = .ok (.iload 4, 2) := by decide +kernel
theorem dX5_isAhead_46 : decode cX5_isAhead 46 = .ok (.if_icmp .le 7, 3) := by decide +kernel
theorem dX5_isAhead_49 : decode cX5_isAhead 49 = .ok (.iconst 1, 1) := by decide +kernel
theorem dX5_isAhead_50 : decode cX5_isAhead 50 = .ok (.goto 4, 3) := by decide +kernel
theorem dX5_isAhead_53 : decode cX5_isAhead 53 = .ok (.iconst 0, 1) := by decide +kernel
theorem dX5_isAhead_54 : decode cX5_isAhead 54 = .ok (.ireturn, 1) := by decide +kernel
theorem dX5_isAhead_55 : decode cX5_isAhead 55 = .ok (.aload_n 0, 1) := by decide +kernel
theorem dX5_isAhead_56 : decode cX5_isAhead 56 = .ok (.iload_n 1, 1) := by decide +kernel
theorem dX5_isAhead_57 : decode cX5_isAhead 57 = .ok (.invokevirtual 92, 3) := by decide +kernel
theorem dX5_isAhead_60 : decode cX5_isAhead 60 = .ok (.aload_n 0, 1) := by decide +kernel
theorem dX5_isAhead_61 : decode cX5_isAhead 61 = .ok (.iload_n 2, 1) := by decide +kernel
theorem dX5_isAhead_62 : decode cX5_isAhead 62 = .ok (.invokevirtual 92, 3) := by decide +kernel
theorem dX5_isAhead_65 : decode cX5_isAhead 65 = .ok (.if_icmp .eq 22, 3) := by decide +kernel
theorem dX5_isAhead_68 : decode cX5_isAhead 68 = .ok (.aload_n 0, 1) := by decide +kernel
theorem dX5_isAhead_69 : decode cX5_isAhead 69 = .ok (.iload_n 1, 1) := by decide +kernel
theorem dX5_isAhead_70 : decode cX5_isAhead 70 = .ok (.invokevirtual 92, 3) := by decide +kernel
theorem dX5_isAhead_73 : decode cX5_isAhead 73 = .ok (.aload_n 0, 1) := by decide +kernel
theorem dX5_isAhead_74 : decode cX5_isAhead 74 = .ok (.iload_n 2, 1) := by decide +kernel
theorem dX5_isAhead_75 : decode cX5_isAhead 75 = .ok (.invokevirtual 92, 3) := by decide +kernel
theorem dX5_isAhead_78 : decode cX5_isAhead 78 = .ok (.if_icmp .le 7, 3) := by decide +kernel
theorem dX5_isAhead_81 : decode cX5_isAhead 81 = .ok (.iconst 1, 1) := by decide +kernel
theorem dX5_isAhead_82 : decode cX5_isAhead 82 = .ok (.goto 4, 3) := by decide +kernel
theorem dX5_isAhead_85 : decode cX5_isAhead 85 = .ok (.iconst 0, 1) := by decide +kernel
theorem dX5_isAhead_86 : decode cX5_isAhead 86 = .ok (.ireturn, 1) := by decide +kernel
theorem dX5_isAhead_87 : decode cX5_isAhead 87 = .ok (.aload_n 0, 1) := by decide +kernel
theorem dX5_isAhead_88 : decode cX5_isAhead 88 = .ok (.iload_n 1, 1) := by decide +kernel
theorem dX5_isAhead_89 : decode cX5_isAhead 89 = .ok (.iconst 2, 1) := by decide +kernel
theorem dX5_isAhead_90 : decode cX5_isAhead 90 = .ok (.invokevirtual 84, 3) := by decide +kernel
theorem dX5_isAhead_93 : decode cX5_isAhead 93 = .ok (.aload_n 0, 1) := by decide +kernel
theorem dX5_isAhead_94 : decode cX5_isAhead 94 = .ok (.iload_n 2, 1) := by decide +kernel
theorem dX5_isAhead_95 : decode cX5_isAhead 95 = .ok (.iconst 2, 1) := by decide +kernel
theorem dX5_isAhead_96 : decode cX5_isAhead 96 = .ok (.invokevirtual 84, 3) := by decide +kernel
theorem dX5_isAhead_99 : decode cX5_isAhead 99 = .ok (.if_icmp .eq 24, 3) := by decide +kernel
theorem dX5_isAhead_102 : decode cX5_isAhead 102 = .ok (.aload_n 0, 1) := by decide +kernel
theorem dX5_isAhead_103 : decode cX5_isAhead 103 = .ok (.iload_n 1, 1) := by decide +kernel
theorem dX5_isAhead_104 : decode cX5_isAhead 104 = .ok (.iconst 2, 1) := by decide +kernel
theorem dX5_isAhead_105 : decode cX5_isAhead 105 = .ok (.invokevirtual 84, 3) := by decide +kernel
theorem dX5_isAhead_108 : decode cX5_isAhead 108 = .ok (.aload_n 0, 1) := by decide +kernel
theorem dX5_isAhead_109 : decode cX5_isAhead 109 = .ok (.iload_n 2, 1) := by decide +kernel
theorem dX5_isAhead_110 : decode cX5_isAhead 110 = .ok (.iconst 2, 1) := by decide +kernel
theorem dX5_isAhead_111 : decode cX5_isAhead 111 = .ok (.invokevirtual 84, 3) := by decide +kernel
theorem dX5_isAhead_114 : decode cX5_isAhead 114 = .ok (.if_icmp .le 7, 3) := by decide +kernel
theorem dX5_isAhead_117 : decode cX5_isAhead 117 = .ok (.iconst 1, 1) := by decide +kernel
theorem dX5_isAhead_118 : decode cX5_isAhead 118 = .ok (.goto 4, 3) := by decide +kernel
theorem dX5_isAhead_121 : decode cX5_isAhead 121 = .ok (.iconst 0, 1) := by decide +kernel
theorem dX5_isAhead_122 : decode cX5_isAhead 122 = .ok (.ireturn, 1) := by decide +kernel
theorem dX5_isAhead_123 : decode cX5_isAhead 123 = .ok (.iload_n 1, 1) := by decide +kernel
theorem dX5_isAhead_124 : decode cX5_isAhead 124 = .ok (.iload_n 2, 1) := by decide +kernel
theorem dX5_isAhead_125 : decode cX5_isAhead 125 = .ok (.if_icmp .ge 7, 3) := by decide +kernel
theorem dX5_isAhead_128 : decode cX5_isAhead 128 = .ok (.iconst 1, 1) := by decide +kernel
theorem dX5_isAhead_129 : decode cX5_isAhead 129 = .ok (.goto 4, 3) := by decide +kernel
theorem dX5_isAhead_132 : decode cX5_isAhead 132 = .ok (.iconst 0, 1) := by decide +kernel
theorem dX5_isAhead_133 : decode cX5_isAhead 133 = .ok (.ireturn, 1) := by decide +kernel
theorem dX5_balance_0 : decode cX5_balance 0 = .ok (.aload_n 0, 1) := by decide +kernel
theorem dX5_balance_1 : decode cX5_balance 1 = .ok (.iload_n 1, 1) := by decide +kernel
theorem dX5_balance_2 : decode cX5_balance 2 = .ok (.iconst 2, 1) := by decide +kernel
theorem dX5_balance_3 : decode cX5_balance 3 = .ok (.invokevirtual 84, 3) := by decide +kernel
theorem dX5_balance_6 : decode cX5_balance 6 = .ok (.aload_n 0, 1) := by decide +kernel
theorem dX5_balance_7 : decode cX5_balance 7 = .ok (.iload_n 1, 1) := by decide +kernel
theorem dX5_balance_8 : decode cX5_balance 8 = .ok (.iconst 3, 1) := by decide +kernel
theorem dX5_balance_9 : decode cX5_balance 9 = .ok (.invokevirtual 84, 3) := by decide +kernel
theorem dX5_balance_12 : decode cX5_balance 12 = .ok (.isub, 1) := by decide +kernel
theorem dX5_balance_13 : decode cX5_balance 13 = .ok (.ireturn, 1) := by decide +kernel
theorem dX6_init_0 : decode cX6_init 0 = .ok (.aload_n 0, 1) := by decide +kernel
theorem dX6_init_1 : decode cX6_init 1 = .ok (.invokespecial 3, 3) := by decide +kernel
theorem dX6_init_4 : decode cX6_init 4 = .ok (.aload_n 0, 1) := by decide +kernel
theorem dX6_init_5 : decode cX6_init 5 = .ok (.iconst (-1), 1) := by decide +kernel
theorem dX6_init_6 : decode cX6_init 6 = .ok (.putfield 9, 3) := by decide +kernel
theorem dX6_init_9 : decode cX6_init 9 = .ok (.aload_n 0, 1) := by decide +kernel
theorem dX6_init_10 : decode cX6_init 10 = .ok (.iconst (-1), 1) := by decide +kernel
theorem dX6_init_11 : decode cX6_init 11 = .ok (.putfield 15, 3) := by decide +kernel
theorem dX6_init_14 : decode cX6_init 14 = .ok (.aload_n 0, 1) := by decide +kernel
theorem dX6_init_15 : decode cX6_init 15 = .ok (.iconst 0, 1) := by decide +kernel
theorem dX6_init_16 : decode cX6_init 16 = .ok (.putfield 18, 3) := by decide +kernel
theorem dX6_init_19 : decode cX6_init 19 = .ok (.aload_n 0, 1) := by decide +kernel
theorem dX6_init_20 : decode cX6_init 20 = .ok (.iconst (-1), 1) := by decide +kernel
theorem dX6_init_21 : decode cX6_init 21 = .ok (.putfield 21, 3) := by decide +kernel
theorem dX6_init_24 : decode cX6_init 24 = .ok (.aload_n 0, 1) := by decide +kernel
theorem dX6_init_25 : decode cX6_init 25 = .ok (.iconst 0, 1) := by decide +kernel
theorem dX6_init_26 : decode cX6_init 26 = .ok (.putfield 24, 3) := by decide +kernel
theorem dX6_init_29 : decode cX6_init 29 = .ok (.return_, 1) := by decide +kernel
theorem dX6_forget_0 : decode cX6_forget 0 = .ok (.aload_n 0, 1) := by decide +kernel
theorem dX6_forget_1 : decode cX6_forget 1 = .ok (.iconst (-1), 1) := by decide +kernel
theorem dX6_forget_2 : decode cX6_forget 2 = .ok (.putfield 9, 3) := by decide +kernel
theorem dX6_forget_5 : decode cX6_forget 5 = .ok (.aload_n 0, 1) := by decide +kernel
theorem dX6_forget_6 : decode cX6_forget 6 = .ok (.iconst (-1), 1) := by decide +kernel
theorem dX6_forget_7 : decode cX6_forget 7 = .ok (.putfield 21, 3) := by decide +kernel
theorem dX6_forget_10 : decode cX6_forget 10 = .ok (.return_, 1) := by decide +kernel
theorem dX6_take_0 : decode cX6_take 0 = .ok (.iconst 1, 1) := by decide +kernel
theorem dX6_take_1 : decode cX6_take 1 = .ok (.iload_n 1, 1) := by decide +kernel
theorem dX6_take_2 : decode cX6_take 2 = .ok (.isub, 1) := by decide +kernel
theorem dX6_take_3 : decode cX6_take 3 = .ok (.istore 4, 2) := by decide +kernel
theorem dX6_take_5 : decode cX6_take 5 = .ok (.iload_n 2, 1) := by decide +kernel
theorem dX6_take_6 : decode cX6_take 6 = .ok (.tableswitch 198 0 6 #[42, 51, 69, 96, 105, 143, 182], 42) := by decide +kernel
theorem dX6_take_48 : decode cX6_take 48 = .ok (.aload_n 0, 1) := by decide +kernel
theorem dX6_take_49 : decode cX6_take 49 = .ok (.iload_n 1, 1) := by decide +kernel
theorem dX6_take_50 : decode cX6_take 50 = .ok (.iload_n 3, 1) := by decide +kernel
theorem dX6_take_51 : decode cX6_take 51 = .ok (.invokevirtual 27, 3) := by decide +kernel
theorem dX6_take_54 : decode cX6_take 54 = .ok (.goto 150, 3) := by decide +kernel
theorem dX6_take_57 : decode cX6_take 57 = .ok (.aload_n 0, 1) := by decide +kernel
theorem dX6_take_58 : decode cX6_take 58 = .ok (.getfield 9, 3) := by decide +kernel
theorem dX6_take_61 : decode cX6_take 61 = .ok (.iconst (-1), 1) := by decide +kernel
theorem dX6_take_62 : decode cX6_take 62 = .ok (.if_icmp .ne 142, 3) := by decide +kernel
theorem dX6_take_65 : decode cX6_take 65 = .ok (.aload_n 0, 1) := by decide +kernel
theorem dX6_take_66 : decode cX6_take 66 = .ok (.iload_n 1, 1) := by decide +kernel
theorem dX6_take_67 : decode cX6_take 67 = .ok (.iconst 1, 1) := by decide +kernel
theorem dX6_take_68 : decode cX6_take 68 = .ok (.iload_n 3, 1) := by decide +kernel
theorem dX6_take_69 : decode cX6_take 69 = .ok (.invokevirtual 31, 3) := by decide +kernel
theorem dX6_take_72 : decode cX6_take 72 = .ok (.goto 132, 3) := by decide +kernel
theorem dX6_take_75 : decode cX6_take 75 = .ok (.aload_n 0, 1) := by decide +kernel
theorem dX6_take_76 : decode cX6_take 76 = .ok (.getfield 9, 3) := by decide +kernel
theorem dX6_take_79 : decode cX6_take 79 = .ok (.iload 4, 2) := by decide +kernel
theorem dX6_take_81 : decode cX6_take 81 = .ok (.if_icmp .ne 123, 3) := by decide +kernel
theorem dX6_take_84 : decode cX6_take 84 = .ok (.aload_n 0, 1) := by decide +kernel
theorem dX6_take_85 : decode cX6_take 85 = .ok (.getfield 15, 3) := by decide +kernel
theorem dX6_take_88 : decode cX6_take 88 = .ok (.iconst 1, 1) := by decide +kernel
theorem dX6_take_89 : decode cX6_take 89 = .ok (.if_icmp .ne 115, 3) := by decide +kernel
theorem dX6_take_92 : decode cX6_take 92 = .ok (.aload_n 0, 1) := by decide +kernel
theorem dX6_take_93 : decode cX6_take 93 = .ok (.iload_n 1, 1) := by decide +kernel
theorem dX6_take_94 : decode cX6_take 94 = .ok (.iconst 0, 1) := by decide +kernel
theorem dX6_take_95 : decode cX6_take 95 = .ok (.iload_n 3, 1) := by decide +kernel
theorem dX6_take_96 : decode cX6_take 96 = .ok (.invokevirtual 31, 3) := by decide +kernel
theorem dX6_take_99 : decode cX6_take 99 = .ok (.goto 105, 3) := by decide +kernel
theorem dX6_take_102 : decode cX6_take 102 = .ok (.aload_n 0, 1) := by decide +kernel
theorem dX6_take_103 : decode cX6_take 103 = .ok (.iload_n 1, 1) := by decide +kernel
theorem dX6_take_104 : decode cX6_take 104 = .ok (.iload_n 3, 1) := by decide +kernel
theorem dX6_take_105 : decode cX6_take 105 = .ok (.invokevirtual 35, 3) := by decide +kernel
theorem dX6_take_108 : decode cX6_take 108 = .ok (.goto 96, 3) := by decide +kernel
theorem dX6_take_111 : decode cX6_take 111 = .ok (.aload_n 0, 1) := by decide +kernel
theorem dX6_take_112 : decode cX6_take 112 = .ok (.getfield 9, 3) := by decide +kernel
theorem dX6_take_115 : decode cX6_take 115 = .ok (.iconst (-1), 1) := by decide +kernel
theorem dX6_take_116 : decode cX6_take 116 = .ok (.if_icmp .ne 88, 3) := by decide +kernel
theorem dX6_take_119 : decode cX6_take 119 = .ok (.aload_n 0, 1) := by decide +kernel
theorem dX6_take_120 : decode cX6_take 120 = .ok (.getfield 21, 3) := by decide +kernel
theorem dX6_take_123 : decode cX6_take 123 = .ok (.iload_n 1, 1) := by decide +kernel
theorem dX6_take_124 : decode cX6_take 124 = .ok (.if_icmp .ne 80, 3) := by decide +kernel
theorem dX6_take_127 : decode cX6_take 127 = .ok (.iload_n 3, 1) := by decide +kernel
theorem dX6_take_128 : decode cX6_take 128 = .ok (.aload_n 0, 1) := by decide +kernel
theorem dX6_take_129 : decode cX6_take 129 = .ok (.getfield 24, 3) := by decide +kernel
theorem dX6_take_132 : decode cX6_take 132 = .ok (.isub, 1) := by decide +kernel
theorem dX6_take_133 : decode cX6_take 133 = .ok (.sipush 300, 3) := by decide +kernel
theorem dX6_take_136 : decode cX6_take 136 = .ok (.if_icmp .gt 68, 3) := by decide +kernel
theorem dX6_take_139 : decode cX6_take 139 = .ok (.aload_n 0, 1) := by decide +kernel
theorem dX6_take_140 : decode cX6_take 140 = .ok (.iload_n 1, 1) := by decide +kernel
theorem dX6_take_141 : decode cX6_take 141 = .ok (.iconst 4, 1) := by decide +kernel
theorem dX6_take_142 : decode cX6_take 142 = .ok (.iload_n 3, 1) := by decide +kernel
theorem dX6_take_143 : decode cX6_take 143 = .ok (.invokevirtual 31, 3) := by decide +kernel
theorem dX6_take_146 : decode cX6_take 146 = .ok (.goto 58, 3) := by decide +kernel
theorem dX6_take_149 : decode cX6_take 149 = .ok (.aload_n 0, 1) := by decide +kernel
theorem dX6_take_150 : decode cX6_take 150 = .ok (.getfield 9, 3) := by decide +kernel
theorem dX6_take_153 : decode cX6_take 153 = .ok (.iconst (-1), 1) := by decide +kernel
theorem dX6_take_154 : decode cX6_take 154 = .ok (.if_icmp .ne 50, 3) := by decide +kernel
theorem dX6_take_157 : decode cX6_take 157 = .ok (.aload_n 0, 1) := by decide +kernel
theorem dX6_take_158 : decode cX6_take 158 = .ok (.getfield 21, 3) := by decide +kernel
theorem dX6_take_161 : decode cX6_take 161 = .ok (.iload 4, 2) := by decide +kernel
theorem dX6_take_163 : decode cX6_take 163 = .ok (.if_icmp .ne 41, 3) := by decide +kernel
theorem dX6_take_166 : decode cX6_take 166 = .ok (.iload_n 3, 1) := by decide +kernel
theorem dX6_take_167 : decode cX6_take 167 = .ok (.aload_n 0, 1) := by decide +kernel
theorem dX6_take_168 : decode cX6_take 168 = .ok (.getfield 24, 3) := by decide +kernel
theorem dX6_take_171 : decode cX6_take 171 = .ok (.isub, 1) := by decide +kernel
theorem dX6_take_172 : decode cX6_take 172 = .ok (.sipush 300, 3) := by decide +kernel
theorem dX6_take_175 : decode cX6_take 175 = .ok (.if_icmp .le 29, 3) := by decide +kernel
theorem dX6_take_178 : decode cX6_take 178 = .ok (.aload_n 0, 1) := by decide +kernel
theorem dX6_take_179 : decode cX6_take 179 = .ok (.iload_n 1, 1) := by decide +kernel
theorem dX6_take_180 : decode cX6_take 180 = .ok (.iconst 5, 1) := by decide +kernel
theorem dX6_take_181 : decode cX6_take 181 = .ok (.iload_n 3, 1) := by decide +kernel
theorem dX6_take_182 : decode cX6_take 182 = .ok (.invokevirtual 31, 3) := by decide +kernel
theorem dX6_take_185 : decode cX6_take 185 = .ok (.goto 19, 3) := by decide +kernel
theorem dX6_take_188 : decode cX6_take 188 = .ok (.aload_n 0, 1) := by decide +kernel
theorem dX6_take_189 : decode cX6_take 189 = .ok (.getfield 9, 3) := by decide +kernel
theorem dX6_take_192 : decode cX6_take 192 = .ok (.iload_n 1, 1) := by decide +kernel
theorem dX6_take_193 : decode cX6_take 193 = .ok (.if_icmp .ne 11, 3) := by decide +kernel
theorem dX6_take_196 : decode cX6_take 196 = .ok (.aload_n 0, 1) := by decide +kernel
theorem dX6_take_197 : decode cX6_take 197 = .ok (.iconst (-1), 1) := by decide +kernel
theorem dX6_take_198 : decode cX6_take 198 = .ok (.putfield 9, 3) := by decide +kernel
theorem dX6_take_201 : decode cX6_take 201 = .ok (.goto 3, 3) := by decide +kernel
theorem dX6_take_204 : decode cX6_take 204 = .ok (.return_, 1) := by decide +kernel
theorem dX6_give_0 : decode cX6_give 0 = .ok (.aload_n 0, 1) := by decide +kernel
theorem dX6_give_1 : decode cX6_give 1 = .ok (.iload_n 1, 1) := by decide +kernel
theorem dX6_give_2 : decode cX6_give 2 = .ok (.putfield 9, 3) := by decide +kernel
theorem dX6_give_5 : decode cX6_give 5 = .ok (.aload_n 0, 1) := by decide +kernel
theorem dX6_give_6 : decode cX6_give 6 = .ok (.iload_n 2, 1) := by decide +kernel
theorem dX6_give_7 : decode cX6_give 7 = .ok (.putfield 15, 3) := by decide +kernel
theorem dX6_give_10 : decode cX6_give 10 = .ok (.aload_n 0, 1) := by decide +kernel
theorem dX6_give_11 : decode cX6_give 11 = .ok (.iload_n 3, 1) := by decide +kernel
theorem dX6_give_12 : decode cX6_give 12 = .ok (.putfield 18, 3) := by decide +kernel
theorem dX6_give_15 : decode cX6_give 15 = .ok (.return_, 1) := by decide +kernel
theorem dX6_attack_0 : decode cX6_attack 0 = .ok (.aload_n 0, 1) := by decide +kernel
theorem dX6_attack_1 : decode cX6_attack 1 = .ok (.getfield 9, 3) := by decide +kernel
theorem dX6_attack_4 : decode cX6_attack 4 = .ok (.iconst 1, 1) := by decide +kernel
theorem dX6_attack_5 : decode cX6_attack 5 = .ok (.iload_n 1, 1) := by decide +kernel
theorem dX6_attack_6 : decode cX6_attack 6 = .ok (.isub, 1) := by decide +kernel
theorem dX6_attack_7 : decode cX6_attack 7 = .ok (.if_icmp .eq 13, 3) := by decide +kernel
theorem dX6_attack_10 : decode cX6_attack 10 = .ok (.aload_n 0, 1) := by decide +kernel
theorem dX6_attack_11 : decode cX6_attack 11 = .ok (.iload_n 1, 1) := by decide +kernel
theorem dX6_attack_12 : decode cX6_attack 12 = .ok (.iconst 0, 1) := by decide +kernel
theorem dX6_attack_13 : decode cX6_attack 13 = .ok (.iload_n 2, 1) := by decide +kernel
theorem dX6_attack_14 : decode cX6_attack 14 = .ok (.invokevirtual 31, 3) := by decide +kernel
theorem dX6_attack_17 : decode cX6_attack 17 = .ok (.goto 26, 3) := by decide +kernel
theorem dX6_attack_20 : decode cX6_attack 20 = .ok (.aload_n 0, 1) := by decide +kernel
theorem dX6_attack_21 : decode cX6_attack 21 = .ok (.getfield 15, 3) := by decide +kernel
theorem dX6_attack_24 : decode cX6_attack 24 = .ok (.ifCond .ne 19, 3) := by decide +kernel
theorem dX6_attack_27 : decode cX6_attack 27 = .ok (.iload_n 2, 1) := by decide +kernel
theorem dX6_attack_28 : decode cX6_attack 28 = .ok (.aload_n 0, 1) := by decide +kernel
theorem dX6_attack_29 : decode cX6_attack 29 = .ok (.getfield 18, 3) := by decide +kernel
theorem dX6_attack_32 : decode cX6_attack 32 = .ok (.isub, 1) := by decide +kernel
theorem dX6_attack_33 : decode cX6_attack 33 = .ok (.bipush 40, 2) := by decide +kernel
theorem dX6_attack_35 : decode cX6_attack 35 = .ok (.if_icmp .gt 8, 3) := by decide +kernel
theorem dX6_attack_38 : decode cX6_attack 38 = .ok (.aload_n 0, 1) := by decide +kernel
theorem dX6_attack_39 : decode cX6_attack 39 = .ok (.iconst (-1), 1) := by decide +kernel
theorem dX6_attack_40 : decode cX6_attack 40 = .ok (.putfield 9, 3) := by decide +kernel
theorem dX6_attack_43 : decode cX6_attack 43 = .ok (.return_, 1) := by decide +kernel
theorem dX6_parry_0 : decode cX6_parry 0 = .ok (.aload_n 0, 1) := by decide +kernel
theorem dX6_parry_1 : decode cX6_parry 1 = .ok (.getfield 9, 3) := by decide +kernel
theorem dX6_parry_4 : decode cX6_parry 4 = .ok (.iconst 1, 1) := by decide +kernel
theorem dX6_parry_5 : decode cX6_parry 5 = .ok (.iload_n 1, 1) := by decide +kernel
theorem dX6_parry_6 : decode cX6_parry 6 = .ok (.isub, 1) := by decide +kernel
theorem dX6_parry_7 : decode cX6_parry 7 = .ok (.if_icmp .ne 26, 3) := by decide +kernel
theorem dX6_parry_10 : decode cX6_parry 10 = .ok (.aload_n 0, 1) := by decide +kernel
theorem dX6_parry_11 : decode cX6_parry 11 = .ok (.getfield 15, 3) := by decide +kernel
theorem dX6_parry_14 : decode cX6_parry 14 = .ok (.iconst 1, 1) := by decide +kernel
theorem dX6_parry_15 : decode cX6_parry 15 = .ok (.if_icmp .eq 18, 3) := by decide +kernel
theorem dX6_parry_18 : decode cX6_parry 18 = .ok (.aload_n 0, 1) := by decide +kernel
theorem dX6_parry_19 : decode cX6_parry 19 = .ok (.iconst (-1), 1) := by decide +kernel
theorem dX6_parry_20 : decode cX6_parry 20 = .ok (.putfield 9, 3) := by decide +kernel
theorem dX6_parry_23 : decode cX6_parry 23 = .ok (.aload_n 0, 1) := by decide +kernel
theorem dX6_parry_24 : decode cX6_parry 24 = .ok (.iload_n 1, 1) := by decide +kernel
theorem dX6_parry_25 : decode cX6_parry 25 = .ok (.putfield 21, 3) := by decide +kernel
theorem dX6_parry_28 : decode cX6_parry 28 = .ok (.aload_n 0, 1) := by decide +kernel
theorem dX6_parry_29 : decode cX6_parry 29 = .ok (.iload_n 2, 1) := by decide +kernel
theorem dX6_parry_30 : decode cX6_parry 30 = .ok (.putfield 24, 3) := by decide +kernel
theorem dX6_parry_33 : decode cX6_parry 33 = .ok (.return_, 1) := by decide +kernel
theorem dX7_init_0 : decode cX7_init 0 = .ok (.aload_n 0, 1) := by decide +kernel
theorem dX7_init_1 : decode cX7_init 1 = .ok (.invokespecial 1, 3) := by decide +kernel
theorem dX7_init_4 : decode cX7_init 4 = .ok (.aload_n 0, 1) := by decide +kernel
theorem dX7_init_5 : decode cX7_init 5 = .ok (.bipush 80, 2) := by decide +kernel
theorem dX7_init_7 : decode cX7_init 7 = .ok (.anewarray 9, 3) := by decide +kernel
theorem dX7_init_10 : decode cX7_init 10 = .ok (.putfield 11, 3) := by decide +kernel
theorem dX7_init_13 : decode cX7_init 13 = .ok (.aload_n 0, 1) := by decide +kernel
theorem dX7_init_14 : decode cX7_init 14 = .ok (.bipush 6, 2) := by decide +kernel
theorem dX7_init_16 : decode cX7_init 16 = .ok (.anewarray 15, 3) := by decide +kernel
theorem dX7_init_19 : decode cX7_init 19 = .ok (.putfield 17, 3) := by decide +kernel
theorem dX7_init_22 : decode cX7_init 22 = .ok (.aload_n 0, 1) := by decide +kernel
theorem dX7_init_23 : decode cX7_init 23 = .ok (.new 21, 3) := by decide +kernel
theorem dX7_init_26 : decode cX7_init 26 = .ok (.dup, 1) := by decide +kernel
theorem dX7_init_27 : decode cX7_init 27 = .ok (.invokespecial 23, 3) := by decide +kernel
theorem dX7_init_30 : decode cX7_init 30 = .ok (.putfield 24, 3) := by decide +kernel
theorem dX7_init_33 : decode cX7_init 33 = .ok (.aload_n 0, 1) := by decide +kernel
theorem dX7_init_34 : decode cX7_init 34 = .ok (.new 28, 3) := by decide +kernel
theorem dX7_init_37 : decode cX7_init 37 = .ok (.dup, 1) := by decide +kernel
theorem dX7_init_38 : decode cX7_init 38 = .ok (.invokespecial 30, 3) := by decide +kernel
theorem dX7_init_41 : decode cX7_init 41 = .ok (.putfield 31, 3) := by decide +kernel
theorem dX7_init_44 : decode cX7_init 44 = .ok (.aload_n 0, 1) := by decide +kernel
theorem dX7_init_45 : decode cX7_init 45 = .ok (.new 35, 3) := by decide +kernel
theorem dX7_init_48 : decode cX7_init 48 = .ok (.dup, 1) := by decide +kernel
theorem dX7_init_49 : decode cX7_init 49 = .ok (.invokespecial 37, 3) := by decide +kernel
theorem dX7_init_52 : decode cX7_init 52 = .ok (.putfield 38, 3) := by decide +kernel
theorem dX7_init_55 : decode cX7_init 55 = .ok (.aload_n 0, 1) := by decide +kernel
theorem dX7_init_56 : decode cX7_init 56 = .ok (.iconst 0, 1) := by decide +kernel
theorem dX7_init_57 : decode cX7_init 57 = .ok (.putfield 42, 3) := by decide +kernel
theorem dX7_init_60 : decode cX7_init 60 = .ok (.aload_n 0, 1) := by decide +kernel
theorem dX7_init_61 : decode cX7_init 61 = .ok (.iconst 0, 1) := by decide +kernel
theorem dX7_init_62 : decode cX7_init 62 = .ok (.putfield 46, 3) := by decide +kernel
theorem dX7_init_65 : decode cX7_init 65 = .ok (.aload_n 0, 1) := by decide +kernel
theorem dX7_init_66 : decode cX7_init 66 = .ok (.iconst 0, 1) := by decide +kernel
theorem dX7_init_67 : decode cX7_init 67 = .ok (.putfield 49, 3) := by decide +kernel
theorem dX7_init_70 : decode cX7_init 70 = .ok (.aload_n 0, 1) := by decide +kernel
theorem dX7_init_71 : decode cX7_init 71 = .ok (.aconst_null, 1) := by decide +kernel
theorem dX7_init_72 : decode cX7_init 72 = .ok (.putfield 52, 3) := by decide +kernel
theorem dX7_init_75 : decode cX7_init 75 = .ok (.aload_n 0, 1) := by decide +kernel
theorem dX7_init_76 : decode cX7_init 76 = .ok (.iconst (-1), 1) := by decide +kernel
theorem dX7_init_77 : decode cX7_init 77 = .ok (.putfield 56, 3) := by decide +kernel
theorem dX7_init_80 : decode cX7_init 80 = .ok (.return_, 1) := by decide +kernel
theorem dX7_fencer_0 : decode cX7_fencer 0 = .ok (.aload_n 0, 1) := by decide +kernel
theorem dX7_fencer_1 : decode cX7_fencer 1 = .ok (.getfield 42, 3) := by decide +kernel
theorem dX7_fencer_4 : decode cX7_fencer 4 = .ok (.bipush 12, 2) := by decide +kernel
theorem dX7_fencer_6 : decode cX7_fencer 6 = .ok (.if_icmp .lt 13, 3) := by decide +kernel
theorem dX7_fencer_9 : decode cX7_fencer 9 = .ok (.new 59, 3) := by decide +kernel
theorem dX7_fencer_12 : decode cX7_fencer 12 = .ok (.dup, 1) := by decide +kernel
theorem dX7_fencer_13 : decode cX7_fencer 13 = .ok (.ldc 61, 2) := by decide +kernel
theorem dX7_fencer_15 : decode cX7_fencer 15 = .ok (.invokespecial 63, 3) := by decide +kernel
theorem dX7_fencer_18 : decode cX7_fencer 18 = .ok (.athrow, 1) := by decide +kernel
theorem dX7_fencer_19 : decode cX7_fencer 19 = .ok (.aload_n 0, 1) := by decide +kernel
theorem dX7_fencer_20 : decode cX7_fencer 20 = .ok (.getfield 42, 3) := by decide +kernel
theorem dX7_fencer_23 : decode cX7_fencer 23 = .ok (.istore_n 1, 1) := by decide +kernel
theorem dX7_fencer_24 : decode cX7_fencer 24 = .ok (.aload_n 0, 1) := by decide +kernel
theorem dX7_fencer_25 : decode cX7_fencer 25 = .ok (.dup, 1) := by decide +kernel
theorem dX7_fencer_26 : decode cX7_fencer 26 = .ok (.getfield 42, 3) := by decide +kernel
theorem dX7_fencer_29 : decode cX7_fencer 29 = .ok (.iconst 1, 1) := by decide +kernel
theorem dX7_fencer_30 : decode cX7_fencer 30 = .ok (.iadd, 1) := by decide +kernel
theorem dX7_fencer_31 : decode cX7_fencer 31 = .ok (.putfield 42, 3) := by decide +kernel
theorem dX7_fencer_34 : decode cX7_fencer 34 = .ok (.iload_n 1, 1) := by decide +kernel
theorem dX7_fencer_35 : decode cX7_fencer 35 = .ok (.ireturn, 1) := by decide +kernel
theorem dX7_begin_0 : decode cX7_begin 0 = .ok (.aload_n 0, 1) := by decide +kernel
theorem dX7_begin_1 : decode cX7_begin 1 = .ok (.iload 5, 2) := by decide +kernel
theorem dX7_begin_3 : decode cX7_begin 3 = .ok (.invokevirtual 66, 3) := by decide +kernel
theorem dX7_begin_6 : decode cX7_begin 6 = .ok (.astore 6, 2) := by decide +kernel
theorem dX7_begin_8 : decode cX7_begin 8 = .ok (.aload_n 0, 1) := by decide +kernel
theorem dX7_begin_9 : decode cX7_begin 9 = .ok (.iload_n 1, 1) := by decide +kernel
theorem dX7_begin_10 : decode cX7_begin 10 = .ok (.invokevirtual 70, 3) := by decide +kernel
theorem dX7_begin_13 : decode cX7_begin 13 = .ok (.ifCond .eq 22, 3) := by decide +kernel
theorem dX7_begin_16 : decode cX7_begin 16 = .ok (.aload_n 0, 1) := by decide +kernel
theorem dX7_begin_17 : decode cX7_begin 17 = .ok (.iload_n 2, 1) := by decide +kernel
theorem dX7_begin_18 : decode cX7_begin 18 = .ok (.invokevirtual 70, 3) := by decide +kernel
theorem dX7_begin_21 : decode cX7_begin 21 = .ok (.ifCond .eq 14, 3) := by decide +kernel
theorem dX7_begin_24 : decode cX7_begin 24 = .ok (.aload 6, 2) := by decide +kernel
theorem dX7_begin_26 : decode cX7_begin 26 = .ok (.ifnonnull 19, 3) := by decide +kernel
theorem dX7_begin_29 : decode cX7_begin 29 = .ok (.iload 5, 2) := by decide +kernel
theorem dX7_begin_31 : decode cX7_begin 31 = .ok (.iconst (-1), 1) := by decide +kernel
theorem dX7_begin_32 : decode cX7_begin 32 = .ok (.if_icmp .eq 13, 3) := by decide +kernel
theorem dX7_begin_35 : decode cX7_begin 35 = .ok (.new 74, 3) := by decide +kernel
theorem dX7_begin_38 : decode cX7_begin 38 = .ok (.dup, 1) := by decide +kernel
theorem dX7_begin_39 : decode cX7_begin 39 = .ok (.ldc 76, 2) := by decide +kernel
theorem dX7_begin_41 : decode cX7_begin 41 = .ok (.invokespecial 78, 3) := by decide +kernel
theorem dX7_begin_44 : decode cX7_begin 44 = .ok (.athrow, 1) := by decide +kernel
theorem dX7_begin_45 : decode cX7_begin 45 = .ok (.iload_n 1, 1) := by decide +kernel
theorem dX7_begin_46 : decode cX7_begin 46 = .ok (.iload_n 2, 1) := by decide +kernel
theorem dX7_begin_47 : decode cX7_begin 47 = .ok (.if_icmp .eq 23, 3) := by decide +kernel
theorem dX7_begin_50 : decode cX7_begin 50 = .ok (.iload_n 3, 1) := by decide +kernel
theorem dX7_begin_51 : decode cX7_begin 51 = .ok (.iconst 0, 1) := by decide +kernel
theorem dX7_begin_52 : decode cX7_begin 52 = .ok (.iconst 2, 1) := by decide +kernel
theorem dX7_begin_53 : decode cX7_begin 53 = .ok (.invokestatic 79, 3) := by decide +kernel
theorem dX7_begin_56 : decode cX7_begin 56 = .ok (.ifCond .eq 14, 3) := by decide +kernel
theorem dX7_begin_59 : decode cX7_begin 59 = .ok (.iload 4, 2) := by decide +kernel
theorem dX7_begin_61 : decode cX7_begin 61 = .ok (.iconst 1, 1) := by decide +kernel
theorem dX7_begin_62 : decode cX7_begin 62 = .ok (.bipush 45, 2) := by decide +kernel
theorem dX7_begin_64 : decode cX7_begin 64 = .ok (.invokestatic 79, 3) := by decide +kernel
theorem dX7_begin_67 : decode cX7_begin 67 = .ok (.ifCond .ne 13, 3) := by decide +kernel
theorem dX7_begin_70 : decode cX7_begin 70 = .ok (.new 83, 3) := by decide +kernel
theorem dX7_begin_73 : decode cX7_begin 73 = .ok (.dup, 1) := by decide +kernel
theorem dX7_begin_74 : decode cX7_begin 74 = .ok (.ldc 85, 2) := by decide +kernel
theorem dX7_begin_76 : decode cX7_begin 76 = .ok (.invokespecial 87, 3) := by decide +kernel
theorem dX7_begin_79 : decode cX7_begin 79 = .ok (.athrow, 1) := by decide +kernel
theorem dX7_begin_80 : decode cX7_begin 80 = .ok (.aload 6, 2) := by decide +kernel
theorem dX7_begin_82 : decode cX7_begin 82 = .ok (.ifnull 31, 3) := by decide +kernel
theorem dX7_begin_85 : decode cX7_begin 85 = .ok (.aload 6, 2) := by decide +kernel
theorem dX7_begin_87 : decode cX7_begin 87 = .ok (.iload_n 1, 1) := by decide +kernel
theorem dX7_begin_88 : decode cX7_begin 88 = .ok (.invokevirtual 88, 3) := by decide +kernel
theorem dX7_begin_91 : decode cX7_begin 91 = .ok (.ifCond .eq 12, 3) := by decide +kernel
theorem dX7_begin_94 : decode cX7_begin 94 = .ok (.aload 6, 2) := by decide +kernel
theorem dX7_begin_96 : decode cX7_begin 96 = .ok (.iload_n 2, 1) := by decide +kernel
theorem dX7_begin_97 : decode cX7_begin 97 = .ok (.invokevirtual 88, 3) := by decide +kernel
theorem dX7_begin_100 : decode cX7_begin 100 = .ok (.ifCond .ne 13, 3) := by decide +kernel
theorem dX7_begin_103 : decode cX7_begin 103 = .ok (.new 83, 3) := by decide +kernel
theorem dX7_begin_106 : decode cX7_begin 106 = .ok (.dup, 1) := by decide +kernel
theorem dX7_begin_107 : decode cX7_begin 107 = .ok (.ldc 91, 2) := by decide +kernel
theorem dX7_begin_109 : decode cX7_begin 109 = .ok (.invokespecial 87, 3) := by decide +kernel
theorem dX7_begin_112 : decode cX7_begin 112 = .ok (.athrow, 1) := by decide +kernel
theorem dX7_begin_113 : decode cX7_begin 113 = .ok (.aload 6, 2) := by decide +kernel
theorem dX7_begin_115 : decode cX7_begin 115 = .ok (.ifnull 31, 3) := by decide +kernel
theorem dX7_begin_118 : decode cX7_begin 118 = .ok (.aload 6, 2) := by decide +kernel
theorem dX7_begin_120 : decode cX7_begin 120 = .ok (.iload_n 1, 1) := by decide +kernel
theorem dX7_begin_121 : decode cX7_begin 121 = .ok (.invokevirtual 93, 3) := by decide +kernel
theorem dX7_begin_124 : decode cX7_begin 124 = .ok (.ifCond .ne 12, 3) := by decide +kernel
theorem dX7_begin_127 : decode cX7_begin 127 = .ok (.aload 6, 2) := by decide +kernel
theorem dX7_begin_129 : decode cX7_begin 129 = .ok (.iload_n 2, 1) := by decide +kernel
theorem dX7_begin_130 : decode cX7_begin 130 = .ok (.invokevirtual 93, 3) := by decide +kernel
theorem dX7_begin_133 : decode cX7_begin 133 = .ok (.ifCond .eq 13, 3) := by decide +kernel
theorem dX7_begin_136 : decode cX7_begin 136 = .ok (.new 59, 3) := by decide +kernel
theorem dX7_begin_139 : decode cX7_begin 139 = .ok (.dup, 1) := by decide +kernel
theorem dX7_begin_140 : decode cX7_begin 140 = .ok (.ldc 96, 2) := by decide +kernel
theorem dX7_begin_142 : decode cX7_begin 142 = .ok (.invokespecial 63, 3) := by decide +kernel
theorem dX7_begin_145 : decode cX7_begin 145 = .ok (.athrow, 1) := by decide +kernel
theorem dX7_begin_146 : decode cX7_begin 146 = .ok (.aload_n 0, 1) := by decide +kernel
theorem dX7_begin_147 : decode cX7_begin 147 = .ok (.getfield 52, 3) := by decide +kernel
theorem dX7_begin_150 : decode cX7_begin 150 = .ok (.ifnonnull 12, 3) := by decide +kernel
theorem dX7_begin_153 : decode cX7_begin 153 = .ok (.aload_n 0, 1) := by decide +kernel
theorem dX7_begin_154 : decode cX7_begin 154 = .ok (.getfield 46, 3) := by decide +kernel
theorem dX7_begin_157 : decode cX7_begin 157 = .ok (.bipush 80, 2) := by decide +kernel
theorem dX7_begin_159 : decode cX7_begin 159 = .ok (.if_icmp .lt 13, 3) := by decide +kernel
theorem dX7_begin_162 : decode cX7_begin 162 = .ok (.new 59, 3) := by decide +kernel
theorem dX7_begin_165 : decode cX7_begin 165 = .ok (.dup, 1) := by decide +kernel
theorem dX7_begin_166 : decode cX7_begin 166 = .ok (.ldc 98, 2) := by decide +kernel
theorem dX7_begin_168 : decode cX7_begin 168 = .ok (.invokespecial 63, 3) := by decide +kernel
theorem dX7_begin_171 : decode cX7_begin 171 = .ok (.athrow, 1) := by decide +kernel
theorem dX7_begin_172 : decode cX7_begin 172 = .ok (.aload_n 0, 1) := by decide +kernel
theorem dX7_begin_173 : decode cX7_begin 173 = .ok (.new 9, 3) := by decide +kernel
theorem dX7_begin_176 : decode cX7_begin 176 = .ok (.dup, 1) := by decide +kernel
theorem dX7_begin_177 : decode cX7_begin 177 = .ok (.iload_n 1, 1) := by decide +kernel
theorem dX7_begin_178 : decode cX7_begin 178 = .ok (.iload_n 2, 1) := by decide +kernel
theorem dX7_begin_179 : decode cX7_begin 179 = .ok (.iload_n 3, 1) := by decide +kernel
theorem dX7_begin_180 : decode cX7_begin 180 = .ok (.iload 4, 2) := by decide +kernel
theorem dX7_begin_182 : decode cX7_begin 182 = .ok (.iload 5, 2) := by decide +kernel
theorem dX7_begin_184 : decode cX7_begin 184 = .ok (.invokespecial 100, 3) := by decide +kernel
theorem dX7_begin_187 : decode cX7_begin 187 = .ok (.invokevirtual 103, 3) := by decide +kernel
theorem dX7_begin_190 : decode cX7_begin 190 = .ok (.ireturn, 1) := by decide +kernel
theorem dX7_act_0 : decode cX7_act 0 = .ok (.iload_n 1, 1) := by decide +kernel
theorem dX7_act_1 : decode cX7_act 1 = .ok (.invokestatic 107, 3) := by decide +kernel
theorem dX7_act_4 : decode cX7_act 4 = .ok (.ifCond .eq 23, 3) := by decide +kernel
theorem dX7_act_7 : decode cX7_act 7 = .ok (.iload_n 2, 1) := by decide +kernel
theorem dX7_act_8 : decode cX7_act 8 = .ok (.iconst 0, 1) := by decide +kernel
theorem dX7_act_9 : decode cX7_act 9 = .ok (.bipush 6, 2) := by decide +kernel
theorem dX7_act_11 : decode cX7_act 11 = .ok (.invokestatic 79, 3) := by decide +kernel
theorem dX7_act_14 : decode cX7_act 14 = .ok (.ifCond .eq 13, 3) := by decide +kernel
theorem dX7_act_17 : decode cX7_act 17 = .ok (.iload_n 3, 1) := by decide +kernel
theorem dX7_act_18 : decode cX7_act 18 = .ok (.iconst 0, 1) := by decide +kernel
theorem dX7_act_19 : decode cX7_act 19 = .ok (.ldc 110, 2) := by decide +kernel
theorem dX7_act_21 : decode cX7_act 21 = .ok (.invokestatic 79, 3) := by decide +kernel
theorem dX7_act_24 : decode cX7_act 24 = .ok (.ifCond .ne 13, 3) := by decide +kernel
theorem dX7_act_27 : decode cX7_act 27 = .ok (.new 83, 3) := by decide +kernel
theorem dX7_act_30 : decode cX7_act 30 = .ok (.dup, 1) := by decide +kernel
theorem dX7_act_31 : decode cX7_act 31 = .ok (.ldc 111, 2) := by decide +kernel
theorem dX7_act_33 : decode cX7_act 33 = .ok (.invokespecial 87, 3) := by decide +kernel
theorem dX7_act_36 : decode cX7_act 36 = .ok (.athrow, 1) := by decide +kernel
theorem dX7_act_37 : decode cX7_act 37 = .ok (.aload_n 0, 1) := by decide +kernel
theorem dX7_act_38 : decode cX7_act 38 = .ok (.iload_n 3, 1) := by decide +kernel
theorem dX7_act_39 : decode cX7_act 39 = .ok (.invokevirtual 113, 3) := by decide +kernel
theorem dX7_act_42 : decode cX7_act 42 = .ok (.aload_n 0, 1) := by decide +kernel
theorem dX7_act_43 : decode cX7_act 43 = .ok (.getfield 24, 3) := by decide +kernel
theorem dX7_act_46 : decode cX7_act 46 = .ok (.iload_n 1, 1) := by decide +kernel
theorem dX7_act_47 : decode cX7_act 47 = .ok (.iload_n 2, 1) := by decide +kernel
theorem dX7_act_48 : decode cX7_act 48 = .ok (.iload_n 3, 1) := by decide +kernel
theorem dX7_act_49 : decode cX7_act 49 = .ok (.invokevirtual 117, 3) := by decide +kernel
theorem dX7_act_52 : decode cX7_act 52 = .ok (.ireturn, 1) := by decide +kernel
theorem dX7_hit_0 : decode cX7_hit 0 = .ok (.iload_n 1, 1) := by decide +kernel
theorem dX7_hit_1 : decode cX7_hit 1 = .ok (.invokestatic 107, 3) := by decide +kernel
theorem dX7_hit_4 : decode cX7_hit 4 = .ok (.ifCond .eq 13, 3) := by decide +kernel
theorem dX7_hit_7 : decode cX7_hit 7 = .ok (.iload_n 2, 1) := by decide +kernel
theorem dX7_hit_8 : decode cX7_hit 8 = .ok (.iconst 0, 1) := by decide +kernel
theorem dX7_hit_9 : decode cX7_hit 9 = .ok (.ldc 110, 2) := by decide +kernel
theorem dX7_hit_11 : decode cX7_hit 11 = .ok (.invokestatic 79, 3) := by decide +kernel
theorem dX7_hit_14 : decode cX7_hit 14 = .ok (.ifCond .ne 13, 3) := by decide +kernel
theorem dX7_hit_17 : decode cX7_hit 17 = .ok (.new 83, 3) := by decide +kernel
theorem dX7_hit_20 : decode cX7_hit 20 = .ok (.dup, 1) := by decide +kernel
theorem dX7_hit_21 : decode cX7_hit 21 = .ok (.ldc 121, 2) := by decide +kernel
theorem dX7_hit_23 : decode cX7_hit 23 = .ok (.invokespecial 87, 3) := by decide +kernel
theorem dX7_hit_26 : decode cX7_hit 26 = .ok (.athrow, 1) := by decide +kernel
theorem dX7_hit_27 : decode cX7_hit 27 = .ok (.iload_n 3, 1) := by decide +kernel
theorem dX7_hit_28 : decode cX7_hit 28 = .ok (.iconst 0, 1) := by decide +kernel
theorem dX7_hit_29 : decode cX7_hit 29 = .ok (.sipush 1000, 3) := by decide +kernel
theorem dX7_hit_32 : decode cX7_hit 32 = .ok (.invokestatic 79, 3) := by decide +kernel
theorem dX7_hit_35 : decode cX7_hit 35 = .ok (.ifCond .eq 13, 3) := by decide +kernel
theorem dX7_hit_38 : decode cX7_hit 38 = .ok (.iload 4, 2) := by decide +kernel
theorem dX7_hit_40 : decode cX7_hit 40 = .ok (.iconst 0, 1) := by decide +kernel
theorem dX7_hit_41 : decode cX7_hit 41 = .ok (.iconst 2, 1) := by decide +kernel
theorem dX7_hit_42 : decode cX7_hit 42 = .ok (.invokestatic 79, 3) := by decide +kernel
theorem dX7_hit_45 : decode cX7_hit 45 = .ok (.ifCond .ne 13, 3) := by decide +kernel
theorem dX7_hit_48 : decode cX7_hit 48 = .ok (.new 83, 3) := by decide +kernel
theorem dX7_hit_51 : decode cX7_hit 51 = .ok (.dup, 1) := by decide +kernel
theorem dX7_hit_52 : decode cX7_hit 52 = .ok (.ldc 123, 2) := by decide +kernel
theorem dX7_hit_54 : decode cX7_hit 54 = .ok (.invokespecial 87, 3) := by decide +kernel
theorem dX7_hit_57 : decode cX7_hit 57 = .ok (.athrow, 1) := by decide +kernel
theorem dX7_hit_58 : decode cX7_hit 58 = .ok (.aload_n 0, 1) := by decide +kernel
theorem dX7_hit_59 : decode cX7_hit 59 = .ok (.iload_n 2, 1) := by decide +kernel
theorem dX7_hit_60 : decode cX7_hit 60 = .ok (.invokevirtual 113, 3) := by decide +kernel
theorem dX7_hit_63 : decode cX7_hit 63 = .ok (.aload_n 0, 1) := by decide +kernel
theorem dX7_hit_64 : decode cX7_hit 64 = .ok (.getfield 24, 3) := by decide +kernel
theorem dX7_hit_67 : decode cX7_hit 67 = .ok (.iload_n 1, 1) := by decide +kernel
theorem dX7_hit_68 : decode cX7_hit 68 = .ok (.iload_n 2, 1) := by decide +kernel
theorem dX7_hit_69 : decode cX7_hit 69 = .ok (.iload_n 3, 1) := by decide +kernel
theorem dX7_hit_70 : decode cX7_hit 70 = .ok (.iload 4, 2) := by decide +kernel
theorem dX7_hit_72 : decode cX7_hit 72 = .ok (.invokevirtual 125, 3) := by decide +kernel
theorem dX7_hit_75 : decode cX7_hit 75 = .ok (.ireturn, 1) := by decide +kernel
theorem dX7_judge_0 : decode cX7_judge 0 = .ok (.aload_n 0, 1) := by decide +kernel
theorem dX7_judge_1 : decode cX7_judge 1 = .ok (.invokevirtual 129, 3) := by decide +kernel
theorem dX7_judge_4 : decode cX7_judge 4 = .ok (.astore_n 1, 1) := by decide +kernel
theorem dX7_judge_5 : decode cX7_judge 5 = .ok (.aload_n 0, 1) := by decide +kernel
theorem dX7_judge_6 : decode cX7_judge 6 = .ok (.aload_n 1, 1) := by decide +kernel
theorem dX7_judge_7 : decode cX7_judge 7 = .ok (.getfield 133, 3) := by decide +kernel
theorem dX7_judge_10 : decode cX7_judge 10 = .ok (.aload_n 1, 1) := by decide +kernel
theorem dX7_judge_11 : decode cX7_judge 11 = .ok (.invokevirtual 136, 3) := by decide +kernel
theorem dX7_judge_14 : decode cX7_judge 14 = .ok (.invokevirtual 140, 3) := by decide +kernel
theorem dX7_judge_17 : decode cX7_judge 17 = .ok (.istore_n 2, 1) := by decide +kernel
theorem dX7_judge_18 : decode cX7_judge 18 = .ok (.aload_n 1, 1) := by decide +kernel
theorem dX7_judge_19 : decode cX7_judge 19 = .ok (.iload_n 2, 1) := by decide +kernel
theorem dX7_judge_20 : decode cX7_judge 20 = .ok (.invokevirtual 144, 3) := by decide +kernel
theorem dX7_judge_23 : decode cX7_judge 23 = .ok (.aload_n 0, 1) := by decide +kernel
theorem dX7_judge_24 : decode cX7_judge 24 = .ok (.getfield 24, 3) := by decide +kernel
theorem dX7_judge_27 : decode cX7_judge 27 = .ok (.invokevirtual 147, 3) := by decide +kernel
theorem dX7_judge_30 : decode cX7_judge 30 = .ok (.aload_n 0, 1) := by decide +kernel
theorem dX7_judge_31 : decode cX7_judge 31 = .ok (.aload_n 1, 1) := by decide +kernel
theorem dX7_judge_32 : decode cX7_judge 32 = .ok (.invokevirtual 150, 3) := by decide +kernel
theorem dX7_judge_35 : decode cX7_judge 35 = .ok (.iload_n 2, 1) := by decide +kernel
theorem dX7_judge_36 : decode cX7_judge 36 = .ok (.ireturn, 1) := by decide +kernel
theorem dX7_card_0 : decode cX7_card 0 = .ok (.iload_n 1, 1) := by decide +kernel
theorem dX7_card_1 : decode cX7_card 1 = .ok (.invokestatic 107, 3) := by decide +kernel
theorem dX7_card_4 : decode cX7_card 4 = .ok (.ifCond .eq 12, 3) := by decide +kernel
theorem dX7_card_7 : decode cX7_card 7 = .ok (.iload_n 2, 1) := by decide +kernel
theorem dX7_card_8 : decode cX7_card 8 = .ok (.iconst 1, 1) := by decide +kernel
theorem dX7_card_9 : decode cX7_card 9 = .ok (.iconst 3, 1) := by decide +kernel
theorem dX7_card_10 : decode cX7_card 10 = .ok (.invokestatic 79, 3) := by decide +kernel
theorem dX7_card_13 : decode cX7_card 13 = .ok (.ifCond .ne 13, 3) := by decide +kernel
theorem dX7_card_16 : decode cX7_card 16 = .ok (.new 83, 3) := by decide +kernel
theorem dX7_card_19 : decode cX7_card 19 = .ok (.dup, 1) := by decide +kernel
theorem dX7_card_20 : decode cX7_card 20 = .ok (.ldc 154, 2) := by decide +kernel
theorem dX7_card_22 : decode cX7_card 22 = .ok (.invokespecial 87, 3) := by decide +kernel
theorem dX7_card_25 : decode cX7_card 25 = .ok (.athrow, 1) := by decide +kernel
theorem dX7_card_26 : decode cX7_card 26 = .ok (.aload_n 0, 1) := by decide +kernel
theorem dX7_card_27 : decode cX7_card 27 = .ok (.invokevirtual 129, 3) := by decide +kernel
theorem dX7_card_30 : decode cX7_card 30 = .ok (.astore_n 3, 1) := by decide +kernel
theorem dX7_card_31 : decode cX7_card 31 = .ok (.aload_n 3, 1) := by decide +kernel
theorem dX7_card_32 : decode cX7_card 32 = .ok (.iload_n 1, 1) := by decide +kernel
theorem dX7_card_33 : decode cX7_card 33 = .ok (.iload_n 2, 1) := by decide +kernel
theorem dX7_card_34 : decode cX7_card 34 = .ok (.invokevirtual 156, 3) := by decide +kernel
theorem dX7_card_37 : decode cX7_card 37 = .ok (.istore 4, 2) := by decide +kernel
theorem dX7_card_39 : decode cX7_card 39 = .ok (.aload_n 0, 1) := by decide +kernel
theorem dX7_card_40 : decode cX7_card 40 = .ok (.aload_n 3, 1) := by decide +kernel
theorem dX7_card_41 : decode cX7_card 41 = .ok (.invokevirtual 150, 3) := by decide +kernel
theorem dX7_card_44 : decode cX7_card 44 = .ok (.iload 4, 2) := by decide +kernel
theorem dX7_card_46 : decode cX7_card 46 = .ok (.ireturn, 1) := by decide +kernel
theorem dX7_clock_0 : decode cX7_clock 0 = .ok (.iload_n 1, 1) := by decide +kernel
theorem dX7_clock_1 : decode cX7_clock 1 = .ok (.iconst 1, 1) := by decide +kernel
theorem dX7_clock_2 : decode cX7_clock 2 = .ok (.sipush 240, 3) := by decide +kernel
theorem dX7_clock_5 : decode cX7_clock 5 = .ok (.invokestatic 79, 3) := by decide +kernel
theorem dX7_clock_8 : decode cX7_clock 8 = .ok (.ifCond .ne 13, 3) := by decide +kernel
theorem dX7_clock_11 : decode cX7_clock 11 = .ok (.new 83, 3) := by decide +kernel
theorem dX7_clock_14 : decode cX7_clock 14 = .ok (.dup, 1) := by decide +kernel
theorem dX7_clock_15 : decode cX7_clock 15 = .ok (.ldc 160, 2) := by decide +kernel
theorem dX7_clock_17 : decode cX7_clock 17 = .ok (.invokespecial 87, 3) := by decide +kernel
theorem dX7_clock_20 : decode cX7_clock 20 = .ok (.athrow, 1) := by decide +kernel
theorem dX7_clock_21 : decode cX7_clock 21 = .ok (.aload_n 0, 1) := by decide +kernel
theorem dX7_clock_22 : decode cX7_clock 22 = .ok (.invokevirtual 129, 3) := by decide +kernel
theorem dX7_clock_25 : decode cX7_clock 25 = .ok (.astore_n 2, 1) := by decide +kernel
theorem dX7_clock_26 : decode cX7_clock 26 = .ok (.iconst 0, 1) := by decide +kernel
theorem dX7_clock_27 : decode cX7_clock 27 = .ok (.istore_n 3, 1) := by decide +kernel
theorem dX7_clock_28 : decode cX7_clock 28 = .ok (.iload_n 3, 1) := by decide +kernel
theorem dX7_clock_29 : decode cX7_clock 29 = .ok (.iload_n 1, 1) := by decide +kernel
theorem dX7_clock_30 : decode cX7_clock 30 = .ok (.if_icmp .ge 24, 3) := by decide +kernel
theorem dX7_clock_33 : decode cX7_clock 33 = .ok (.aload_n 2, 1) := by decide +kernel
theorem dX7_clock_34 : decode cX7_clock 34 = .ok (.invokevirtual 162, 3) := by decide +kernel
theorem dX7_clock_37 : decode cX7_clock 37 = .ok (.ifCond .ne 17, 3) := by decide +kernel
theorem dX7_clock_40 : decode cX7_clock 40 = .ok (.aload_n 2, 1) := by decide +kernel
theorem dX7_clock_41 : decode cX7_clock 41 = .ok (.aload_n 0, 1) := by decide +kernel
theorem dX7_clock_42 : decode cX7_clock 42 = .ok (.getfield 38, 3) := by decide +kernel
theorem dX7_clock_45 : decode cX7_clock 45 = .ok (.invokevirtual 165, 3) := by decide +kernel
theorem dX7_clock_48 : decode cX7_clock 48 = .ok (.iinc 3 1, 3) := by decide +kernel
theorem dX7_clock_51 : decode cX7_clock 51 = .ok (.goto (-23), 3) := by decide +kernel
theorem dX7_clock_54 : decode cX7_clock 54 = .ok (.aload_n 0, 1) := by decide +kernel
theorem dX7_clock_55 : decode cX7_clock 55 = .ok (.aload_n 2, 1) := by decide +kernel
theorem dX7_clock_56 : decode cX7_clock 56 = .ok (.invokevirtual 150, 3) := by decide +kernel
theorem dX7_clock_59 : decode cX7_clock 59 = .ok (.aload_n 2, 1) := by decide +kernel
theorem dX7_clock_60 : decode cX7_clock 60 = .ok (.invokevirtual 169, 3) := by decide +kernel
theorem dX7_clock_63 : decode cX7_clock 63 = .ok (.ireturn, 1) := by decide +kernel
theorem dX7_end_0 : decode cX7_end 0 = .ok (.aload_n 0, 1) := by decide +kernel
theorem dX7_end_1 : decode cX7_end 1 = .ok (.invokevirtual 129, 3) := by decide +kernel
theorem dX7_end_4 : decode cX7_end 4 = .ok (.astore_n 1, 1) := by decide +kernel
theorem dX7_end_5 : decode cX7_end 5 = .ok (.aload_n 1, 1) := by decide +kernel
theorem dX7_end_6 : decode cX7_end 6 = .ok (.aload_n 1, 1) := by decide +kernel
theorem dX7_end_7 : decode cX7_end 7 = .ok (.invokevirtual 173, 3) := by decide +kernel
theorem dX7_end_10 : decode cX7_end 10 = .ok (.invokevirtual 176, 3) := by decide +kernel
theorem dX7_end_13 : decode cX7_end 13 = .ok (.aload_n 0, 1) := by decide +kernel
theorem dX7_end_14 : decode cX7_end 14 = .ok (.aload_n 1, 1) := by decide +kernel
theorem dX7_end_15 : decode cX7_end 15 = .ok (.invokevirtual 150, 3) := by decide +kernel
theorem dX7_end_18 : decode cX7_end 18 = .ok (.aload_n 1, 1) := by decide +kernel
theorem dX7_end_19 : decode cX7_end 19 = .ok (.getfield 179, 3) := by decide +kernel
theorem dX7_end_22 : decode cX7_end 22 = .ok (.ireturn, 1) := by decide +kernel
theorem dX7_seed_0 : decode cX7_seed 0 = .ok (.iload_n 1, 1) := by decide +kernel
theorem dX7_seed_1 : decode cX7_seed 1 = .ok (.ifCond .ge 13, 3) := by decide +kernel
theorem dX7_seed_4 : decode cX7_seed 4 = .ok (.new 83, 3) := by decide +kernel
theorem dX7_seed_7 : decode cX7_seed 7 = .ok (.dup, 1) := by decide +kernel
theorem dX7_seed_8 : decode cX7_seed 8 = .ok (.ldc 182, 2) := by decide +kernel
theorem dX7_seed_10 : decode cX7_seed 10 = .ok (.invokespecial 87, 3) := by decide +kernel
theorem dX7_seed_13 : decode cX7_seed 13 = .ok (.athrow, 1) := by decide +kernel
theorem dX7_seed_14 : decode cX7_seed 14 = .ok (.aload_n 0, 1) := by decide +kernel
theorem dX7_seed_15 : decode cX7_seed 15 = .ok (.getfield 38, 3) := by decide +kernel
theorem dX7_seed_18 : decode cX7_seed 18 = .ok (.iload_n 1, 1) := by decide +kernel
theorem dX7_seed_19 : decode cX7_seed 19 = .ok (.i2l, 1) := by decide +kernel
theorem dX7_seed_20 : decode cX7_seed 20 = .ok (.putfield 184, 3) := by decide +kernel
theorem dX7_seed_23 : decode cX7_seed 23 = .ok (.return_, 1) := by decide +kernel
theorem dX7_pool_0 : decode cX7_pool 0 = .ok (.iload_n 1, 1) := by decide +kernel
theorem dX7_pool_1 : decode cX7_pool 1 = .ok (.iconst 1, 1) := by decide +kernel
theorem dX7_pool_2 : decode cX7_pool 2 = .ok (.aload_n 0, 1) := by decide +kernel
theorem dX7_pool_3 : decode cX7_pool 3 = .ok (.getfield 42, 3) := by decide +kernel
theorem dX7_pool_6 : decode cX7_pool 6 = .ok (.ishl, 1) := by decide +kernel
theorem dX7_pool_7 : decode cX7_pool 7 = .ok (.ineg, 1) := by decide +kernel
theorem dX7_pool_8 : decode cX7_pool 8 = .ok (.iand, 1) := by decide +kernel
theorem dX7_pool_9 : decode cX7_pool 9 = .ok (.istore_n 2, 1) := by decide +kernel
theorem dX7_pool_10 : decode cX7_pool 10 = .ok (.iload_n 2, 1) := by decide +kernel
theorem dX7_pool_11 : decode cX7_pool 11 = .ok (.ifCond .ne 11, 3) := by decide +kernel
theorem dX7_pool_14 : decode cX7_pool 14 = .ok (.iload_n 1, 1) := by decide +kernel
theorem dX7_pool_15 : decode cX7_pool 15 = .ok (.invokestatic 188, 3) := by decide +kernel
theorem dX7_pool_18 : decode cX7_pool 18 = .ok (.iconst 2, 1) := by decide +kernel
theorem dX7_pool_19 : decode cX7_pool 19 = .ok (.if_icmp .ge 13, 3) := by decide +kernel
theorem dX7_pool_22 : decode cX7_pool 22 = .ok (.new 83, 3) := by decide +kernel
theorem dX7_pool_25 : decode cX7_pool 25 = .ok (.dup, 1) := by decide +kernel
theorem dX7_pool_26 : decode cX7_pool 26 = .ok (.ldc 194, 2) := by decide +kernel
theorem dX7_pool_28 : decode cX7_pool 28 = .ok (.invokespecial 87, 3) := by decide +kernel
theorem dX7_pool_31 : decode cX7_pool 31 = .ok (.athrow, 1) := by decide +kernel
theorem dX7_pool_32 : decode cX7_pool 32 = .ok (.aload_n 0, 1) := by decide +kernel
theorem dX7_pool_33 : decode cX7_pool 33 = .ok (.getfield 49, 3) := by decide +kernel
theorem dX7_pool_36 : decode cX7_pool 36 = .ok (.bipush 6, 2) := by decide +kernel
theorem dX7_pool_38 : decode cX7_pool 38 = .ok (.if_icmp .lt 13, 3) := by decide +kernel
theorem dX7_pool_41 : decode cX7_pool 41 = .ok (.new 59, 3) := by decide +kernel
theorem dX7_pool_44 : decode cX7_pool 44 = .ok (.dup, 1) := by decide +kernel
theorem dX7_pool_45 : decode cX7_pool 45 = .ok (.ldc 196, 2) := by decide +kernel
theorem dX7_pool_47 : decode cX7_pool 47 = .ok (.invokespecial 63, 3) := by decide +kernel
theorem dX7_pool_50 : decode cX7_pool 50 = .ok (.athrow, 1) := by decide +kernel
theorem dX7_pool_51 : decode cX7_pool 51 = .ok (.aload_n 0, 1) := by decide +kernel
theorem dX7_pool_52 : decode cX7_pool 52 = .ok (.getfield 49, 3) := by decide +kernel
theorem dX7_pool_55 : decode cX7_pool 55 = .ok (.istore_n 3, 1) := by decide +kernel
theorem dX7_pool_56 : decode cX7_pool 56 = .ok (.aload_n 0, 1) := by decide +kernel
theorem dX7_pool_57 : decode cX7_pool 57 = .ok (.getfield 17, 3) := by decide +kernel
theorem dX7_pool_60 : decode cX7_pool 60 = .ok (.iload_n 3, 1) := by decide +kernel
theorem dX7_pool_61 : decode cX7_pool 61 = .ok (.new 15, 3) := by decide +kernel
theorem dX7_pool_64 : decode cX7_pool 64 = .ok (.dup, 1) := by decide +kernel
theorem dX7_pool_65 : decode cX7_pool 65 = .ok (.iload_n 3, 1) := by decide +kernel
theorem dX7_pool_66 : decode cX7_pool 66 = .ok (.iload_n 1, 1) := by decide +kernel
theorem dX7_pool_67 : decode cX7_pool 67 = .ok (.invokespecial 198, 3) := by decide +kernel
theorem dX7_pool_70 : decode cX7_pool 70 = .ok (.aastore, 1) := by decide +kernel
theorem dX7_pool_71 : decode cX7_pool 71 = .ok (.aload_n 0, 1) := by decide +kernel
theorem dX7_pool_72 : decode cX7_pool 72 = .ok (.dup, 1) := by decide +kernel
theorem dX7_pool_73 : decode cX7_pool 73 = .ok (.getfield 49, 3) := by decide +kernel
theorem dX7_pool_76 : decode cX7_pool 76 = .ok (.iconst 1, 1) := by decide +kernel
theorem dX7_pool_77 : decode cX7_pool 77 = .ok (.iadd, 1) := by decide +kernel
theorem dX7_pool_78 : decode cX7_pool 78 = .ok (.putfield 49, 3) := by decide +kernel
theorem dX7_pool_81 : decode cX7_pool 81 = .ok (.iload_n 3, 1) := by decide +kernel
theorem dX7_pool_82 : decode cX7_pool 82 = .ok (.ireturn, 1) := by decide +kernel
theorem dX7_withdraw_0 : decode cX7_withdraw 0 = .ok (.aload_n 0, 1) := by decide +kernel
theorem dX7_withdraw_1 : decode cX7_withdraw 1 = .ok (.iload_n 1, 1) := by decide +kernel
theorem dX7_withdraw_2 : decode cX7_withdraw 2 = .ok (.iload_n 2, 1) := by decide +kernel
theorem dX7_withdraw_3 : decode cX7_withdraw 3 = .ok (.invokevirtual 201, 3) := by decide +kernel
theorem dX7_withdraw_6 : decode cX7_withdraw 6 = .ok (.astore_n 3, 1) := by decide +kernel
theorem dX7_withdraw_7 : decode cX7_withdraw 7 = .ok (.aload_n 3, 1) := by decide +kernel
theorem dX7_withdraw_8 : decode cX7_withdraw 8 = .ok (.iload_n 2, 1) := by decide +kernel
theorem dX7_withdraw_9 : decode cX7_withdraw 9 = .ok (.invokevirtual 93, 3) := by decide +kernel
theorem dX7_withdraw_12 : decode cX7_withdraw 12 = .ok (.ifCond .ne 12, 3) := by decide +kernel
theorem dX7_withdraw_15 : decode cX7_withdraw 15 = .ok (.aload_n 0, 1) := by decide +kernel
theorem dX7_withdraw_16 : decode cX7_withdraw 16 = .ok (.aload_n 3, 1) := by decide +kernel
theorem dX7_withdraw_17 : decode cX7_withdraw 17 = .ok (.iload_n 2, 1) := by decide +kernel
theorem dX7_withdraw_18 : decode cX7_withdraw 18 = .ok (.invokevirtual 205, 3) := by decide +kernel
theorem dX7_withdraw_21 : decode cX7_withdraw 21 = .ok (.ifCond .eq 13, 3) := by decide +kernel
theorem dX7_withdraw_24 : decode cX7_withdraw 24 = .ok (.new 59, 3) := by decide +kernel
theorem dX7_withdraw_27 : decode cX7_withdraw 27 = .ok (.dup, 1) := by decide +kernel
theorem dX7_withdraw_28 : decode cX7_withdraw 28 = .ok (.ldc 209, 2) := by decide +kernel
theorem dX7_withdraw_30 : decode cX7_withdraw 30 = .ok (.invokespecial 63, 3) := by decide +kernel
theorem dX7_withdraw_33 : decode cX7_withdraw 33 = .ok (.athrow, 1) := by decide +kernel
theorem dX7_withdraw_34 : decode cX7_withdraw 34 = .ok (.iconst 0, 1) := by decide +kernel
theorem dX7_withdraw_35 : decode cX7_withdraw 35 = .ok (.istore 4, 2) := by decide +kernel
theorem dX7_withdraw_37 : decode cX7_withdraw 37 = .ok (.iconst 0, 1) := by decide +kernel
theorem dX7_withdraw_38 : decode cX7_withdraw 38 = .ok (.istore 5, 2) := by decide +kernel
theorem dX7_withdraw_40 : decode cX7_withdraw 40 = .ok (.iload 5, 2) := by decide +kernel
theorem dX7_withdraw_42 : decode cX7_withdraw 42 = .ok (.aload_n 0, 1) := by decide +kernel
theorem dX7_withdraw_43 : decode cX7_withdraw 43 = .ok (.getfield 46, 3) := by decide +kernel
theorem dX7_withdraw_46 : decode cX7_withdraw 46 = .ok (.if_icmp .ge 50, 3) := by decide +kernel
theorem dX7_withdraw_49 : decode cX7_withdraw 49 = .ok (.aload_n 0, 1) := by decide +kernel
theorem dX7_withdraw_50 : decode cX7_withdraw 50 = .ok (.iload 5, 2) := by decide +kernel
theorem dX7_withdraw_52 : decode cX7_withdraw 52 = .ok (.invokevirtual 211, 3) := by decide +kernel
theorem dX7_withdraw_55 : decode cX7_withdraw 55 = .ok (.astore 6, 2) := by decide +kernel
theorem dX7_withdraw_57 : decode cX7_withdraw 57 = .ok (.aload 6, 2) := by decide +kernel
theorem dX7_withdraw_59 : decode cX7_withdraw 59 = .ok (.ifnull 31, 3) := by decide +kernel
theorem dX7_withdraw_62 : decode cX7_withdraw 62 = .ok (.aload 6, 2) := by decide +kernel
theorem dX7_withdraw_64 : decode cX7_withdraw 64 = .ok (.iload_n 2, 1) := by decide +kernel
theorem dX7_withdraw_65 : decode cX7_withdraw 65 = .ok (.invokevirtual 215, 3) := by decide +kernel
theorem dX7_withdraw_68 : decode cX7_withdraw 68 = .ok (.ifCond .eq 22, 3) := by decide +kernel
theorem dX7_withdraw_71 : decode cX7_withdraw 71 = .ok (.aload_n 3, 1) := by decide +kernel
theorem dX7_withdraw_72 : decode cX7_withdraw 72 = .ok (.aload 6, 2) := by decide +kernel
theorem dX7_withdraw_74 : decode cX7_withdraw 74 = .ok (.invokevirtual 216, 3) := by decide +kernel
theorem dX7_withdraw_77 : decode cX7_withdraw 77 = .ok (.ifCond .eq 13, 3) := by decide +kernel
theorem dX7_withdraw_80 : decode cX7_withdraw 80 = .ok (.aload_n 3, 1) := by decide +kernel
theorem dX7_withdraw_81 : decode cX7_withdraw 81 = .ok (.aload 6, 2) := by decide +kernel
theorem dX7_withdraw_83 : decode cX7_withdraw 83 = .ok (.iconst (-1), 1) := by decide +kernel
theorem dX7_withdraw_84 : decode cX7_withdraw 84 = .ok (.invokevirtual 220, 3) := by decide +kernel
theorem dX7_withdraw_87 : decode cX7_withdraw 87 = .ok (.iinc 4 1, 3) := by decide +kernel
theorem dX7_withdraw_90 : decode cX7_withdraw 90 = .ok (.iinc 5 1, 3) := by decide +kernel
theorem dX7_withdraw_93 : decode cX7_withdraw 93 = .ok (.goto (-53), 3) := by decide +kernel
theorem dX7_withdraw_96 : decode cX7_withdraw 96 = .ok (.aload_n 3, 1) := by decide +kernel
theorem dX7_withdraw_97 : decode cX7_withdraw 97 = .ok (.iload_n 2, 1) := by decide +kernel
theorem dX7_withdraw_98 : decode cX7_withdraw 98 = .ok (.invokevirtual 224, 3) := by decide +kernel
theorem dX7_withdraw_101 : decode cX7_withdraw 101 = .ok (.iload 4, 2) := by decide +kernel
theorem dX7_withdraw_103 : decode cX7_withdraw 103 = .ok (.ireturn, 1) := by decide +kernel
theorem dX7_tableau_0 : decode cX7_tableau 0 = .ok (.aload_n 0, 1) := by decide +kernel
theorem dX7_tableau_1 : decode cX7_tableau 1 = .ok (.iload_n 1, 1) := by decide +kernel
theorem dX7_tableau_2 : decode cX7_tableau 2 = .ok (.invokevirtual 66, 3) := by decide +kernel
theorem dX7_tableau_5 : decode cX7_tableau 5 = .ok (.astore_n 2, 1) := by decide +kernel
theorem dX7_tableau_6 : decode cX7_tableau 6 = .ok (.aload_n 2, 1) := by decide +kernel
theorem dX7_tableau_7 : decode cX7_tableau 7 = .ok (.ifnonnull 13, 3) := by decide +kernel
theorem dX7_tableau_10 : decode cX7_tableau 10 = .ok (.new 74, 3) := by decide +kernel
theorem dX7_tableau_13 : decode cX7_tableau 13 = .ok (.dup, 1) := by decide +kernel
theorem dX7_tableau_14 : decode cX7_tableau 14 = .ok (.ldc 227, 2) := by decide +kernel
theorem dX7_tableau_16 : decode cX7_tableau 16 = .ok (.invokespecial 78, 3) := by decide +kernel
theorem dX7_tableau_19 : decode cX7_tableau 19 = .ok (.athrow, 1) := by decide +kernel
theorem dX7_tableau_20 : decode cX7_tableau 20 = .ok (.aload_n 2, 1) := by decide +kernel
theorem dX7_tableau_21 : decode cX7_tableau 21 = .ok (.invokevirtual 229, 3) := by decide +kernel
theorem dX7_tableau_24 : decode cX7_tableau 24 = .ok (.iconst 2, 1) := by decide +kernel
theorem dX7_tableau_25 : decode cX7_tableau 25 = .ok (.if_icmp .ge 13, 3) := by decide +kernel
theorem dX7_tableau_28 : decode cX7_tableau 28 = .ok (.new 59, 3) := by decide +kernel
theorem dX7_tableau_31 : decode cX7_tableau 31 = .ok (.dup, 1) := by decide +kernel
theorem dX7_tableau_32 : decode cX7_tableau 32 = .ok (.ldc 232, 2) := by decide +kernel
theorem dX7_tableau_34 : decode cX7_tableau 34 = .ok (.invokespecial 63, 3) := by decide +kernel
theorem dX7_tableau_37 : decode cX7_tableau 37 = .ok (.athrow, 1) := by decide +kernel
theorem dX7_tableau_38 : decode cX7_tableau 38 = .ok (.aload_n 0, 1) := by decide +kernel
theorem dX7_tableau_39 : decode cX7_tableau 39 = .ok (.getfield 31, 3) := by decide +kernel
theorem dX7_tableau_42 : decode cX7_tableau 42 = .ok (.aload_n 2, 1) := by decide +kernel
theorem dX7_tableau_43 : decode cX7_tableau 43 = .ok (.invokevirtual 234, 3) := by decide +kernel
theorem dX7_tableau_46 : decode cX7_tableau 46 = .ok (.aload_n 0, 1) := by decide +kernel
theorem dX7_tableau_47 : decode cX7_tableau 47 = .ok (.getfield 31, 3) := by decide +kernel
theorem dX7_tableau_50 : decode cX7_tableau 50 = .ok (.getfield 238, 3) := by decide +kernel
theorem dX7_tableau_53 : decode cX7_tableau 53 = .ok (.ireturn, 1) := by decide +kernel
theorem dX7_wins_0 : decode cX7_wins 0 = .ok (.aload_n 0, 1) := by decide +kernel
theorem dX7_wins_1 : decode cX7_wins 1 = .ok (.iload_n 1, 1) := by decide +kernel
theorem dX7_wins_2 : decode cX7_wins 2 = .ok (.iload_n 2, 1) := by decide +kernel
theorem dX7_wins_3 : decode cX7_wins 3 = .ok (.invokevirtual 241, 3) := by decide +kernel
theorem dX7_wins_6 : decode cX7_wins 6 = .ok (.iload_n 3, 1) := by decide +kernel
theorem dX7_wins_7 : decode cX7_wins 7 = .ok (.invokestatic 107, 3) := by decide +kernel
theorem dX7_wins_10 : decode cX7_wins 10 = .ok (.ifCond .ne 13, 3) := by decide +kernel
theorem dX7_wins_13 : decode cX7_wins 13 = .ok (.new 83, 3) := by decide +kernel
theorem dX7_wins_16 : decode cX7_wins 16 = .ok (.dup, 1) := by decide +kernel
theorem dX7_wins_17 : decode cX7_wins 17 = .ok (.ldc 244, 2) := by decide +kernel
theorem dX7_wins_19 : decode cX7_wins 19 = .ok (.invokespecial 87, 3) := by decide +kernel
theorem dX7_wins_22 : decode cX7_wins 22 = .ok (.athrow, 1) := by decide +kernel
theorem dX7_wins_23 : decode cX7_wins 23 = .ok (.aload_n 0, 1) := by decide +kernel
theorem dX7_wins_24 : decode cX7_wins 24 = .ok (.getfield 31, 3) := by decide +kernel
theorem dX7_wins_27 : decode cX7_wins 27 = .ok (.iload_n 1, 1) := by decide +kernel
theorem dX7_wins_28 : decode cX7_wins 28 = .ok (.iload_n 2, 1) := by decide +kernel
theorem dX7_wins_29 : decode cX7_wins 29 = .ok (.invokevirtual 246, 3) := by decide +kernel
theorem dX7_wins_32 : decode cX7_wins 32 = .ok (.ifCond .ne 13, 3) := by decide +kernel
theorem dX7_wins_35 : decode cX7_wins 35 = .ok (.new 59, 3) := by decide +kernel
theorem dX7_wins_38 : decode cX7_wins 38 = .ok (.dup, 1) := by decide +kernel
theorem dX7_wins_39 : decode cX7_wins 39 = .ok (.ldc 250, 2) := by decide +kernel
theorem dX7_wins_41 : decode cX7_wins 41 = .ok (.invokespecial 63, 3) := by decide +kernel
theorem dX7_wins_44 : decode cX7_wins 44 = .ok (.athrow, 1) := by decide +kernel
theorem dX7_wins_45 : decode cX7_wins 45 = .ok (.aload_n 0, 1) := by decide +kernel
theorem dX7_wins_46 : decode cX7_wins 46 = .ok (.getfield 31, 3) := by decide +kernel
theorem dX7_wins_49 : decode cX7_wins 49 = .ok (.iload_n 1, 1) := by decide +kernel
theorem dX7_wins_50 : decode cX7_wins 50 = .ok (.iload_n 2, 1) := by decide +kernel
theorem dX7_wins_51 : decode cX7_wins 51 = .ok (.iload_n 3, 1) := by decide +kernel
theorem dX7_wins_52 : decode cX7_wins 52 = .ok (.invokevirtual 252, 3) := by decide +kernel
theorem dX7_wins_55 : decode cX7_wins 55 = .ok (.ireturn, 1) := by decide +kernel
theorem dX7_lamp_0 : decode cX7_lamp 0 = .ok (.iload_n 1, 1) := by decide +kernel
theorem dX7_lamp_1 : decode cX7_lamp 1 = .ok (.invokestatic 107, 3) := by decide +kernel
theorem dX7_lamp_4 : decode cX7_lamp 4 = .ok (.ifCond .ne 13, 3) := by decide +kernel
theorem dX7_lamp_7 : decode cX7_lamp 7 = .ok (.new 83, 3) := by decide +kernel
theorem dX7_lamp_10 : decode cX7_lamp 10 = .ok (.dup, 1) := by decide +kernel
theorem dX7_lamp_11 : decode cX7_lamp 11 = .ok (.ldc 244, 2) := by decide +kernel
theorem dX7_lamp_13 : decode cX7_lamp 13 = .ok (.invokespecial 87, 3) := by decide +kernel
theorem dX7_lamp_16 : decode cX7_lamp 16 = .ok (.athrow, 1) := by decide +kernel
theorem dX7_lamp_17 : decode cX7_lamp 17 = .ok (.aload_n 0, 1) := by decide +kernel
theorem dX7_lamp_18 : decode cX7_lamp 18 = .ok (.getfield 52, 3) := by decide +kernel
theorem dX7_lamp_21 : decode cX7_lamp 21 = .ok (.ifnonnull 7, 3) := by decide +kernel
theorem dX7_lamp_24 : decode cX7_lamp 24 = .ok (.iconst (-1), 1) := by decide +kernel
theorem dX7_lamp_25 : decode cX7_lamp 25 = .ok (.goto 25, 3) := by decide +kernel
theorem dX7_lamp_28 : decode cX7_lamp 28 = .ok (.aload_n 0, 1) := by decide +kernel
theorem dX7_lamp_29 : decode cX7_lamp 29 = .ok (.getfield 24, 3) := by decide +kernel
theorem dX7_lamp_32 : decode cX7_lamp 32 = .ok (.aload_n 0, 1) := by decide +kernel
theorem dX7_lamp_33 : decode cX7_lamp 33 = .ok (.getfield 24, 3) := by decide +kernel
theorem dX7_lamp_36 : decode cX7_lamp 36 = .ok (.iload_n 1, 1) := by decide +kernel
theorem dX7_lamp_37 : decode cX7_lamp 37 = .ok (.aload_n 0, 1) := by decide +kernel
theorem dX7_lamp_38 : decode cX7_lamp 38 = .ok (.getfield 52, 3) := by decide +kernel
theorem dX7_lamp_41 : decode cX7_lamp 41 = .ok (.getfield 133, 3) := by decide +kernel
theorem dX7_lamp_44 : decode cX7_lamp 44 = .ok (.invokevirtual 255, 3) := by decide +kernel
theorem dX7_lamp_47 : decode cX7_lamp 47 = .ok (.invokevirtual 258, 3) := by decide +kernel
theorem dX7_lamp_50 : decode cX7_lamp 50 = .ok (.ireturn, 1) := by decide +kernel
theorem dX7_holder_0 : decode cX7_holder 0 = .ok (.aload_n 0, 1) := by decide +kernel
theorem dX7_holder_1 : decode cX7_holder 1 = .ok (.getfield 24, 3) := by decide +kernel
theorem dX7_holder_4 : decode cX7_holder 4 = .ok (.aload_n 0, 1) := by decide +kernel
theorem dX7_holder_5 : decode cX7_holder 5 = .ok (.getfield 24, 3) := by decide +kernel
theorem dX7_holder_8 : decode cX7_holder 8 = .ok (.getfield 261, 3) := by decide +kernel
theorem dX7_holder_11 : decode cX7_holder 11 = .ok (.invokevirtual 264, 3) := by decide +kernel
theorem dX7_holder_14 : decode cX7_holder 14 = .ok (.ireturn, 1) := by decide +kernel
theorem dX7_reason_0 : decode cX7_reason 0 = .ok (.aload_n 0, 1) := by decide +kernel
theorem dX7_reason_1 : decode cX7_reason 1 = .ok (.getfield 56, 3) := by decide +kernel
theorem dX7_reason_4 : decode cX7_reason 4 = .ok (.ireturn, 1) := by decide +kernel
theorem dX7_ofBout_0 : decode cX7_ofBout 0 = .ok (.aload_n 0, 1) := by decide +kernel
theorem dX7_ofBout_1 : decode cX7_ofBout 1 = .ok (.iload_n 1, 1) := by decide +kernel
theorem dX7_ofBout_2 : decode cX7_ofBout 2 = .ok (.invokevirtual 211, 3) := by decide +kernel
theorem dX7_ofBout_5 : decode cX7_ofBout 5 = .ok (.astore_n 3, 1) := by decide +kernel
theorem dX7_ofBout_6 : decode cX7_ofBout 6 = .ok (.aload_n 3, 1) := by decide +kernel
theorem dX7_ofBout_7 : decode cX7_ofBout 7 = .ok (.ifnonnull 14, 3) := by decide +kernel
theorem dX7_ofBout_10 : decode cX7_ofBout 10 = .ok (.new 74, 3) := by decide +kernel
theorem dX7_ofBout_13 : decode cX7_ofBout 13 = .ok (.dup, 1) := by decide +kernel
theorem dX7_ofBout_14 : decode cX7_ofBout 14 = .ok (.ldc_w 267, 3) := by decide +kernel
theorem dX7_ofBout_17 : decode cX7_ofBout 17 = .ok (.invokespecial 78, 3) := by decide +kernel
theorem dX7_ofBout_20 : decode cX7_ofBout 20 = .ok (.athrow, 1) := by decide +kernel
theorem dX7_ofBout_21 : decode cX7_ofBout 21 = .ok (.iload_n 2, 1) := by decide +kernel
theorem dX7_ofBout_22 : decode cX7_ofBout 22 = .ok (.iconst 0, 1) := by decide +kernel
theorem dX7_ofBout_23 : decode cX7_ofBout 23 = .ok (.iconst 5, 1) := by decide +kernel
theorem dX7_ofBout_24 : decode cX7_ofBout 24 = .ok (.invokestatic 79, 3) := by decide +kernel
theorem dX7_ofBout_27 : decode cX7_ofBout 27 = .ok (.ifCond .ne 14, 3) := by decide +kernel
theorem dX7_ofBout_30 : decode cX7_ofBout 30 = .ok (.new 83, 3) := by decide +kernel
theorem dX7_ofBout_33 : decode cX7_ofBout 33 = .ok (.dup, 1) := by decide +kernel
theorem dX7_ofBout_34 : decode cX7_ofBout 34 = .ok (.ldc_w 269, 3) := by decide +kernel
theorem dX7_ofBout_37 : decode cX7_ofBout 37 = .ok (.invokespecial 87, 3) := by decide +kernel
theorem dX7_ofBout_40 : decode cX7_ofBout 40 = .ok (.athrow, 1) := by decide +kernel
theorem dX7_ofBout_41 : decode cX7_ofBout 41 = .ok (.aload_n 3, 1) := by decide +kernel
theorem dX7_ofBout_42 : decode cX7_ofBout 42 = .ok (.iload_n 2, 1) := by decide +kernel
theorem dX7_ofBout_43 : decode cX7_ofBout 43 = .ok (.invokevirtual 271, 3) := by decide +kernel
theorem dX7_ofBout_46 : decode cX7_ofBout 46 = .ok (.ireturn, 1) := by decide +kernel
theorem dX7_ofPool_0 : decode cX7_ofPool 0 = .ok (.aload_n 0, 1) := by decide +kernel
theorem dX7_ofPool_1 : decode cX7_ofPool 1 = .ok (.iload_n 1, 1) := by decide +kernel
theorem dX7_ofPool_2 : decode cX7_ofPool 2 = .ok (.iload_n 2, 1) := by decide +kernel
theorem dX7_ofPool_3 : decode cX7_ofPool 3 = .ok (.invokevirtual 201, 3) := by decide +kernel
theorem dX7_ofPool_6 : decode cX7_ofPool 6 = .ok (.astore 4, 2) := by decide +kernel
theorem dX7_ofPool_8 : decode cX7_ofPool 8 = .ok (.iload_n 3, 1) := by decide +kernel
theorem dX7_ofPool_9 : decode cX7_ofPool 9 = .ok (.invokestatic 274, 3) := by decide +kernel
theorem dX7_ofPool_12 : decode cX7_ofPool 12 = .ok (.aload 4, 2) := by decide +kernel
theorem dX7_ofPool_14 : decode cX7_ofPool 14 = .ok (.iload_n 2, 1) := by decide +kernel
theorem dX7_ofPool_15 : decode cX7_ofPool 15 = .ok (.iload_n 3, 1) := by decide +kernel
theorem dX7_ofPool_16 : decode cX7_ofPool 16 = .ok (.invokevirtual 277, 3) := by decide +kernel
theorem dX7_ofPool_19 : decode cX7_ofPool 19 = .ok (.ireturn, 1) := by decide +kernel
theorem dX7_ofPoolAnew_0 : decode cX7_ofPoolAnew 0 = .ok (.aload_n 0, 1) := by decide +kernel
theorem dX7_ofPoolAnew_1 : decode cX7_ofPoolAnew 1 = .ok (.iload_n 1, 1) := by decide +kernel
theorem dX7_ofPoolAnew_2 : decode cX7_ofPoolAnew 2 = .ok (.iload_n 2, 1) := by decide +kernel
theorem dX7_ofPoolAnew_3 : decode cX7_ofPoolAnew 3 = .ok (.invokevirtual 201, 3) := by decide +kernel
theorem dX7_ofPoolAnew_6 : decode cX7_ofPoolAnew 6 = .ok (.astore 4, 2) := by decide +kernel
theorem dX7_ofPoolAnew_8 : decode cX7_ofPoolAnew 8 = .ok (.iload_n 3, 1) := by decide +kernel
theorem dX7_ofPoolAnew_9 : decode cX7_ofPoolAnew 9 = .ok (.invokestatic 274, 3) := by decide +kernel
theorem dX7_ofPoolAnew_12 : decode cX7_ofPoolAnew 12 = .ok (.iconst 0, 1) := by decide +kernel
theorem dX7_ofPoolAnew_13 : decode cX7_ofPoolAnew 13 = .ok (.istore 5, 2) := by decide +kernel
theorem dX7_ofPoolAnew_15 : decode cX7_ofPoolAnew 15 = .ok (.iconst 0, 1) := by decide +kernel
theorem dX7_ofPoolAnew_16 : decode cX7_ofPoolAnew 16 = .ok (.istore 6, 2) := by decide +kernel
theorem dX7_ofPoolAnew_18 : decode cX7_ofPoolAnew 18 = .ok (.iload 6, 2) := by decide +kernel
theorem dX7_ofPoolAnew_20 : decode cX7_ofPoolAnew 20 = .ok (.aload_n 0, 1) := by decide +kernel
theorem dX7_ofPoolAnew_21 : decode cX7_ofPoolAnew 21 = .ok (.getfield 46, 3) := by decide +kernel
theorem dX7_ofPoolAnew_24 : decode cX7_ofPoolAnew 24 = .ok (.if_icmp .ge 58, 3) := by decide +kernel
theorem dX7_ofPoolAnew_27 : decode cX7_ofPoolAnew 27 = .ok (.aload_n 0, 1) := by decide +kernel
theorem dX7_ofPoolAnew_28 : decode cX7_ofPoolAnew 28 = .ok (.iload 6, 2) := by decide +kernel
theorem dX7_ofPoolAnew_30 : decode cX7_ofPoolAnew 30 = .ok (.invokevirtual 211, 3) := by decide +kernel
theorem dX7_ofPoolAnew_33 : decode cX7_ofPoolAnew 33 = .ok (.astore 7, 2) := by decide +kernel
theorem dX7_ofPoolAnew_35 : decode cX7_ofPoolAnew 35 = .ok (.aload 7, 2) := by decide +kernel
theorem dX7_ofPoolAnew_37 : decode cX7_ofPoolAnew 37 = .ok (.ifnull 39, 3) := by decide +kernel
theorem dX7_ofPoolAnew_40 : decode cX7_ofPoolAnew 40 = .ok (.aload 7, 2) := by decide +kernel
theorem dX7_ofPoolAnew_42 : decode cX7_ofPoolAnew 42 = .ok (.iload_n 2, 1) := by decide +kernel
theorem dX7_ofPoolAnew_43 : decode cX7_ofPoolAnew 43 = .ok (.invokevirtual 215, 3) := by decide +kernel
theorem dX7_ofPoolAnew_46 : decode cX7_ofPoolAnew 46 = .ok (.ifCond .eq 30, 3) := by decide +kernel
theorem dX7_ofPoolAnew_49 : decode cX7_ofPoolAnew 49 = .ok (.aload 4, 2) := by decide +kernel
theorem dX7_ofPoolAnew_51 : decode cX7_ofPoolAnew 51 = .ok (.aload 7, 2) := by decide +kernel
theorem dX7_ofPoolAnew_53 : decode cX7_ofPoolAnew 53 = .ok (.invokevirtual 216, 3) := by decide +kernel
theorem dX7_ofPoolAnew_56 : decode cX7_ofPoolAnew 56 = .ok (.ifCond .eq 20, 3) := by decide +kernel
theorem dX7_ofPoolAnew_59 : decode cX7_ofPoolAnew 59 = .ok (.iload 5, 2) := by decide +kernel
theorem dX7_ofPoolAnew_61 : decode cX7_ofPoolAnew 61 = .ok (.aload 7, 2) := by decide +kernel
theorem dX7_ofPoolAnew_63 : decode cX7_ofPoolAnew 63 = .ok (.aload 7, 2) := by decide +kernel
theorem dX7_ofPoolAnew_65 : decode cX7_ofPoolAnew 65 = .ok (.iload_n 2, 1) := by decide +kernel
theorem dX7_ofPoolAnew_66 : decode cX7_ofPoolAnew 66 = .ok (.invokevirtual 280, 3) := by decide +kernel
theorem dX7_ofPoolAnew_69 : decode cX7_ofPoolAnew 69 = .ok (.iload_n 3, 1) := by decide +kernel
theorem dX7_ofPoolAnew_70 : decode cX7_ofPoolAnew 70 = .ok (.invokevirtual 283, 3) := by decide +kernel
theorem dX7_ofPoolAnew_73 : decode cX7_ofPoolAnew 73 = .ok (.iadd, 1) := by decide +kernel
theorem dX7_ofPoolAnew_74 : decode cX7_ofPoolAnew 74 = .ok (.istore 5, 2) := by decide +kernel
theorem dX7_ofPoolAnew_76 : decode cX7_ofPoolAnew 76 = .ok (.iinc 6 1, 3) := by decide +kernel
theorem dX7_ofPoolAnew_79 : decode cX7_ofPoolAnew 79 = .ok (.goto (-61), 3) := by decide +kernel
theorem dX7_ofPoolAnew_82 : decode cX7_ofPoolAnew 82 = .ok (.iload 5, 2) := by decide +kernel
theorem dX7_ofPoolAnew_84 : decode cX7_ofPoolAnew 84 = .ok (.ireturn, 1) := by decide +kernel
theorem dX7_rank_0 : decode cX7_rank 0 = .ok (.aload_n 0, 1) := by decide +kernel
theorem dX7_rank_1 : decode cX7_rank 1 = .ok (.iload_n 1, 1) := by decide +kernel
theorem dX7_rank_2 : decode cX7_rank 2 = .ok (.invokevirtual 66, 3) := by decide +kernel
theorem dX7_rank_5 : decode cX7_rank 5 = .ok (.astore_n 3, 1) := by decide +kernel
theorem dX7_rank_6 : decode cX7_rank 6 = .ok (.aload_n 3, 1) := by decide +kernel
theorem dX7_rank_7 : decode cX7_rank 7 = .ok (.ifnull 7, 3) := by decide +kernel
theorem dX7_rank_10 : decode cX7_rank 10 = .ok (.iload_n 2, 1) := by decide +kernel
theorem dX7_rank_11 : decode cX7_rank 11 = .ok (.ifCond .ge 14, 3) := by decide +kernel
theorem dX7_rank_14 : decode cX7_rank 14 = .ok (.new 74, 3) := by decide +kernel
theorem dX7_rank_17 : decode cX7_rank 17 = .ok (.dup, 1) := by decide +kernel
theorem dX7_rank_18 : decode cX7_rank 18 = .ok (.ldc_w 286, 3) := by decide +kernel
theorem dX7_rank_21 : decode cX7_rank 21 = .ok (.invokespecial 78, 3) := by decide +kernel
theorem dX7_rank_24 : decode cX7_rank 24 = .ok (.athrow, 1) := by decide +kernel
theorem dX7_rank_25 : decode cX7_rank 25 = .ok (.aload_n 3, 1) := by decide +kernel
theorem dX7_rank_26 : decode cX7_rank 26 = .ok (.invokevirtual 288, 3) := by decide +kernel
theorem dX7_rank_29 : decode cX7_rank 29 = .ok (.aload_n 3, 1) := by decide +kernel
theorem dX7_rank_30 : decode cX7_rank 30 = .ok (.iload_n 2, 1) := by decide +kernel
theorem dX7_rank_31 : decode cX7_rank 31 = .ok (.invokevirtual 291, 3) := by decide +kernel
theorem dX7_rank_34 : decode cX7_rank 34 = .ok (.ireturn, 1) := by decide +kernel
theorem dX7_meets_0 : decode cX7_meets 0 = .ok (.aload_n 0, 1) := by decide +kernel
theorem dX7_meets_1 : decode cX7_meets 1 = .ok (.iload_n 1, 1) := by decide +kernel
theorem dX7_meets_2 : decode cX7_meets 2 = .ok (.iload_n 2, 1) := by decide +kernel
theorem dX7_meets_3 : decode cX7_meets 3 = .ok (.invokevirtual 241, 3) := by decide +kernel
theorem dX7_meets_6 : decode cX7_meets 6 = .ok (.iload_n 3, 1) := by decide +kernel
theorem dX7_meets_7 : decode cX7_meets 7 = .ok (.iconst 0, 1) := by decide +kernel
theorem dX7_meets_8 : decode cX7_meets 8 = .ok (.iconst 2, 1) := by decide +kernel
theorem dX7_meets_9 : decode cX7_meets 9 = .ok (.invokestatic 79, 3) := by decide +kernel
theorem dX7_meets_12 : decode cX7_meets 12 = .ok (.ifCond .ne 13, 3) := by decide +kernel
theorem dX7_meets_15 : decode cX7_meets 15 = .ok (.new 83, 3) := by decide +kernel
theorem dX7_meets_18 : decode cX7_meets 18 = .ok (.dup, 1) := by decide +kernel
theorem dX7_meets_19 : decode cX7_meets 19 = .ok (.ldc 244, 2) := by decide +kernel
theorem dX7_meets_21 : decode cX7_meets 21 = .ok (.invokespecial 87, 3) := by decide +kernel
theorem dX7_meets_24 : decode cX7_meets 24 = .ok (.athrow, 1) := by decide +kernel
theorem dX7_meets_25 : decode cX7_meets 25 = .ok (.iload_n 3, 1) := by decide +kernel
theorem dX7_meets_26 : decode cX7_meets 26 = .ok (.iconst 2, 1) := by decide +kernel
theorem dX7_meets_27 : decode cX7_meets 27 = .ok (.if_icmp .ne 15, 3) := by decide +kernel
theorem dX7_meets_30 : decode cX7_meets 30 = .ok (.aload_n 0, 1) := by decide +kernel
theorem dX7_meets_31 : decode cX7_meets 31 = .ok (.getfield 31, 3) := by decide +kernel
theorem dX7_meets_34 : decode cX7_meets 34 = .ok (.iload_n 1, 1) := by decide +kernel
theorem dX7_meets_35 : decode cX7_meets 35 = .ok (.iload_n 2, 1) := by decide +kernel
theorem dX7_meets_36 : decode cX7_meets 36 = .ok (.invokevirtual 294, 3) := by decide +kernel
theorem dX7_meets_39 : decode cX7_meets 39 = .ok (.goto 13, 3) := by decide +kernel
theorem dX7_meets_42 : decode cX7_meets 42 = .ok (.aload_n 0, 1) := by decide +kernel
theorem dX7_meets_43 : decode cX7_meets 43 = .ok (.getfield 31, 3) := by decide +kernel
theorem dX7_meets_46 : decode cX7_meets 46 = .ok (.iload_n 1, 1) := by decide +kernel
theorem dX7_meets_47 : decode cX7_meets 47 = .ok (.iload_n 2, 1) := by decide +kernel
theorem dX7_meets_48 : decode cX7_meets 48 = .ok (.iload_n 3, 1) := by decide +kernel
theorem dX7_meets_49 : decode cX7_meets 49 = .ok (.invokevirtual 297, 3) := by decide +kernel
theorem dX7_meets_52 : decode cX7_meets 52 = .ok (.ireturn, 1) := by decide +kernel
theorem dX7_isWithin_0 : decode cX7_isWithin 0 = .ok (.iload_n 0, 1) := by decide +kernel
theorem dX7_isWithin_1 : decode cX7_isWithin 1 = .ok (.iload_n 1, 1) := by decide +kernel
theorem dX7_isWithin_2 : decode cX7_isWithin 2 = .ok (.if_icmp .lt 12, 3) := by decide +kernel
theorem dX7_isWithin_5 : decode cX7_isWithin 5 = .ok (.iload_n 0, 1) := by decide +kernel
theorem dX7_isWithin_6 : decode cX7_isWithin 6 = .ok (.iload_n 2, 1) := by decide +kernel
theorem dX7_isWithin_7 : decode cX7_isWithin 7 = .ok (.if_icmp .gt 7, 3) := by decide +kernel
theorem dX7_isWithin_10 : decode cX7_isWithin 10 = .ok (.iconst 1, 1) := by decide +kernel
theorem dX7_isWithin_11 : decode cX7_isWithin 11 = .ok (.goto 4, 3) := by decide +kernel
theorem dX7_isWithin_14 : decode cX7_isWithin 14 = .ok (.iconst 0, 1) := by decide +kernel
theorem dX7_isWithin_15 : decode cX7_isWithin 15 = .ok (.ireturn, 1) := by decide +kernel
theorem dX7_isSide_0 : decode cX7_isSide 0 = .ok (.iload_n 0, 1) := by decide +kernel
theorem dX7_isSide_1 : decode cX7_isSide 1 = .ok (.ifCond .eq 8, 3) := by decide +kernel
theorem dX7_isSide_4 : decode cX7_isSide 4 = .ok (.iload_n 0, 1) := by decide +kernel
theorem dX7_isSide_5 : decode cX7_isSide 5 = .ok (.iconst 1, 1) := by decide +kernel
theorem dX7_isSide_6 : decode cX7_isSide 6 = .ok (.if_icmp .ne 7, 3) := by decide +kernel
theorem dX7_isSide_9 : decode cX7_isSide 9 = .ok (.iconst 1, 1) := by decide +kernel
theorem dX7_isSide_10 : decode cX7_isSide 10 = .ok (.goto 4, 3) := by decide +kernel
theorem dX7_isSide_13 : decode cX7_isSide 13 = .ok (.iconst 0, 1) := by decide +kernel
theorem dX7_isSide_14 : decode cX7_isSide 14 = .ok (.ireturn, 1) := by decide +kernel
theorem dX7_isFencer_0 : decode cX7_isFencer 0 = .ok (.iload_n 1, 1) := by decide +kernel
theorem dX7_isFencer_1 : decode cX7_isFencer 1 = .ok (.ifCond .lt 15, 3) := by decide +kernel
theorem dX7_isFencer_4 : decode cX7_isFencer 4 = .ok (.iload_n 1, 1) := by decide +kernel
theorem dX7_isFencer_5 : decode cX7_isFencer 5 = .ok (.aload_n 0, 1) := by decide +kernel
theorem dX7_isFencer_6 : decode cX7_isFencer 6 = .ok (.getfield 42, 3) := by decide +kernel
theorem dX7_isFencer_9 : decode cX7_isFencer 9 = .ok (.if_icmp .ge 7, 3) := by decide +kernel
theorem dX7_isFencer_12 : decode cX7_isFencer 12 = .ok (.iconst 1, 1) := by decide +kernel
theorem dX7_isFencer_13 : decode cX7_isFencer 13 = .ok (.goto 4, 3) := by decide +kernel
theorem dX7_isFencer_16 : decode cX7_isFencer 16 = .ok (.iconst 0, 1) := by decide +kernel
theorem dX7_isFencer_17 : decode cX7_isFencer 17 = .ok (.ireturn, 1) := by decide +kernel
theorem dX7_boutAt_0 : decode cX7_boutAt 0 = .ok (.iload_n 1, 1) := by decide +kernel
theorem dX7_boutAt_1 : decode cX7_boutAt 1 = .ok (.ifCond .lt 29, 3) := by decide +kernel
theorem dX7_boutAt_4 : decode cX7_boutAt 4 = .ok (.iload_n 1, 1) := by decide +kernel
theorem dX7_boutAt_5 : decode cX7_boutAt 5 = .ok (.aload_n 0, 1) := by decide +kernel
theorem dX7_boutAt_6 : decode cX7_boutAt 6 = .ok (.getfield 46, 3) := by decide +kernel
theorem dX7_boutAt_9 : decode cX7_boutAt 9 = .ok (.if_icmp .ge 21, 3) := by decide +kernel
theorem dX7_boutAt_12 : decode cX7_boutAt 12 = .ok (.iload_n 1, 1) := by decide +kernel
theorem dX7_boutAt_13 : decode cX7_boutAt 13 = .ok (.aload_n 0, 1) := by decide +kernel
theorem dX7_boutAt_14 : decode cX7_boutAt 14 = .ok (.getfield 11, 3) := by decide +kernel
theorem dX7_boutAt_17 : decode cX7_boutAt 17 = .ok (.arraylength, 1) := by decide +kernel
theorem dX7_boutAt_18 : decode cX7_boutAt 18 = .ok (.if_icmp .ge 12, 3) := by decide +kernel
theorem dX7_boutAt_21 : decode cX7_boutAt 21 = .ok (.aload_n 0, 1) := by decide +kernel
theorem dX7_boutAt_22 : decode cX7_boutAt 22 = .ok (.getfield 11, 3) := by decide +kernel
theorem dX7_boutAt_25 : decode cX7_boutAt 25 = .ok (.iload_n 1, 1) := by decide +kernel
theorem dX7_boutAt_26 : decode cX7_boutAt 26 = .ok (.aaload, 1) := by decide +kernel
theorem dX7_boutAt_27 : decode cX7_boutAt 27 = .ok (.goto 4, 3) := by decide +kernel
theorem dX7_boutAt_30 : decode cX7_boutAt 30 = .ok (.aconst_null, 1) := by decide +kernel
theorem dX7_boutAt_31 : decode cX7_boutAt 31 = .ok (.areturn, 1) := by decide +kernel
theorem dX7_poolOf_0 : decode cX7_poolOf 0 = .ok (.iload_n 1, 1) := by decide +kernel
theorem dX7_poolOf_1 : decode cX7_poolOf 1 = .ok (.ifCond .lt 29, 3) := by decide +kernel
theorem dX7_poolOf_4 : decode cX7_poolOf 4 = .ok (.iload_n 1, 1) := by decide +kernel
theorem dX7_poolOf_5 : decode cX7_poolOf 5 = .ok (.aload_n 0, 1) := by decide +kernel
theorem dX7_poolOf_6 : decode cX7_poolOf 6 = .ok (.getfield 49, 3) := by decide +kernel
theorem dX7_poolOf_9 : decode cX7_poolOf 9 = .ok (.if_icmp .ge 21, 3) := by decide +kernel
theorem dX7_poolOf_12 : decode cX7_poolOf 12 = .ok (.iload_n 1, 1) := by decide +kernel
theorem dX7_poolOf_13 : decode cX7_poolOf 13 = .ok (.aload_n 0, 1) := by decide +kernel
theorem dX7_poolOf_14 : decode cX7_poolOf 14 = .ok (.getfield 17, 3) := by decide +kernel
theorem dX7_poolOf_17 : decode cX7_poolOf 17 = .ok (.arraylength, 1) := by decide +kernel
theorem dX7_poolOf_18 : decode cX7_poolOf 18 = .ok (.if_icmp .ge 12, 3) := by decide +kernel
theorem dX7_poolOf_21 : decode cX7_poolOf 21 = .ok (.aload_n 0, 1) := by decide +kernel
theorem dX7_poolOf_22 : decode cX7_poolOf 22 = .ok (.getfield 17, 3) := by decide +kernel
theorem dX7_poolOf_25 : decode cX7_poolOf 25 = .ok (.iload_n 1, 1) := by decide +kernel
theorem dX7_poolOf_26 : decode cX7_poolOf 26 = .ok (.aaload, 1) := by decide +kernel
theorem dX7_poolOf_27 : decode cX7_poolOf 27 = .ok (.goto 4, 3) := by decide +kernel
theorem dX7_poolOf_30 : decode cX7_poolOf 30 = .ok (.aconst_null, 1) := by decide +kernel
theorem dX7_poolOf_31 : decode cX7_poolOf 31 = .ok (.areturn, 1) := by decide +kernel
theorem dX7_poolWith_0 : decode cX7_poolWith 0 = .ok (.aload_n 0, 1) := by decide +kernel
theorem dX7_poolWith_1 : decode cX7_poolWith 1 = .ok (.iload_n 1, 1) := by decide +kernel
theorem dX7_poolWith_2 : decode cX7_poolWith 2 = .ok (.invokevirtual 66, 3) := by decide +kernel
theorem dX7_poolWith_5 : decode cX7_poolWith 5 = .ok (.astore_n 3, 1) := by decide +kernel
theorem dX7_poolWith_6 : decode cX7_poolWith 6 = .ok (.aload_n 3, 1) := by decide +kernel
theorem dX7_poolWith_7 : decode cX7_poolWith 7 = .ok (.ifnull 11, 3) := by decide +kernel
theorem dX7_poolWith_10 : decode cX7_poolWith 10 = .ok (.aload_n 3, 1) := by decide +kernel
theorem dX7_poolWith_11 : decode cX7_poolWith 11 = .ok (.iload_n 2, 1) := by decide +kernel
theorem dX7_poolWith_12 : decode cX7_poolWith 12 = .ok (.invokevirtual 88, 3) := by decide +kernel
theorem dX7_poolWith_15 : decode cX7_poolWith 15 = .ok (.ifCond .ne 14, 3) := by decide +kernel
theorem dX7_poolWith_18 : decode cX7_poolWith 18 = .ok (.new 74, 3) := by decide +kernel
theorem dX7_poolWith_21 : decode cX7_poolWith 21 = .ok (.dup, 1) := by decide +kernel
theorem dX7_poolWith_22 : decode cX7_poolWith 22 = .ok (.ldc_w 300, 3) := by decide +kernel
theorem dX7_poolWith_25 : decode cX7_poolWith 25 = .ok (.invokespecial 78, 3) := by decide +kernel
theorem dX7_poolWith_28 : decode cX7_poolWith 28 = .ok (.athrow, 1) := by decide +kernel
theorem dX7_poolWith_29 : decode cX7_poolWith 29 = .ok (.aload_n 3, 1) := by decide +kernel
theorem dX7_poolWith_30 : decode cX7_poolWith 30 = .ok (.areturn, 1) := by decide +kernel
theorem dX7_boutOnPiste_0 : decode cX7_boutOnPiste 0 = .ok (.aload_n 0, 1) := by decide +kernel
theorem dX7_boutOnPiste_1 : decode cX7_boutOnPiste 1 = .ok (.getfield 52, 3) := by decide +kernel
theorem dX7_boutOnPiste_4 : decode cX7_boutOnPiste 4 = .ok (.ifnonnull 14, 3) := by decide +kernel
theorem dX7_boutOnPiste_7 : decode cX7_boutOnPiste 7 = .ok (.new 59, 3) := by decide +kernel
theorem dX7_boutOnPiste_10 : decode cX7_boutOnPiste 10 = .ok (.dup, 1) := by decide +kernel
theorem dX7_boutOnPiste_11 : decode cX7_boutOnPiste 11 = .ok (.ldc_w 302, 3) := by decide +kernel
theorem dX7_boutOnPiste_14 : decode cX7_boutOnPiste 14 = .ok (.invokespecial 63, 3) := by decide +kernel
theorem dX7_boutOnPiste_17 : decode cX7_boutOnPiste 17 = .ok (.athrow, 1) := by decide +kernel
theorem dX7_boutOnPiste_18 : decode cX7_boutOnPiste 18 = .ok (.aload_n 0, 1) := by decide +kernel
theorem dX7_boutOnPiste_19 : decode cX7_boutOnPiste 19 = .ok (.getfield 52, 3) := by decide +kernel
theorem dX7_boutOnPiste_22 : decode cX7_boutOnPiste 22 = .ok (.areturn, 1) := by decide +kernel
theorem dX7_checkRoomInPhrase_0 : decode cX7_checkRoomInPhrase 0 = .ok (.aload_n 0, 1) := by decide +kernel
theorem dX7_checkRoomInPhrase_1 : decode cX7_checkRoomInPhrase 1 = .ok (.getfield 52, 3) := by decide +kernel
theorem dX7_checkRoomInPhrase_4 : decode cX7_checkRoomInPhrase 4 = .ok (.ifnull 24, 3) := by decide +kernel
theorem dX7_checkRoomInPhrase_7 : decode cX7_checkRoomInPhrase 7 = .ok (.iload_n 1, 1) := by decide +kernel
theorem dX7_checkRoomInPhrase_8 : decode cX7_checkRoomInPhrase 8 = .ok (.aload_n 0, 1) := by decide +kernel
theorem dX7_checkRoomInPhrase_9 : decode cX7_checkRoomInPhrase 9 = .ok (.getfield 24, 3) := by decide +kernel
theorem dX7_checkRoomInPhrase_12 : decode cX7_checkRoomInPhrase 12 = .ok (.invokevirtual 304, 3) := by decide +kernel
theorem dX7_checkRoomInPhrase_15 : decode cX7_checkRoomInPhrase 15 = .ok (.if_icmp .lt 13, 3) := by decide +kernel
theorem dX7_checkRoomInPhrase_18 : decode cX7_checkRoomInPhrase 18 = .ok (.aload_n 0, 1) := by decide +kernel
theorem dX7_checkRoomInPhrase_19 : decode cX7_checkRoomInPhrase 19 = .ok (.getfield 24, 3) := by decide +kernel
theorem dX7_checkRoomInPhrase_22 : decode cX7_checkRoomInPhrase 22 = .ok (.invokevirtual 307, 3) := by decide +kernel
theorem dX7_checkRoomInPhrase_25 : decode cX7_checkRoomInPhrase 25 = .ok (.ifCond .eq 14, 3) := by decide +kernel
theorem dX7_checkRoomInPhrase_28 : decode cX7_checkRoomInPhrase 28 = .ok (.new 59, 3) := by decide +kernel
theorem dX7_checkRoomInPhrase_31 : decode cX7_checkRoomInPhrase 31 = .ok (.dup, 1) := by decide +kernel
theorem dX7_checkRoomInPhrase_32 : decode cX7_checkRoomInPhrase 32 = .ok (.ldc_w 310, 3) := by decide +kernel
theorem dX7_checkRoomInPhrase_35 : decode cX7_checkRoomInPhrase 35 = .ok (.invokespecial 63, 3) := by decide +kernel
theorem dX7_checkRoomInPhrase_38 : decode cX7_checkRoomInPhrase 38 = .ok (.athrow, 1) := by decide +kernel
theorem dX7_checkRoomInPhrase_39 : decode cX7_checkRoomInPhrase 39 = .ok (.return_, 1) := by decide +kernel
theorem dX7_checkMatch_0 : decode cX7_checkMatch 0 = .ok (.aload_n 0, 1) := by decide +kernel
theorem dX7_checkMatch_1 : decode cX7_checkMatch 1 = .ok (.getfield 31, 3) := by decide +kernel
theorem dX7_checkMatch_4 : decode cX7_checkMatch 4 = .ok (.iload_n 1, 1) := by decide +kernel
theorem dX7_checkMatch_5 : decode cX7_checkMatch 5 = .ok (.iload_n 2, 1) := by decide +kernel
theorem dX7_checkMatch_6 : decode cX7_checkMatch 6 = .ok (.invokevirtual 312, 3) := by decide +kernel
theorem dX7_checkMatch_9 : decode cX7_checkMatch 9 = .ok (.ifCond .ne 14, 3) := by decide +kernel
theorem dX7_checkMatch_12 : decode cX7_checkMatch 12 = .ok (.new 74, 3) := by decide +kernel
theorem dX7_checkMatch_15 : decode cX7_checkMatch 15 = .ok (.dup, 1) := by decide +kernel
theorem dX7_checkMatch_16 : decode cX7_checkMatch 16 = .ok (.ldc_w 315, 3) := by decide +kernel
theorem dX7_checkMatch_19 : decode cX7_checkMatch 19 = .ok (.invokespecial 78, 3) := by decide +kernel
theorem dX7_checkMatch_22 : decode cX7_checkMatch 22 = .ok (.athrow, 1) := by decide +kernel
theorem dX7_checkMatch_23 : decode cX7_checkMatch 23 = .ok (.return_, 1) := by decide +kernel
theorem dX7_checkOfPool_0 : decode cX7_checkOfPool 0 = .ok (.iload_n 0, 1) := by decide +kernel
theorem dX7_checkOfPool_1 : decode cX7_checkOfPool 1 = .ok (.iconst 0, 1) := by decide +kernel
theorem dX7_checkOfPool_2 : decode cX7_checkOfPool 2 = .ok (.iconst 3, 1) := by decide +kernel
theorem dX7_checkOfPool_3 : decode cX7_checkOfPool 3 = .ok (.invokestatic 79, 3) := by decide +kernel
theorem dX7_checkOfPool_6 : decode cX7_checkOfPool 6 = .ok (.ifCond .ne 14, 3) := by decide +kernel
theorem dX7_checkOfPool_9 : decode cX7_checkOfPool 9 = .ok (.new 83, 3) := by decide +kernel
theorem dX7_checkOfPool_12 : decode cX7_checkOfPool 12 = .ok (.dup, 1) := by decide +kernel
theorem dX7_checkOfPool_13 : decode cX7_checkOfPool 13 = .ok (.ldc_w 269, 3) := by decide +kernel
theorem dX7_checkOfPool_16 : decode cX7_checkOfPool 16 = .ok (.invokespecial 87, 3) := by decide +kernel
theorem dX7_checkOfPool_19 : decode cX7_checkOfPool 19 = .ok (.athrow, 1) := by decide +kernel
theorem dX7_checkOfPool_20 : decode cX7_checkOfPool 20 = .ok (.return_, 1) := by decide +kernel
theorem dX7_isBusyFor_0 : decode cX7_isBusyFor 0 = .ok (.aload_n 0, 1) := by decide +kernel
theorem dX7_isBusyFor_1 : decode cX7_isBusyFor 1 = .ok (.getfield 52, 3) := by decide +kernel
theorem dX7_isBusyFor_4 : decode cX7_isBusyFor 4 = .ok (.ifnull 32, 3) := by decide +kernel
theorem dX7_isBusyFor_7 : decode cX7_isBusyFor 7 = .ok (.aload_n 0, 1) := by decide +kernel
theorem dX7_isBusyFor_8 : decode cX7_isBusyFor 8 = .ok (.getfield 52, 3) := by decide +kernel
theorem dX7_isBusyFor_11 : decode cX7_isBusyFor 11 = .ok (.getfield 317, 3) := by decide +kernel
theorem dX7_isBusyFor_14 : decode cX7_isBusyFor 14 = .ok (.aload_n 1, 1) := by decide +kernel
theorem dX7_isBusyFor_15 : decode cX7_isBusyFor 15 = .ok (.getfield 320, 3) := by decide +kernel
theorem dX7_isBusyFor_18 : decode cX7_isBusyFor 18 = .ok (.if_icmp .ne 18, 3) := by decide +kernel
theorem dX7_isBusyFor_21 : decode cX7_isBusyFor 21 = .ok (.aload_n 0, 1) := by decide +kernel
theorem dX7_isBusyFor_22 : decode cX7_isBusyFor 22 = .ok (.getfield 52, 3) := by decide +kernel
theorem dX7_isBusyFor_25 : decode cX7_isBusyFor 25 = .ok (.iload_n 2, 1) := by decide +kernel
theorem dX7_isBusyFor_26 : decode cX7_isBusyFor 26 = .ok (.invokevirtual 215, 3) := by decide +kernel
theorem dX7_isBusyFor_29 : decode cX7_isBusyFor 29 = .ok (.ifCond .eq 7, 3) := by decide +kernel
theorem dX7_isBusyFor_32 : decode cX7_isBusyFor 32 = .ok (.iconst 1, 1) := by decide +kernel
theorem dX7_isBusyFor_33 : decode cX7_isBusyFor 33 = .ok (.goto 4, 3) := by decide +kernel
theorem dX7_isBusyFor_36 : decode cX7_isBusyFor 36 = .ok (.iconst 0, 1) := by decide +kernel
theorem dX7_isBusyFor_37 : decode cX7_isBusyFor 37 = .ok (.ireturn, 1) := by decide +kernel
theorem dX7_putOnPiste_0 : decode cX7_putOnPiste 0 = .ok (.aload_n 0, 1) := by decide +kernel
theorem dX7_putOnPiste_1 : decode cX7_putOnPiste 1 = .ok (.getfield 46, 3) := by decide +kernel
theorem dX7_putOnPiste_4 : decode cX7_putOnPiste 4 = .ok (.istore_n 2, 1) := by decide +kernel
theorem dX7_putOnPiste_5 : decode cX7_putOnPiste 5 = .ok (.iload_n 2, 1) := by decide +kernel
theorem dX7_putOnPiste_6 : decode cX7_putOnPiste 6 = .ok (.aload_n 0, 1) := by decide +kernel
theorem dX7_putOnPiste_7 : decode cX7_putOnPiste 7 = .ok (.getfield 11, 3) := by decide +kernel
theorem dX7_putOnPiste_10 : decode cX7_putOnPiste 10 = .ok (.arraylength, 1) := by decide +kernel
theorem dX7_putOnPiste_11 : decode cX7_putOnPiste 11 = .ok (.if_icmp .ge 25, 3) := by decide +kernel
theorem dX7_putOnPiste_14 : decode cX7_putOnPiste 14 = .ok (.aload_n 0, 1) := by decide +kernel
theorem dX7_putOnPiste_15 : decode cX7_putOnPiste 15 = .ok (.getfield 11, 3) := by decide +kernel
theorem dX7_putOnPiste_18 : decode cX7_putOnPiste 18 = .ok (.iload_n 2, 1) := by decide +kernel
theorem dX7_putOnPiste_19 : decode cX7_putOnPiste 19 = .ok (.aload_n 1, 1) := by decide +kernel
theorem dX7_putOnPiste_20 : decode cX7_putOnPiste 20 = .ok (.aastore, 1) := by decide +kernel
theorem dX7_putOnPiste_21 : decode cX7_putOnPiste 21 = .ok (.aload_n 0, 1) := by decide +kernel
theorem dX7_putOnPiste_22 : decode cX7_putOnPiste 22 = .ok (.dup, 1) := by decide +kernel
theorem dX7_putOnPiste_23 : decode cX7_putOnPiste 23 = .ok (.getfield 46, 3) := by decide +kernel
theorem dX7_putOnPiste_26 : decode cX7_putOnPiste 26 = .ok (.iconst 1, 1) := by decide +kernel
theorem dX7_putOnPiste_27 : decode cX7_putOnPiste 27 = .ok (.iadd, 1) := by decide +kernel
theorem dX7_putOnPiste_28 : decode cX7_putOnPiste 28 = .ok (.putfield 46, 3) := by decide +kernel
theorem dX7_putOnPiste_31 : decode cX7_putOnPiste 31 = .ok (.aload_n 0, 1) := by decide +kernel
theorem dX7_putOnPiste_32 : decode cX7_putOnPiste 32 = .ok (.aload_n 1, 1) := by decide +kernel
theorem dX7_putOnPiste_33 : decode cX7_putOnPiste 33 = .ok (.putfield 52, 3) := by decide +kernel
theorem dX7_putOnPiste_36 : decode cX7_putOnPiste 36 = .ok (.iload_n 2, 1) := by decide +kernel
theorem dX7_putOnPiste_37 : decode cX7_putOnPiste 37 = .ok (.ireturn, 1) := by decide +kernel
theorem dX7_clearPisteIfOver_0 : decode cX7_clearPisteIfOver 0 = .ok (.aload_n 1, 1) := by decide +kernel
theorem dX7_clearPisteIfOver_1 : decode cX7_clearPisteIfOver 1 = .ok (.invokevirtual 162, 3) := by decide +kernel
theorem dX7_clearPisteIfOver_4 : decode cX7_clearPisteIfOver 4 = .ok (.ifCond .ne 4, 3) := by decide +kernel
theorem dX7_clearPisteIfOver_7 : decode cX7_clearPisteIfOver 7 = .ok (.return_, 1) := by decide +kernel
theorem dX7_clearPisteIfOver_8 : decode cX7_clearPisteIfOver 8 = .ok (.aload_n 0, 1) := by decide +kernel
theorem dX7_clearPisteIfOver_9 : decode cX7_clearPisteIfOver 9 = .ok (.aconst_null, 1) := by decide +kernel
theorem dX7_clearPisteIfOver_10 : decode cX7_clearPisteIfOver 10 = .ok (.putfield 52, 3) := by decide +kernel
theorem dX7_clearPisteIfOver_13 : decode cX7_clearPisteIfOver 13 = .ok (.aload_n 0, 1) := by decide +kernel
theorem dX7_clearPisteIfOver_14 : decode cX7_clearPisteIfOver 14 = .ok (.getfield 24, 3) := by decide +kernel
theorem dX7_clearPisteIfOver_17 : decode cX7_clearPisteIfOver 17 = .ok (.invokevirtual 147, 3) := by decide +kernel
theorem dX7_clearPisteIfOver_20 : decode cX7_clearPisteIfOver 20 = .ok (.aload_n 0, 1) := by decide +kernel
theorem dX7_clearPisteIfOver_21 : decode cX7_clearPisteIfOver 21 = .ok (.aload_n 1, 1) := by decide +kernel
theorem dX7_clearPisteIfOver_22 : decode cX7_clearPisteIfOver 22 = .ok (.getfield 317, 3) := by decide +kernel
theorem dX7_clearPisteIfOver_25 : decode cX7_clearPisteIfOver 25 = .ok (.invokevirtual 66, 3) := by decide +kernel
theorem dX7_clearPisteIfOver_28 : decode cX7_clearPisteIfOver 28 = .ok (.astore_n 2, 1) := by decide +kernel
theorem dX7_clearPisteIfOver_29 : decode cX7_clearPisteIfOver 29 = .ok (.aload_n 2, 1) := by decide +kernel
theorem dX7_clearPisteIfOver_30 : decode cX7_clearPisteIfOver 30 = .ok (.ifnull 9, 3) := by decide +kernel
theorem dX7_clearPisteIfOver_33 : decode cX7_clearPisteIfOver 33 = .ok (.aload_n 2, 1) := by decide +kernel
theorem dX7_clearPisteIfOver_34 : decode cX7_clearPisteIfOver 34 = .ok (.aload_n 1, 1) := by decide +kernel
theorem dX7_clearPisteIfOver_35 : decode cX7_clearPisteIfOver 35 = .ok (.iconst 1, 1) := by decide +kernel
theorem dX7_clearPisteIfOver_36 : decode cX7_clearPisteIfOver 36 = .ok (.invokevirtual 220, 3) := by decide +kernel
theorem dX7_clearPisteIfOver_39 : decode cX7_clearPisteIfOver 39 = .ok (.return_, 1) := by decide +kernel
theorem dX7_because_0 : decode cX7_because 0 = .ok (.aload_n 0, 1) := by decide +kernel
theorem dX7_because_1 : decode cX7_because 1 = .ok (.iload_n 1, 1) := by decide +kernel
theorem dX7_because_2 : decode cX7_because 2 = .ok (.putfield 56, 3) := by decide +kernel
theorem dX7_because_5 : decode cX7_because 5 = .ok (.iload_n 2, 1) := by decide +kernel
theorem dX7_because_6 : decode cX7_because 6 = .ok (.ireturn, 1) := by decide +kernel
theorem dX7_judgeFor_0 : decode cX7_judgeFor 0 = .ok (.aload_n 0, 1) := by decide +kernel
theorem dX7_judgeFor_1 : decode cX7_judgeFor 1 = .ok (.getfield 24, 3) := by decide +kernel
theorem dX7_judgeFor_4 : decode cX7_judgeFor 4 = .ok (.iconst 0, 1) := by decide +kernel
theorem dX7_judgeFor_5 : decode cX7_judgeFor 5 = .ok (.iload_n 1, 1) := by decide +kernel
theorem dX7_judgeFor_6 : decode cX7_judgeFor 6 = .ok (.invokevirtual 255, 3) := by decide +kernel
theorem dX7_judgeFor_9 : decode cX7_judgeFor 9 = .ok (.istore_n 3, 1) := by decide +kernel
theorem dX7_judgeFor_10 : decode cX7_judgeFor 10 = .ok (.aload_n 0, 1) := by decide +kernel
theorem dX7_judgeFor_11 : decode cX7_judgeFor 11 = .ok (.getfield 24, 3) := by decide +kernel
theorem dX7_judgeFor_14 : decode cX7_judgeFor 14 = .ok (.iconst 1, 1) := by decide +kernel
theorem dX7_judgeFor_15 : decode cX7_judgeFor 15 = .ok (.iload_n 1, 1) := by decide +kernel
theorem dX7_judgeFor_16 : decode cX7_judgeFor 16 = .ok (.invokevirtual 255, 3) := by decide +kernel
theorem dX7_judgeFor_19 : decode cX7_judgeFor 19 = .ok (.istore 4, 2) := by decide +kernel
theorem dX7_judgeFor_21 : decode cX7_judgeFor 21 = .ok (.iload_n 3, 1) := by decide +kernel
theorem dX7_judgeFor_22 : decode cX7_judgeFor 22 = .ok (.iconst (-1), 1) := by decide +kernel
theorem dX7_judgeFor_23 : decode cX7_judgeFor 23 = .ok (.if_icmp .ne 16, 3) := by decide +kernel
theorem dX7_judgeFor_26 : decode cX7_judgeFor 26 = .ok (.iload 4, 2) := by decide +kernel
theorem dX7_judgeFor_28 : decode cX7_judgeFor 28 = .ok (.iconst (-1), 1) := by decide +kernel
theorem dX7_judgeFor_29 : decode cX7_judgeFor 29 = .ok (.if_icmp .ne 10, 3) := by decide +kernel
theorem dX7_judgeFor_32 : decode cX7_judgeFor 32 = .ok (.aload_n 0, 1) := by decide +kernel
theorem dX7_judgeFor_33 : decode cX7_judgeFor 33 = .ok (.iconst 0, 1) := by decide +kernel
theorem dX7_judgeFor_34 : decode cX7_judgeFor 34 = .ok (.iconst 0, 1) := by decide +kernel
theorem dX7_judgeFor_35 : decode cX7_judgeFor 35 = .ok (.invokevirtual 323, 3) := by decide +kernel
theorem dX7_judgeFor_38 : decode cX7_judgeFor 38 = .ok (.ireturn, 1) := by decide +kernel
theorem dX7_judgeFor_39 : decode cX7_judgeFor 39 = .ok (.iload_n 3, 1) := by decide +kernel
theorem dX7_judgeFor_40 : decode cX7_judgeFor 40 = .ok (.iconst (-1), 1) := by decide +kernel
theorem dX7_judgeFor_41 : decode cX7_judgeFor 41 = .ok (.if_icmp .eq 9, 3) := by decide +kernel
theorem dX7_judgeFor_44 : decode cX7_judgeFor 44 = .ok (.iload 4, 2) := by decide +kernel
theorem dX7_judgeFor_46 : decode cX7_judgeFor 46 = .ok (.iconst (-1), 1) := by decide +kernel
theorem dX7_judgeFor_47 : decode cX7_judgeFor 47 = .ok (.if_icmp .ne 56, 3) := by decide +kernel
theorem dX7_judgeFor_50 : decode cX7_judgeFor 50 = .ok (.iload_n 3, 1) := by decide +kernel
theorem dX7_judgeFor_51 : decode cX7_judgeFor 51 = .ok (.iconst (-1), 1) := by decide +kernel
theorem dX7_judgeFor_52 : decode cX7_judgeFor 52 = .ok (.if_icmp .ne 8, 3) := by decide +kernel
theorem dX7_judgeFor_55 : decode cX7_judgeFor 55 = .ok (.iload 4, 2) := by decide +kernel
theorem dX7_judgeFor_57 : decode cX7_judgeFor 57 = .ok (.goto 4, 3) := by decide +kernel
theorem dX7_judgeFor_60 : decode cX7_judgeFor 60 = .ok (.iload_n 3, 1) := by decide +kernel
theorem dX7_judgeFor_61 : decode cX7_judgeFor 61 = .ok (.istore 5, 2) := by decide +kernel
theorem dX7_judgeFor_63 : decode cX7_judgeFor 63 = .ok (.aload_n 0, 1) := by decide +kernel
theorem dX7_judgeFor_64 : decode cX7_judgeFor 64 = .ok (.getfield 24, 3) := by decide +kernel
theorem dX7_judgeFor_67 : decode cX7_judgeFor 67 = .ok (.iload 5, 2) := by decide +kernel
theorem dX7_judgeFor_69 : decode cX7_judgeFor 69 = .ok (.invokevirtual 258, 3) := by decide +kernel
theorem dX7_judgeFor_72 : decode cX7_judgeFor 72 = .ok (.ifCond .ne 24, 3) := by decide +kernel
theorem dX7_judgeFor_75 : decode cX7_judgeFor 75 = .ok (.aload_n 0, 1) := by decide +kernel
theorem dX7_judgeFor_76 : decode cX7_judgeFor 76 = .ok (.iconst 1, 1) := by decide +kernel
theorem dX7_judgeFor_77 : decode cX7_judgeFor 77 = .ok (.iload_n 3, 1) := by decide +kernel
theorem dX7_judgeFor_78 : decode cX7_judgeFor 78 = .ok (.iconst (-1), 1) := by decide +kernel
theorem dX7_judgeFor_79 : decode cX7_judgeFor 79 = .ok (.if_icmp .ne 7, 3) := by decide +kernel
theorem dX7_judgeFor_82 : decode cX7_judgeFor 82 = .ok (.iconst 1, 1) := by decide +kernel
theorem dX7_judgeFor_83 : decode cX7_judgeFor 83 = .ok (.goto 4, 3) := by decide +kernel
theorem dX7_judgeFor_86 : decode cX7_judgeFor 86 = .ok (.iconst 0, 1) := by decide +kernel
theorem dX7_judgeFor_87 : decode cX7_judgeFor 87 = .ok (.invokestatic 326, 3) := by decide +kernel
theorem dX7_judgeFor_90 : decode cX7_judgeFor 90 = .ok (.invokevirtual 323, 3) := by decide +kernel
theorem dX7_judgeFor_93 : decode cX7_judgeFor 93 = .ok (.goto 9, 3) := by decide +kernel
theorem dX7_judgeFor_96 : decode cX7_judgeFor 96 = .ok (.aload_n 0, 1) := by decide +kernel
theorem dX7_judgeFor_97 : decode cX7_judgeFor 97 = .ok (.iconst 2, 1) := by decide +kernel
theorem dX7_judgeFor_98 : decode cX7_judgeFor 98 = .ok (.iconst 0, 1) := by decide +kernel
theorem dX7_judgeFor_99 : decode cX7_judgeFor 99 = .ok (.invokevirtual 323, 3) := by decide +kernel
theorem dX7_judgeFor_102 : decode cX7_judgeFor 102 = .ok (.ireturn, 1) := by decide +kernel
theorem dX7_judgeFor_103 : decode cX7_judgeFor 103 = .ok (.iload_n 1, 1) := by decide +kernel
theorem dX7_judgeFor_104 : decode cX7_judgeFor 104 = .ok (.iconst 1, 1) := by decide +kernel
theorem dX7_judgeFor_105 : decode cX7_judgeFor 105 = .ok (.if_icmp .ne 18, 3) := by decide +kernel
theorem dX7_judgeFor_108 : decode cX7_judgeFor 108 = .ok (.aload_n 0, 1) := by decide +kernel
theorem dX7_judgeFor_109 : decode cX7_judgeFor 109 = .ok (.iconst 3, 1) := by decide +kernel
theorem dX7_judgeFor_110 : decode cX7_judgeFor 110 = .ok (.iload_n 2, 1) := by decide +kernel
theorem dX7_judgeFor_111 : decode cX7_judgeFor 111 = .ok (.ifCond .eq 7, 3) := by decide +kernel
theorem dX7_judgeFor_114 : decode cX7_judgeFor 114 = .ok (.iconst 0, 1) := by decide +kernel
theorem dX7_judgeFor_115 : decode cX7_judgeFor 115 = .ok (.goto 4, 3) := by decide +kernel
theorem dX7_judgeFor_118 : decode cX7_judgeFor 118 = .ok (.iconst 3, 1) := by decide +kernel
theorem dX7_judgeFor_119 : decode cX7_judgeFor 119 = .ok (.invokevirtual 323, 3) := by decide +kernel
theorem dX7_judgeFor_122 : decode cX7_judgeFor 122 = .ok (.ireturn, 1) := by decide +kernel
theorem dX7_judgeFor_123 : decode cX7_judgeFor 123 = .ok (.aload_n 0, 1) := by decide +kernel
theorem dX7_judgeFor_124 : decode cX7_judgeFor 124 = .ok (.iload_n 3, 1) := by decide +kernel
theorem dX7_judgeFor_125 : decode cX7_judgeFor 125 = .ok (.iload 4, 2) := by decide +kernel
theorem dX7_judgeFor_127 : decode cX7_judgeFor 127 = .ok (.invokevirtual 329, 3) := by decide +kernel
theorem dX7_judgeFor_130 : decode cX7_judgeFor 130 = .ok (.ireturn, 1) := by decide +kernel
theorem dX7_judgeByRight_0 : decode cX7_judgeByRight 0 = .ok (.aload_n 0, 1) := by decide +kernel
theorem dX7_judgeByRight_1 : decode cX7_judgeByRight 1 = .ok (.getfield 24, 3) := by decide +kernel
theorem dX7_judgeByRight_4 : decode cX7_judgeByRight 4 = .ok (.iload_n 1, 1) := by decide +kernel
theorem dX7_judgeByRight_5 : decode cX7_judgeByRight 5 = .ok (.iload_n 2, 1) := by decide +kernel
theorem dX7_judgeByRight_6 : decode cX7_judgeByRight 6 = .ok (.invokestatic 332, 3) := by decide +kernel
theorem dX7_judgeByRight_9 : decode cX7_judgeByRight 9 = .ok (.invokevirtual 264, 3) := by decide +kernel
theorem dX7_judgeByRight_12 : decode cX7_judgeByRight 12 = .ok (.istore_n 3, 1) := by decide +kernel
theorem dX7_judgeByRight_13 : decode cX7_judgeByRight 13 = .ok (.iload_n 3, 1) := by decide +kernel
theorem dX7_judgeByRight_14 : decode cX7_judgeByRight 14 = .ok (.iconst (-1), 1) := by decide +kernel
theorem dX7_judgeByRight_15 : decode cX7_judgeByRight 15 = .ok (.if_icmp .ne 10, 3) := by decide +kernel
theorem dX7_judgeByRight_18 : decode cX7_judgeByRight 18 = .ok (.aload_n 0, 1) := by decide +kernel
theorem dX7_judgeByRight_19 : decode cX7_judgeByRight 19 = .ok (.iconst 4, 1) := by decide +kernel
theorem dX7_judgeByRight_20 : decode cX7_judgeByRight 20 = .ok (.iconst 0, 1) := by decide +kernel
theorem dX7_judgeByRight_21 : decode cX7_judgeByRight 21 = .ok (.invokevirtual 323, 3) := by decide +kernel
theorem dX7_judgeByRight_24 : decode cX7_judgeByRight 24 = .ok (.ireturn, 1) := by decide +kernel
theorem dX7_judgeByRight_25 : decode cX7_judgeByRight 25 = .ok (.iload_n 3, 1) := by decide +kernel
theorem dX7_judgeByRight_26 : decode cX7_judgeByRight 26 = .ok (.ifCond .ne 7, 3) := by decide +kernel
theorem dX7_judgeByRight_29 : decode cX7_judgeByRight 29 = .ok (.iload_n 1, 1) := by decide +kernel
theorem dX7_judgeByRight_30 : decode cX7_judgeByRight 30 = .ok (.goto 4, 3) := by decide +kernel
theorem dX7_judgeByRight_33 : decode cX7_judgeByRight 33 = .ok (.iload_n 2, 1) := by decide +kernel
theorem dX7_judgeByRight_34 : decode cX7_judgeByRight 34 = .ok (.istore 4, 2) := by decide +kernel
theorem dX7_judgeByRight_36 : decode cX7_judgeByRight 36 = .ok (.iload_n 3, 1) := by decide +kernel
theorem dX7_judgeByRight_37 : decode cX7_judgeByRight 37 = .ok (.ifCond .ne 7, 3) := by decide +kernel
theorem dX7_judgeByRight_40 : decode cX7_judgeByRight 40 = .ok (.iload_n 2, 1) := by decide +kernel
theorem dX7_judgeByRight_41 : decode cX7_judgeByRight 41 = .ok (.goto 4, 3) := by decide +kernel
theorem dX7_judgeByRight_44 : decode cX7_judgeByRight 44 = .ok (.iload_n 1, 1) := by decide +kernel
theorem dX7_judgeByRight_45 : decode cX7_judgeByRight 45 = .ok (.istore 5, 2) := by decide +kernel
theorem dX7_judgeByRight_47 : decode cX7_judgeByRight 47 = .ok (.aload_n 0, 1) := by decide +kernel
theorem dX7_judgeByRight_48 : decode cX7_judgeByRight 48 = .ok (.getfield 24, 3) := by decide +kernel
theorem dX7_judgeByRight_51 : decode cX7_judgeByRight 51 = .ok (.iload 4, 2) := by decide +kernel
theorem dX7_judgeByRight_53 : decode cX7_judgeByRight 53 = .ok (.invokevirtual 337, 3) := by decide +kernel
theorem dX7_judgeByRight_56 : decode cX7_judgeByRight 56 = .ok (.aload_n 0, 1) := by decide +kernel
theorem dX7_judgeByRight_57 : decode cX7_judgeByRight 57 = .ok (.getfield 24, 3) := by decide +kernel
theorem dX7_judgeByRight_60 : decode cX7_judgeByRight 60 = .ok (.iload 5, 2) := by decide +kernel
theorem dX7_judgeByRight_62 : decode cX7_judgeByRight 62 = .ok (.invokevirtual 337, 3) := by decide +kernel
theorem dX7_judgeByRight_65 : decode cX7_judgeByRight 65 = .ok (.isub, 1) := by decide +kernel
theorem dX7_judgeByRight_66 : decode cX7_judgeByRight 66 = .ok (.istore 6, 2) := by decide +kernel
theorem dX7_judgeByRight_68 : decode cX7_judgeByRight 68 = .ok (.aload_n 0, 1) := by decide +kernel
theorem dX7_judgeByRight_69 : decode cX7_judgeByRight 69 = .ok (.getfield 24, 3) := by decide +kernel
theorem dX7_judgeByRight_72 : decode cX7_judgeByRight 72 = .ok (.iload 5, 2) := by decide +kernel
theorem dX7_judgeByRight_74 : decode cX7_judgeByRight 74 = .ok (.invokevirtual 258, 3) := by decide +kernel
theorem dX7_judgeByRight_77 : decode cX7_judgeByRight 77 = .ok (.ifCond .ne 23, 3) := by decide +kernel
theorem dX7_judgeByRight_80 : decode cX7_judgeByRight 80 = .ok (.iload 6, 2) := by decide +kernel
theorem dX7_judgeByRight_82 : decode cX7_judgeByRight 82 = .ok (.sipush 150, 3) := by decide +kernel
theorem dX7_judgeByRight_85 : decode cX7_judgeByRight 85 = .ok (.if_icmp .lt 15, 3) := by decide +kernel
theorem dX7_judgeByRight_88 : decode cX7_judgeByRight 88 = .ok (.aload_n 0, 1) := by decide +kernel
theorem dX7_judgeByRight_89 : decode cX7_judgeByRight 89 = .ok (.iconst 5, 1) := by decide +kernel
theorem dX7_judgeByRight_90 : decode cX7_judgeByRight 90 = .ok (.iconst 1, 1) := by decide +kernel
theorem dX7_judgeByRight_91 : decode cX7_judgeByRight 91 = .ok (.iload_n 3, 1) := by decide +kernel
theorem dX7_judgeByRight_92 : decode cX7_judgeByRight 92 = .ok (.isub, 1) := by decide +kernel
theorem dX7_judgeByRight_93 : decode cX7_judgeByRight 93 = .ok (.invokestatic 326, 3) := by decide +kernel
theorem dX7_judgeByRight_96 : decode cX7_judgeByRight 96 = .ok (.invokevirtual 323, 3) := by decide +kernel
theorem dX7_judgeByRight_99 : decode cX7_judgeByRight 99 = .ok (.ireturn, 1) := by decide +kernel
theorem dX7_judgeByRight_100 : decode cX7_judgeByRight 100 = .ok (.aload_n 0, 1) := by decide +kernel
theorem dX7_judgeByRight_101 : decode cX7_judgeByRight 101 = .ok (.getfield 24, 3) := by decide +kernel
theorem dX7_judgeByRight_104 : decode cX7_judgeByRight 104 = .ok (.iload 4, 2) := by decide +kernel
theorem dX7_judgeByRight_106 : decode cX7_judgeByRight 106 = .ok (.invokevirtual 258, 3) := by decide +kernel
theorem dX7_judgeByRight_109 : decode cX7_judgeByRight 109 = .ok (.ifCond .ne 16, 3) := by decide +kernel
theorem dX7_judgeByRight_112 : decode cX7_judgeByRight 112 = .ok (.aload_n 0, 1) := by decide +kernel
theorem dX7_judgeByRight_113 : decode cX7_judgeByRight 113 = .ok (.bipush 6, 2) := by decide +kernel
theorem dX7_judgeByRight_115 : decode cX7_judgeByRight 115 = .ok (.iload_n 3, 1) := by decide +kernel
theorem dX7_judgeByRight_116 : decode cX7_judgeByRight 116 = .ok (.invokestatic 326, 3) := by decide +kernel
theorem dX7_judgeByRight_119 : decode cX7_judgeByRight 119 = .ok (.invokevirtual 323, 3) := by decide +kernel
theorem dX7_judgeByRight_122 : decode cX7_judgeByRight 122 = .ok (.goto 9, 3) := by decide +kernel
theorem dX7_judgeByRight_125 : decode cX7_judgeByRight 125 = .ok (.aload_n 0, 1) := by decide +kernel
theorem dX7_judgeByRight_126 : decode cX7_judgeByRight 126 = .ok (.iconst 2, 1) := by decide +kernel
theorem dX7_judgeByRight_127 : decode cX7_judgeByRight 127 = .ok (.iconst 0, 1) := by decide +kernel
theorem dX7_judgeByRight_128 : decode cX7_judgeByRight 128 = .ok (.invokevirtual 323, 3) := by decide +kernel
theorem dX7_judgeByRight_131 : decode cX7_judgeByRight 131 = .ok (.ireturn, 1) := by decide +kernel
theorem dX7_bitOf_0 : decode cX7_bitOf 0 = .ok (.iload_n 0, 1) := by decide +kernel
theorem dX7_bitOf_1 : decode cX7_bitOf 1 = .ok (.ifCond .ne 7, 3) := by decide +kernel
theorem dX7_bitOf_4 : decode cX7_bitOf 4 = .ok (.iconst 1, 1) := by decide +kernel
theorem dX7_bitOf_5 : decode cX7_bitOf 5 = .ok (.goto 4, 3) := by decide +kernel
theorem dX7_bitOf_8 : decode cX7_bitOf 8 = .ok (.iconst 2, 1) := by decide +kernel
theorem dX7_bitOf_9 : decode cX7_bitOf 9 = .ok (.ireturn, 1) := by decide +kernel
theorem dJ6_bitCount_0f7a4_0 : decode cJ6_bitCount_0f7a4 0 = .ok (.iload_n 0, 1) := by decide +kernel
theorem dJ6_bitCount_0f7a4_1 : decode cJ6_bitCount_0f7a4 1 = .ok (.iload_n 0, 1) := by decide +kernel
theorem dJ6_bitCount_0f7a4_2 : decode cJ6_bitCount_0f7a4 2 = .ok (.iconst 1, 1) := by decide +kernel
theorem dJ6_bitCount_0f7a4_3 : decode cJ6_bitCount_0f7a4 3 = .ok (.iushr, 1) := by decide +kernel
theorem dJ6_bitCount_0f7a4_4 : decode cJ6_bitCount_0f7a4 4 = .ok (.ldc_w 265, 3) := by decide +kernel
theorem dJ6_bitCount_0f7a4_7 : decode cJ6_bitCount_0f7a4 7 = .ok (.iand, 1) := by decide +kernel
theorem dJ6_bitCount_0f7a4_8 : decode cJ6_bitCount_0f7a4 8 = .ok (.isub, 1) := by decide +kernel
theorem dJ6_bitCount_0f7a4_9 : decode cJ6_bitCount_0f7a4 9 = .ok (.istore_n 0, 1) := by decide +kernel
theorem dJ6_bitCount_0f7a4_10 : decode cJ6_bitCount_0f7a4 10 = .ok (.iload_n 0, 1) := by decide +kernel
theorem dJ6_bitCount_0f7a4_11 : decode cJ6_bitCount_0f7a4 11 = .ok (.ldc_w 266, 3) := by decide +kernel
theorem dJ6_bitCount_0f7a4_14 : decode cJ6_bitCount_0f7a4 14 = .ok (.iand, 1) := by decide +kernel
theorem dJ6_bitCount_0f7a4_15 : decode cJ6_bitCount_0f7a4 15 = .ok (.iload_n 0, 1) := by decide +kernel
theorem dJ6_bitCount_0f7a4_16 : decode cJ6_bitCount_0f7a4 16 = .ok (.iconst 2, 1) := by decide +kernel
theorem dJ6_bitCount_0f7a4_17 : decode cJ6_bitCount_0f7a4 17 = .ok (.iushr, 1) := by decide +kernel
theorem dJ6_bitCount_0f7a4_18 : decode cJ6_bitCount_0f7a4 18 = .ok (.ldc_w 266, 3) := by decide +kernel
theorem dJ6_bitCount_0f7a4_21 : decode cJ6_bitCount_0f7a4 21 = .ok (.iand, 1) := by decide +kernel
theorem dJ6_bitCount_0f7a4_22 : decode cJ6_bitCount_0f7a4 22 = .ok (.iadd, 1) := by decide +kernel
theorem dJ6_bitCount_0f7a4_23 : decode cJ6_bitCount_0f7a4 23 = .ok (.istore_n 0, 1) := by decide +kernel
theorem dJ6_bitCount_0f7a4_24 : decode cJ6_bitCount_0f7a4 24 = .ok (.iload_n 0, 1) := by decide +kernel
theorem dJ6_bitCount_0f7a4_25 : decode cJ6_bitCount_0f7a4 25 = .ok (.iload_n 0, 1) := by decide +kernel
theorem dJ6_bitCount_0f7a4_26 : decode cJ6_bitCount_0f7a4 26 = .ok (.iconst 4, 1) := by decide +kernel
theorem dJ6_bitCount_0f7a4_27 : decode cJ6_bitCount_0f7a4 27 = .ok (.iushr, 1) := by decide +kernel
theorem dJ6_bitCount_0f7a4_28 : decode cJ6_bitCount_0f7a4 28 = .ok (.iadd, 1) := by decide +kernel
theorem dJ6_bitCount_0f7a4_29 : decode cJ6_bitCount_0f7a4 29 = .ok (.ldc_w 267, 3) := by decide +kernel
theorem dJ6_bitCount_0f7a4_32 : decode cJ6_bitCount_0f7a4 32 = .ok (.iand, 1) := by decide +kernel
theorem dJ6_bitCount_0f7a4_33 : decode cJ6_bitCount_0f7a4 33 = .ok (.istore_n 0, 1) := by decide +kernel
theorem dJ6_bitCount_0f7a4_34 : decode cJ6_bitCount_0f7a4 34 = .ok (.iload_n 0, 1) := by decide +kernel
theorem dJ6_bitCount_0f7a4_35 : decode cJ6_bitCount_0f7a4 35 = .ok (.iload_n 0, 1) := by decide +kernel
theorem dJ6_bitCount_0f7a4_36 : decode cJ6_bitCount_0f7a4 36 = .ok (.bipush 8, 2) := by decide +kernel
theorem dJ6_bitCount_0f7a4_38 : decode cJ6_bitCount_0f7a4 38 = .ok (.iushr, 1) := by decide +kernel
theorem dJ6_bitCount_0f7a4_39 : decode cJ6_bitCount_0f7a4 39 = .ok (.iadd, 1) := by decide +kernel
theorem dJ6_bitCount_0f7a4_40 : decode cJ6_bitCount_0f7a4 40 = .ok (.istore_n 0, 1) := by decide +kernel
theorem dJ6_bitCount_0f7a4_41 : decode cJ6_bitCount_0f7a4 41 = .ok (.iload_n 0, 1) := by decide +kernel
theorem dJ6_bitCount_0f7a4_42 : decode cJ6_bitCount_0f7a4 42 = .ok (.iload_n 0, 1) := by decide +kernel
theorem dJ6_bitCount_0f7a4_43 : decode cJ6_bitCount_0f7a4 43 = .ok (.bipush 16, 2) := by decide +kernel
theorem dJ6_bitCount_0f7a4_45 : decode cJ6_bitCount_0f7a4 45 = .ok (.iushr, 1) := by decide +kernel
theorem dJ6_bitCount_0f7a4_46 : decode cJ6_bitCount_0f7a4 46 = .ok (.iadd, 1) := by decide +kernel
theorem dJ6_bitCount_0f7a4_47 : decode cJ6_bitCount_0f7a4 47 = .ok (.istore_n 0, 1) := by decide +kernel
theorem dJ6_bitCount_0f7a4_48 : decode cJ6_bitCount_0f7a4 48 = .ok (.iload_n 0, 1) := by decide +kernel
theorem dJ6_bitCount_0f7a4_49 : decode cJ6_bitCount_0f7a4 49 = .ok (.bipush 63, 2) := by decide +kernel
theorem dJ6_bitCount_0f7a4_51 : decode cJ6_bitCount_0f7a4 51 = .ok (.iand, 1) := by decide +kernel
theorem dJ6_bitCount_0f7a4_52 : decode cJ6_bitCount_0f7a4 52 = .ok (.ireturn, 1) := by decide +kernel
theorem dJ9_max_7cf53_0 : decode cJ9_max_7cf53 0 = .ok (.iload_n 0, 1) := by decide +kernel
theorem dJ9_max_7cf53_1 : decode cJ9_max_7cf53 1 = .ok (.iload_n 1, 1) := by decide +kernel
theorem dJ9_max_7cf53_2 : decode cJ9_max_7cf53 2 = .ok (.if_icmp .lt 7, 3) := by decide +kernel
theorem dJ9_max_7cf53_5 : decode cJ9_max_7cf53 5 = .ok (.iload_n 0, 1) := by decide +kernel
theorem dJ9_max_7cf53_6 : decode cJ9_max_7cf53 6 = .ok (.goto 4, 3) := by decide +kernel
theorem dJ9_max_7cf53_9 : decode cJ9_max_7cf53 9 = .ok (.iload_n 1, 1) := by decide +kernel
theorem dJ9_max_7cf53_10 : decode cJ9_max_7cf53 10 = .ok (.ireturn, 1) := by decide +kernel
