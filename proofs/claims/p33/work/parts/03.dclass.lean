theorem dX0_init_0_g : (decode cX0_init 0 = .ok (.aload_n 0, 1)) ∧ (decode cX0_init 1 = .ok (.invokespecial 3, 3)) ∧ (decode cX0_init 4 = .ok (.aload_n 0, 1)) ∧ (decode cX0_init 5 = .ok (.bipush 7, 2)) ∧ (decode cX0_init 7 = .ok (.newarray .int, 2)) ∧ (decode cX0_init 9 = .ok (.putfield 9, 3)) ∧ (decode cX0_init 12 = .ok (.aload_n 0, 1)) ∧ (decode cX0_init 13 = .ok (.bipush 7, 2)) := by decide +kernel
theorem dX0_init_0 : decode cX0_init 0 = .ok (.aload_n 0, 1) := dX0_init_0_g.1
theorem dX0_init_1 : decode cX0_init 1 = .ok (.invokespecial 3, 3) := dX0_init_0_g.2.1
theorem dX0_init_4 : decode cX0_init 4 = .ok (.aload_n 0, 1) := dX0_init_0_g.2.2.1
theorem dX0_init_5 : decode cX0_init 5 = .ok (.bipush 7, 2) := dX0_init_0_g.2.2.2.1
theorem dX0_init_7 : decode cX0_init 7 = .ok (.newarray .int, 2) := dX0_init_0_g.2.2.2.2.1
theorem dX0_init_9 : decode cX0_init 9 = .ok (.putfield 9, 3) := dX0_init_0_g.2.2.2.2.2.1
theorem dX0_init_12 : decode cX0_init 12 = .ok (.aload_n 0, 1) := dX0_init_0_g.2.2.2.2.2.2.1
theorem dX0_init_13 : decode cX0_init 13 = .ok (.bipush 7, 2) := dX0_init_0_g.2.2.2.2.2.2.2
theorem dX0_init_15_g : (decode cX0_init 15 = .ok (.newarray .int, 2)) ∧ (decode cX0_init 17 = .ok (.putfield 15, 3)) ∧ (decode cX0_init 20 = .ok (.aload_n 0, 1)) ∧ (decode cX0_init 21 = .ok (.bipush 25, 2)) ∧ (decode cX0_init 23 = .ok (.newarray .int, 2)) ∧ (decode cX0_init 25 = .ok (.putfield 18, 3)) ∧ (decode cX0_init 28 = .ok (.aload_n 0, 1)) ∧ (decode cX0_init 29 = .ok (.bipush 25, 2)) := by decide +kernel
theorem dX0_init_15 : decode cX0_init 15 = .ok (.newarray .int, 2) := dX0_init_15_g.1
theorem dX0_init_17 : decode cX0_init 17 = .ok (.putfield 15, 3) := dX0_init_15_g.2.1
theorem dX0_init_20 : decode cX0_init 20 = .ok (.aload_n 0, 1) := dX0_init_15_g.2.2.1
theorem dX0_init_21 : decode cX0_init 21 = .ok (.bipush 25, 2) := dX0_init_15_g.2.2.2.1
theorem dX0_init_23 : decode cX0_init 23 = .ok (.newarray .int, 2) := dX0_init_15_g.2.2.2.2.1
theorem dX0_init_25 : decode cX0_init 25 = .ok (.putfield 18, 3) := dX0_init_15_g.2.2.2.2.2.1
theorem dX0_init_28 : decode cX0_init 28 = .ok (.aload_n 0, 1) := dX0_init_15_g.2.2.2.2.2.2.1
theorem dX0_init_29 : decode cX0_init 29 = .ok (.bipush 25, 2) := dX0_init_15_g.2.2.2.2.2.2.2
theorem dX0_init_31_g : (decode cX0_init 31 = .ok (.newarray .boolean, 2)) ∧ (decode cX0_init 33 = .ok (.putfield 21, 3)) ∧ (decode cX0_init 36 = .ok (.aload_n 0, 1)) ∧ (decode cX0_init 37 = .ok (.iconst 3, 1)) ∧ (decode cX0_init 38 = .ok (.putfield 25, 3)) ∧ (decode cX0_init 41 = .ok (.aload_n 0, 1)) ∧ (decode cX0_init 42 = .ok (.iconst 1, 1)) ∧ (decode cX0_init 43 = .ok (.putfield 29, 3)) := by decide +kernel
theorem dX0_init_31 : decode cX0_init 31 = .ok (.newarray .boolean, 2) := dX0_init_31_g.1
theorem dX0_init_33 : decode cX0_init 33 = .ok (.putfield 21, 3) := dX0_init_31_g.2.1
theorem dX0_init_36 : decode cX0_init 36 = .ok (.aload_n 0, 1) := dX0_init_31_g.2.2.1
theorem dX0_init_37 : decode cX0_init 37 = .ok (.iconst 3, 1) := dX0_init_31_g.2.2.2.1
theorem dX0_init_38 : decode cX0_init 38 = .ok (.putfield 25, 3) := dX0_init_31_g.2.2.2.2.1
theorem dX0_init_41 : decode cX0_init 41 = .ok (.aload_n 0, 1) := dX0_init_31_g.2.2.2.2.2.1
theorem dX0_init_42 : decode cX0_init 42 = .ok (.iconst 1, 1) := dX0_init_31_g.2.2.2.2.2.2.1
theorem dX0_init_43 : decode cX0_init 43 = .ok (.putfield 29, 3) := dX0_init_31_g.2.2.2.2.2.2.2
theorem dX0_init_46_g : (decode cX0_init 46 = .ok (.aload_n 0, 1)) ∧ (decode cX0_init 47 = .ok (.iconst 3, 1)) ∧ (decode cX0_init 48 = .ok (.putfield 32, 3)) ∧ (decode cX0_init 51 = .ok (.aload_n 0, 1)) ∧ (decode cX0_init 52 = .ok (.getfield 9, 3)) ∧ (decode cX0_init 55 = .ok (.iconst 0, 1)) ∧ (decode cX0_init 56 = .ok (.iconst 1, 1)) ∧ (decode cX0_init 57 = .ok (.iastore, 1)) := by decide +kernel
theorem dX0_init_46 : decode cX0_init 46 = .ok (.aload_n 0, 1) := dX0_init_46_g.1
theorem dX0_init_47 : decode cX0_init 47 = .ok (.iconst 3, 1) := dX0_init_46_g.2.1
theorem dX0_init_48 : decode cX0_init 48 = .ok (.putfield 32, 3) := dX0_init_46_g.2.2.1
theorem dX0_init_51 : decode cX0_init 51 = .ok (.aload_n 0, 1) := dX0_init_46_g.2.2.2.1
theorem dX0_init_52 : decode cX0_init 52 = .ok (.getfield 9, 3) := dX0_init_46_g.2.2.2.2.1
theorem dX0_init_55 : decode cX0_init 55 = .ok (.iconst 0, 1) := dX0_init_46_g.2.2.2.2.2.1
theorem dX0_init_56 : decode cX0_init 56 = .ok (.iconst 1, 1) := dX0_init_46_g.2.2.2.2.2.2.1
theorem dX0_init_57 : decode cX0_init 57 = .ok (.iastore, 1) := dX0_init_46_g.2.2.2.2.2.2.2
theorem dX0_init_58 : decode cX0_init 58 = .ok (.return_, 1) := by decide +kernel
theorem dX0_begin_0_g : (decode cX0_begin 0 = .ok (.aload_n 0, 1)) ∧ (decode cX0_begin 1 = .ok (.iload_n 1, 1)) ∧ (decode cX0_begin 2 = .ok (.putfield 25, 3)) ∧ (decode cX0_begin 5 = .ok (.aload_n 0, 1)) ∧ (decode cX0_begin 6 = .ok (.iload_n 2, 1)) ∧ (decode cX0_begin 7 = .ok (.putfield 29, 3)) ∧ (decode cX0_begin 10 = .ok (.aload_n 0, 1)) ∧ (decode cX0_begin 11 = .ok (.iconst 1, 1)) := by decide +kernel
theorem dX0_begin_0 : decode cX0_begin 0 = .ok (.aload_n 0, 1) := dX0_begin_0_g.1
theorem dX0_begin_1 : decode cX0_begin 1 = .ok (.iload_n 1, 1) := dX0_begin_0_g.2.1
theorem dX0_begin_2 : decode cX0_begin 2 = .ok (.putfield 25, 3) := dX0_begin_0_g.2.2.1
theorem dX0_begin_5 : decode cX0_begin 5 = .ok (.aload_n 0, 1) := dX0_begin_0_g.2.2.2.1
theorem dX0_begin_6 : decode cX0_begin 6 = .ok (.iload_n 2, 1) := dX0_begin_0_g.2.2.2.2.1
theorem dX0_begin_7 : decode cX0_begin 7 = .ok (.putfield 29, 3) := dX0_begin_0_g.2.2.2.2.2.1
theorem dX0_begin_10 : decode cX0_begin 10 = .ok (.aload_n 0, 1) := dX0_begin_0_g.2.2.2.2.2.2.1
theorem dX0_begin_11 : decode cX0_begin 11 = .ok (.iconst 1, 1) := dX0_begin_0_g.2.2.2.2.2.2.2
theorem dX0_begin_12_g : (decode cX0_begin 12 = .ok (.putfield 32, 3)) ∧ (decode cX0_begin 15 = .ok (.iconst 0, 1)) ∧ (decode cX0_begin 16 = .ok (.istore_n 3, 1)) ∧ (decode cX0_begin 17 = .ok (.iload_n 3, 1)) ∧ (decode cX0_begin 18 = .ok (.bipush 7, 2)) ∧ (decode cX0_begin 20 = .ok (.if_icmp .ge 34, 3)) ∧ (decode cX0_begin 23 = .ok (.iload_n 3, 1)) ∧ (decode cX0_begin 24 = .ok (.iload_n 2, 1)) := by decide +kernel
theorem dX0_begin_12 : decode cX0_begin 12 = .ok (.putfield 32, 3) := dX0_begin_12_g.1
theorem dX0_begin_15 : decode cX0_begin 15 = .ok (.iconst 0, 1) := dX0_begin_12_g.2.1
theorem dX0_begin_16 : decode cX0_begin 16 = .ok (.istore_n 3, 1) := dX0_begin_12_g.2.2.1
theorem dX0_begin_17 : decode cX0_begin 17 = .ok (.iload_n 3, 1) := dX0_begin_12_g.2.2.2.1
theorem dX0_begin_18 : decode cX0_begin 18 = .ok (.bipush 7, 2) := dX0_begin_12_g.2.2.2.2.1
theorem dX0_begin_20 : decode cX0_begin 20 = .ok (.if_icmp .ge 34, 3) := dX0_begin_12_g.2.2.2.2.2.1
theorem dX0_begin_23 : decode cX0_begin 23 = .ok (.iload_n 3, 1) := dX0_begin_12_g.2.2.2.2.2.2.1
theorem dX0_begin_24 : decode cX0_begin 24 = .ok (.iload_n 2, 1) := dX0_begin_12_g.2.2.2.2.2.2.2
theorem dX0_begin_25_g : (decode cX0_begin 25 = .ok (.if_icmp .ge 29, 3)) ∧ (decode cX0_begin 28 = .ok (.aload_n 0, 1)) ∧ (decode cX0_begin 29 = .ok (.getfield 9, 3)) ∧ (decode cX0_begin 32 = .ok (.iload_n 3, 1)) ∧ (decode cX0_begin 33 = .ok (.aload_n 0, 1)) ∧ (decode cX0_begin 34 = .ok (.getfield 32, 3)) ∧ (decode cX0_begin 37 = .ok (.iastore, 1)) ∧ (decode cX0_begin 38 = .ok (.aload_n 0, 1)) := by decide +kernel
theorem dX0_begin_25 : decode cX0_begin 25 = .ok (.if_icmp .ge 29, 3) := dX0_begin_25_g.1
theorem dX0_begin_28 : decode cX0_begin 28 = .ok (.aload_n 0, 1) := dX0_begin_25_g.2.1
theorem dX0_begin_29 : decode cX0_begin 29 = .ok (.getfield 9, 3) := dX0_begin_25_g.2.2.1
theorem dX0_begin_32 : decode cX0_begin 32 = .ok (.iload_n 3, 1) := dX0_begin_25_g.2.2.2.1
theorem dX0_begin_33 : decode cX0_begin 33 = .ok (.aload_n 0, 1) := dX0_begin_25_g.2.2.2.2.1
theorem dX0_begin_34 : decode cX0_begin 34 = .ok (.getfield 32, 3) := dX0_begin_25_g.2.2.2.2.2.1
theorem dX0_begin_37 : decode cX0_begin 37 = .ok (.iastore, 1) := dX0_begin_25_g.2.2.2.2.2.2.1
theorem dX0_begin_38 : decode cX0_begin 38 = .ok (.aload_n 0, 1) := dX0_begin_25_g.2.2.2.2.2.2.2
theorem dX0_begin_39_g : (decode cX0_begin 39 = .ok (.dup, 1)) ∧ (decode cX0_begin 40 = .ok (.getfield 32, 3)) ∧ (decode cX0_begin 43 = .ok (.iload_n 1, 1)) ∧ (decode cX0_begin 44 = .ok (.imul, 1)) ∧ (decode cX0_begin 45 = .ok (.putfield 32, 3)) ∧ (decode cX0_begin 48 = .ok (.iinc 3 1, 3)) ∧ (decode cX0_begin 51 = .ok (.goto (-34), 3)) ∧ (decode cX0_begin 54 = .ok (.aload_n 0, 1)) := by decide +kernel
theorem dX0_begin_39 : decode cX0_begin 39 = .ok (.dup, 1) := dX0_begin_39_g.1
theorem dX0_begin_40 : decode cX0_begin 40 = .ok (.getfield 32, 3) := dX0_begin_39_g.2.1
theorem dX0_begin_43 : decode cX0_begin 43 = .ok (.iload_n 1, 1) := dX0_begin_39_g.2.2.1
theorem dX0_begin_44 : decode cX0_begin 44 = .ok (.imul, 1) := dX0_begin_39_g.2.2.2.1
theorem dX0_begin_45 : decode cX0_begin 45 = .ok (.putfield 32, 3) := dX0_begin_39_g.2.2.2.2.1
theorem dX0_begin_48 : decode cX0_begin 48 = .ok (.iinc 3 1, 3) := dX0_begin_39_g.2.2.2.2.2.1
theorem dX0_begin_51 : decode cX0_begin 51 = .ok (.goto (-34), 3) := dX0_begin_39_g.2.2.2.2.2.2.1
theorem dX0_begin_54 : decode cX0_begin 54 = .ok (.aload_n 0, 1) := dX0_begin_39_g.2.2.2.2.2.2.2
theorem dX0_begin_55_g : (decode cX0_begin 55 = .ok (.getfield 15, 3)) ∧ (decode cX0_begin 58 = .ok (.iconst 0, 1)) ∧ (decode cX0_begin 59 = .ok (.invokestatic 35, 3)) ∧ (decode cX0_begin 62 = .ok (.aload_n 0, 1)) ∧ (decode cX0_begin 63 = .ok (.getfield 18, 3)) ∧ (decode cX0_begin 66 = .ok (.iconst 0, 1)) ∧ (decode cX0_begin 67 = .ok (.invokestatic 35, 3)) ∧ (decode cX0_begin 70 = .ok (.return_, 1)) := by decide +kernel
theorem dX0_begin_55 : decode cX0_begin 55 = .ok (.getfield 15, 3) := dX0_begin_55_g.1
theorem dX0_begin_58 : decode cX0_begin 58 = .ok (.iconst 0, 1) := dX0_begin_55_g.2.1
theorem dX0_begin_59 : decode cX0_begin 59 = .ok (.invokestatic 35, 3) := dX0_begin_55_g.2.2.1
theorem dX0_begin_62 : decode cX0_begin 62 = .ok (.aload_n 0, 1) := dX0_begin_55_g.2.2.2.1
theorem dX0_begin_63 : decode cX0_begin 63 = .ok (.getfield 18, 3) := dX0_begin_55_g.2.2.2.2.1
theorem dX0_begin_66 : decode cX0_begin 66 = .ok (.iconst 0, 1) := dX0_begin_55_g.2.2.2.2.2.1
theorem dX0_begin_67 : decode cX0_begin 67 = .ok (.invokestatic 35, 3) := dX0_begin_55_g.2.2.2.2.2.2.1
theorem dX0_begin_70 : decode cX0_begin 70 = .ok (.return_, 1) := dX0_begin_55_g.2.2.2.2.2.2.2
theorem dX0_isPeg_0_g : (decode cX0_isPeg 0 = .ok (.iload_n 1, 1)) ∧ (decode cX0_isPeg 1 = .ok (.ifCond .lt 15, 3)) ∧ (decode cX0_isPeg 4 = .ok (.iload_n 1, 1)) ∧ (decode cX0_isPeg 5 = .ok (.aload_n 0, 1)) ∧ (decode cX0_isPeg 6 = .ok (.getfield 25, 3)) ∧ (decode cX0_isPeg 9 = .ok (.if_icmp .ge 7, 3)) ∧ (decode cX0_isPeg 12 = .ok (.iconst 1, 1)) ∧ (decode cX0_isPeg 13 = .ok (.goto 4, 3)) := by decide +kernel
theorem dX0_isPeg_0 : decode cX0_isPeg 0 = .ok (.iload_n 1, 1) := dX0_isPeg_0_g.1
theorem dX0_isPeg_1 : decode cX0_isPeg 1 = .ok (.ifCond .lt 15, 3) := dX0_isPeg_0_g.2.1
theorem dX0_isPeg_4 : decode cX0_isPeg 4 = .ok (.iload_n 1, 1) := dX0_isPeg_0_g.2.2.1
theorem dX0_isPeg_5 : decode cX0_isPeg 5 = .ok (.aload_n 0, 1) := dX0_isPeg_0_g.2.2.2.1
theorem dX0_isPeg_6 : decode cX0_isPeg 6 = .ok (.getfield 25, 3) := dX0_isPeg_0_g.2.2.2.2.1
theorem dX0_isPeg_9 : decode cX0_isPeg 9 = .ok (.if_icmp .ge 7, 3) := dX0_isPeg_0_g.2.2.2.2.2.1
theorem dX0_isPeg_12 : decode cX0_isPeg 12 = .ok (.iconst 1, 1) := dX0_isPeg_0_g.2.2.2.2.2.2.1
theorem dX0_isPeg_13 : decode cX0_isPeg 13 = .ok (.goto 4, 3) := dX0_isPeg_0_g.2.2.2.2.2.2.2
theorem dX0_isPeg_16_g : (decode cX0_isPeg 16 = .ok (.iconst 0, 1)) ∧ (decode cX0_isPeg 17 = .ok (.ireturn, 1)) := by decide +kernel
theorem dX0_isPeg_16 : decode cX0_isPeg 16 = .ok (.iconst 0, 1) := dX0_isPeg_16_g.1
theorem dX0_isPeg_17 : decode cX0_isPeg 17 = .ok (.ireturn, 1) := dX0_isPeg_16_g.2
theorem dX0_isDisc_0_g : (decode cX0_isDisc 0 = .ok (.iload_n 1, 1)) ∧ (decode cX0_isDisc 1 = .ok (.ifCond .lt 15, 3)) ∧ (decode cX0_isDisc 4 = .ok (.iload_n 1, 1)) ∧ (decode cX0_isDisc 5 = .ok (.aload_n 0, 1)) ∧ (decode cX0_isDisc 6 = .ok (.getfield 29, 3)) ∧ (decode cX0_isDisc 9 = .ok (.if_icmp .ge 7, 3)) ∧ (decode cX0_isDisc 12 = .ok (.iconst 1, 1)) ∧ (decode cX0_isDisc 13 = .ok (.goto 4, 3)) := by decide +kernel
theorem dX0_isDisc_0 : decode cX0_isDisc 0 = .ok (.iload_n 1, 1) := dX0_isDisc_0_g.1
theorem dX0_isDisc_1 : decode cX0_isDisc 1 = .ok (.ifCond .lt 15, 3) := dX0_isDisc_0_g.2.1
theorem dX0_isDisc_4 : decode cX0_isDisc 4 = .ok (.iload_n 1, 1) := dX0_isDisc_0_g.2.2.1
theorem dX0_isDisc_5 : decode cX0_isDisc 5 = .ok (.aload_n 0, 1) := dX0_isDisc_0_g.2.2.2.1
theorem dX0_isDisc_6 : decode cX0_isDisc 6 = .ok (.getfield 29, 3) := dX0_isDisc_0_g.2.2.2.2.1
theorem dX0_isDisc_9 : decode cX0_isDisc 9 = .ok (.if_icmp .ge 7, 3) := dX0_isDisc_0_g.2.2.2.2.2.1
theorem dX0_isDisc_12 : decode cX0_isDisc 12 = .ok (.iconst 1, 1) := dX0_isDisc_0_g.2.2.2.2.2.2.1
theorem dX0_isDisc_13 : decode cX0_isDisc 13 = .ok (.goto 4, 3) := dX0_isDisc_0_g.2.2.2.2.2.2.2
theorem dX0_isDisc_16_g : (decode cX0_isDisc 16 = .ok (.iconst 0, 1)) ∧ (decode cX0_isDisc 17 = .ok (.ireturn, 1)) := by decide +kernel
theorem dX0_isDisc_16 : decode cX0_isDisc 16 = .ok (.iconst 0, 1) := dX0_isDisc_16_g.1
theorem dX0_isDisc_17 : decode cX0_isDisc 17 = .ok (.ireturn, 1) := dX0_isDisc_16_g.2
theorem dX0_setLane_0_g : (decode cX0_setLane 0 = .ok (.aload_n 0, 1)) ∧ (decode cX0_setLane 1 = .ok (.getfield 18, 3)) ∧ (decode cX0_setLane 4 = .ok (.iload_n 1, 1)) ∧ (decode cX0_setLane 5 = .ok (.iconst 5, 1)) ∧ (decode cX0_setLane 6 = .ok (.imul, 1)) ∧ (decode cX0_setLane 7 = .ok (.iload_n 2, 1)) ∧ (decode cX0_setLane 8 = .ok (.iadd, 1)) ∧ (decode cX0_setLane 9 = .ok (.iload_n 3, 1)) := by decide +kernel
theorem dX0_setLane_0 : decode cX0_setLane 0 = .ok (.aload_n 0, 1) := dX0_setLane_0_g.1
theorem dX0_setLane_1 : decode cX0_setLane 1 = .ok (.getfield 18, 3) := dX0_setLane_0_g.2.1
theorem dX0_setLane_4 : decode cX0_setLane 4 = .ok (.iload_n 1, 1) := dX0_setLane_0_g.2.2.1
theorem dX0_setLane_5 : decode cX0_setLane 5 = .ok (.iconst 5, 1) := dX0_setLane_0_g.2.2.2.1
theorem dX0_setLane_6 : decode cX0_setLane 6 = .ok (.imul, 1) := dX0_setLane_0_g.2.2.2.2.1
theorem dX0_setLane_7 : decode cX0_setLane 7 = .ok (.iload_n 2, 1) := dX0_setLane_0_g.2.2.2.2.2.1
theorem dX0_setLane_8 : decode cX0_setLane 8 = .ok (.iadd, 1) := dX0_setLane_0_g.2.2.2.2.2.2.1
theorem dX0_setLane_9 : decode cX0_setLane 9 = .ok (.iload_n 3, 1) := dX0_setLane_0_g.2.2.2.2.2.2.2
theorem dX0_setLane_10_g : (decode cX0_setLane 10 = .ok (.iastore, 1)) ∧ (decode cX0_setLane 11 = .ok (.aload_n 0, 1)) ∧ (decode cX0_setLane 12 = .ok (.getfield 21, 3)) ∧ (decode cX0_setLane 15 = .ok (.iload_n 1, 1)) ∧ (decode cX0_setLane 16 = .ok (.iconst 5, 1)) ∧ (decode cX0_setLane 17 = .ok (.imul, 1)) ∧ (decode cX0_setLane 18 = .ok (.iload_n 2, 1)) ∧ (decode cX0_setLane 19 = .ok (.iadd, 1)) := by decide +kernel
theorem dX0_setLane_10 : decode cX0_setLane 10 = .ok (.iastore, 1) := dX0_setLane_10_g.1
theorem dX0_setLane_11 : decode cX0_setLane 11 = .ok (.aload_n 0, 1) := dX0_setLane_10_g.2.1
theorem dX0_setLane_12 : decode cX0_setLane 12 = .ok (.getfield 21, 3) := dX0_setLane_10_g.2.2.1
theorem dX0_setLane_15 : decode cX0_setLane 15 = .ok (.iload_n 1, 1) := dX0_setLane_10_g.2.2.2.1
theorem dX0_setLane_16 : decode cX0_setLane 16 = .ok (.iconst 5, 1) := dX0_setLane_10_g.2.2.2.2.1
theorem dX0_setLane_17 : decode cX0_setLane 17 = .ok (.imul, 1) := dX0_setLane_10_g.2.2.2.2.2.1
theorem dX0_setLane_18 : decode cX0_setLane 18 = .ok (.iload_n 2, 1) := dX0_setLane_10_g.2.2.2.2.2.2.1
theorem dX0_setLane_19 : decode cX0_setLane 19 = .ok (.iadd, 1) := dX0_setLane_10_g.2.2.2.2.2.2.2
theorem dX0_setLane_20_g : (decode cX0_setLane 20 = .ok (.iload 4, 2)) ∧ (decode cX0_setLane 22 = .ok (.bastore, 1)) ∧ (decode cX0_setLane 23 = .ok (.return_, 1)) := by decide +kernel
theorem dX0_setLane_20 : decode cX0_setLane 20 = .ok (.iload 4, 2) := dX0_setLane_20_g.1
theorem dX0_setLane_22 : decode cX0_setLane 22 = .ok (.bastore, 1) := dX0_setLane_20_g.2.1
theorem dX0_setLane_23 : decode cX0_setLane 23 = .ok (.return_, 1) := dX0_setLane_20_g.2.2
theorem dX0_openAll_0_g : (decode cX0_openAll 0 = .ok (.iconst 0, 1)) ∧ (decode cX0_openAll 1 = .ok (.istore_n 1, 1)) ∧ (decode cX0_openAll 2 = .ok (.iload_n 1, 1)) ∧ (decode cX0_openAll 3 = .ok (.aload_n 0, 1)) ∧ (decode cX0_openAll 4 = .ok (.getfield 25, 3)) ∧ (decode cX0_openAll 7 = .ok (.if_icmp .ge 38, 3)) ∧ (decode cX0_openAll 10 = .ok (.iconst 0, 1)) ∧ (decode cX0_openAll 11 = .ok (.istore_n 2, 1)) := by decide +kernel
theorem dX0_openAll_0 : decode cX0_openAll 0 = .ok (.iconst 0, 1) := dX0_openAll_0_g.1
theorem dX0_openAll_1 : decode cX0_openAll 1 = .ok (.istore_n 1, 1) := dX0_openAll_0_g.2.1
theorem dX0_openAll_2 : decode cX0_openAll 2 = .ok (.iload_n 1, 1) := dX0_openAll_0_g.2.2.1
theorem dX0_openAll_3 : decode cX0_openAll 3 = .ok (.aload_n 0, 1) := dX0_openAll_0_g.2.2.2.1
theorem dX0_openAll_4 : decode cX0_openAll 4 = .ok (.getfield 25, 3) := dX0_openAll_0_g.2.2.2.2.1
theorem dX0_openAll_7 : decode cX0_openAll 7 = .ok (.if_icmp .ge 38, 3) := dX0_openAll_0_g.2.2.2.2.2.1
theorem dX0_openAll_10 : decode cX0_openAll 10 = .ok (.iconst 0, 1) := dX0_openAll_0_g.2.2.2.2.2.2.1
theorem dX0_openAll_11 : decode cX0_openAll 11 = .ok (.istore_n 2, 1) := dX0_openAll_0_g.2.2.2.2.2.2.2
theorem dX0_openAll_12_g : (decode cX0_openAll 12 = .ok (.iload_n 2, 1)) ∧ (decode cX0_openAll 13 = .ok (.aload_n 0, 1)) ∧ (decode cX0_openAll 14 = .ok (.getfield 25, 3)) ∧ (decode cX0_openAll 17 = .ok (.if_icmp .ge 22, 3)) ∧ (decode cX0_openAll 20 = .ok (.iload_n 1, 1)) ∧ (decode cX0_openAll 21 = .ok (.iload_n 2, 1)) ∧ (decode cX0_openAll 22 = .ok (.if_icmp .eq 11, 3)) ∧ (decode cX0_openAll 25 = .ok (.aload_n 0, 1)) := by decide +kernel
theorem dX0_openAll_12 : decode cX0_openAll 12 = .ok (.iload_n 2, 1) := dX0_openAll_12_g.1
theorem dX0_openAll_13 : decode cX0_openAll 13 = .ok (.aload_n 0, 1) := dX0_openAll_12_g.2.1
theorem dX0_openAll_14 : decode cX0_openAll 14 = .ok (.getfield 25, 3) := dX0_openAll_12_g.2.2.1
theorem dX0_openAll_17 : decode cX0_openAll 17 = .ok (.if_icmp .ge 22, 3) := dX0_openAll_12_g.2.2.2.1
theorem dX0_openAll_20 : decode cX0_openAll 20 = .ok (.iload_n 1, 1) := dX0_openAll_12_g.2.2.2.2.1
theorem dX0_openAll_21 : decode cX0_openAll 21 = .ok (.iload_n 2, 1) := dX0_openAll_12_g.2.2.2.2.2.1
theorem dX0_openAll_22 : decode cX0_openAll 22 = .ok (.if_icmp .eq 11, 3) := dX0_openAll_12_g.2.2.2.2.2.2.1
theorem dX0_openAll_25 : decode cX0_openAll 25 = .ok (.aload_n 0, 1) := dX0_openAll_12_g.2.2.2.2.2.2.2
theorem dX0_openAll_26_g : (decode cX0_openAll 26 = .ok (.iload_n 1, 1)) ∧ (decode cX0_openAll 27 = .ok (.iload_n 2, 1)) ∧ (decode cX0_openAll 28 = .ok (.iconst 1, 1)) ∧ (decode cX0_openAll 29 = .ok (.iconst 1, 1)) ∧ (decode cX0_openAll 30 = .ok (.invokevirtual 41, 3)) ∧ (decode cX0_openAll 33 = .ok (.iinc 2 1, 3)) ∧ (decode cX0_openAll 36 = .ok (.goto (-24), 3)) ∧ (decode cX0_openAll 39 = .ok (.iinc 1 1, 3)) := by decide +kernel
theorem dX0_openAll_26 : decode cX0_openAll 26 = .ok (.iload_n 1, 1) := dX0_openAll_26_g.1
theorem dX0_openAll_27 : decode cX0_openAll 27 = .ok (.iload_n 2, 1) := dX0_openAll_26_g.2.1
theorem dX0_openAll_28 : decode cX0_openAll 28 = .ok (.iconst 1, 1) := dX0_openAll_26_g.2.2.1
theorem dX0_openAll_29 : decode cX0_openAll 29 = .ok (.iconst 1, 1) := dX0_openAll_26_g.2.2.2.1
theorem dX0_openAll_30 : decode cX0_openAll 30 = .ok (.invokevirtual 41, 3) := dX0_openAll_26_g.2.2.2.2.1
theorem dX0_openAll_33 : decode cX0_openAll 33 = .ok (.iinc 2 1, 3) := dX0_openAll_26_g.2.2.2.2.2.1
theorem dX0_openAll_36 : decode cX0_openAll 36 = .ok (.goto (-24), 3) := dX0_openAll_26_g.2.2.2.2.2.2.1
theorem dX0_openAll_39 : decode cX0_openAll 39 = .ok (.iinc 1 1, 3) := dX0_openAll_26_g.2.2.2.2.2.2.2
theorem dX0_openAll_42_g : (decode cX0_openAll 42 = .ok (.goto (-40), 3)) ∧ (decode cX0_openAll 45 = .ok (.return_, 1)) := by decide +kernel
theorem dX0_openAll_42 : decode cX0_openAll 42 = .ok (.goto (-40), 3) := dX0_openAll_42_g.1
theorem dX0_openAll_45 : decode cX0_openAll 45 = .ok (.return_, 1) := dX0_openAll_42_g.2
theorem dX0_countLanes_0_g : (decode cX0_countLanes 0 = .ok (.iconst 0, 1)) ∧ (decode cX0_countLanes 1 = .ok (.istore_n 1, 1)) ∧ (decode cX0_countLanes 2 = .ok (.aload_n 0, 1)) ∧ (decode cX0_countLanes 3 = .ok (.getfield 18, 3)) ∧ (decode cX0_countLanes 6 = .ok (.astore_n 2, 1)) ∧ (decode cX0_countLanes 7 = .ok (.aload_n 2, 1)) ∧ (decode cX0_countLanes 8 = .ok (.arraylength, 1)) ∧ (decode cX0_countLanes 9 = .ok (.istore_n 3, 1)) := by decide +kernel
theorem dX0_countLanes_0 : decode cX0_countLanes 0 = .ok (.iconst 0, 1) := dX0_countLanes_0_g.1
theorem dX0_countLanes_1 : decode cX0_countLanes 1 = .ok (.istore_n 1, 1) := dX0_countLanes_0_g.2.1
theorem dX0_countLanes_2 : decode cX0_countLanes 2 = .ok (.aload_n 0, 1) := dX0_countLanes_0_g.2.2.1
theorem dX0_countLanes_3 : decode cX0_countLanes 3 = .ok (.getfield 18, 3) := dX0_countLanes_0_g.2.2.2.1
theorem dX0_countLanes_6 : decode cX0_countLanes 6 = .ok (.astore_n 2, 1) := dX0_countLanes_0_g.2.2.2.2.1
theorem dX0_countLanes_7 : decode cX0_countLanes 7 = .ok (.aload_n 2, 1) := dX0_countLanes_0_g.2.2.2.2.2.1
theorem dX0_countLanes_8 : decode cX0_countLanes 8 = .ok (.arraylength, 1) := dX0_countLanes_0_g.2.2.2.2.2.2.1
theorem dX0_countLanes_9 : decode cX0_countLanes 9 = .ok (.istore_n 3, 1) := dX0_countLanes_0_g.2.2.2.2.2.2.2
theorem dX0_countLanes_10_g : (decode cX0_countLanes 10 = .ok (.iconst 0, 1)) ∧ (decode cX0_countLanes 11 = .ok (.istore 4, 2)) ∧ (decode cX0_countLanes 13 = .ok (.iload 4, 2)) ∧ (decode cX0_countLanes 15 = .ok (.iload_n 3, 1)) ∧ (decode cX0_countLanes 16 = .ok (.if_icmp .ge 23, 3)) ∧ (decode cX0_countLanes 19 = .ok (.aload_n 2, 1)) ∧ (decode cX0_countLanes 20 = .ok (.iload 4, 2)) ∧ (decode cX0_countLanes 22 = .ok (.iaload, 1)) := by decide +kernel
theorem dX0_countLanes_10 : decode cX0_countLanes 10 = .ok (.iconst 0, 1) := dX0_countLanes_10_g.1
theorem dX0_countLanes_11 : decode cX0_countLanes 11 = .ok (.istore 4, 2) := dX0_countLanes_10_g.2.1
theorem dX0_countLanes_13 : decode cX0_countLanes 13 = .ok (.iload 4, 2) := dX0_countLanes_10_g.2.2.1
theorem dX0_countLanes_15 : decode cX0_countLanes 15 = .ok (.iload_n 3, 1) := dX0_countLanes_10_g.2.2.2.1
theorem dX0_countLanes_16 : decode cX0_countLanes 16 = .ok (.if_icmp .ge 23, 3) := dX0_countLanes_10_g.2.2.2.2.1
theorem dX0_countLanes_19 : decode cX0_countLanes 19 = .ok (.aload_n 2, 1) := dX0_countLanes_10_g.2.2.2.2.2.1
theorem dX0_countLanes_20 : decode cX0_countLanes 20 = .ok (.iload 4, 2) := dX0_countLanes_10_g.2.2.2.2.2.2.1
theorem dX0_countLanes_22 : decode cX0_countLanes 22 = .ok (.iaload, 1) := dX0_countLanes_10_g.2.2.2.2.2.2.2
theorem dX0_countLanes_23_g : (decode cX0_countLanes 23 = .ok (.istore 5, 2)) ∧ (decode cX0_countLanes 25 = .ok (.iload 5, 2)) ∧ (decode cX0_countLanes 27 = .ok (.ifCond .eq 6, 3)) ∧ (decode cX0_countLanes 30 = .ok (.iinc 1 1, 3)) ∧ (decode cX0_countLanes 33 = .ok (.iinc 4 1, 3)) ∧ (decode cX0_countLanes 36 = .ok (.goto (-23), 3)) ∧ (decode cX0_countLanes 39 = .ok (.iload_n 1, 1)) ∧ (decode cX0_countLanes 40 = .ok (.ireturn, 1)) := by decide +kernel
theorem dX0_countLanes_23 : decode cX0_countLanes 23 = .ok (.istore 5, 2) := dX0_countLanes_23_g.1
theorem dX0_countLanes_25 : decode cX0_countLanes 25 = .ok (.iload 5, 2) := dX0_countLanes_23_g.2.1
theorem dX0_countLanes_27 : decode cX0_countLanes 27 = .ok (.ifCond .eq 6, 3) := dX0_countLanes_23_g.2.2.1
theorem dX0_countLanes_30 : decode cX0_countLanes 30 = .ok (.iinc 1 1, 3) := dX0_countLanes_23_g.2.2.2.1
theorem dX0_countLanes_33 : decode cX0_countLanes 33 = .ok (.iinc 4 1, 3) := dX0_countLanes_23_g.2.2.2.2.1
theorem dX0_countLanes_36 : decode cX0_countLanes 36 = .ok (.goto (-23), 3) := dX0_countLanes_23_g.2.2.2.2.2.1
theorem dX0_countLanes_39 : decode cX0_countLanes 39 = .ok (.iload_n 1, 1) := dX0_countLanes_23_g.2.2.2.2.2.2.1
theorem dX0_countLanes_40 : decode cX0_countLanes 40 = .ok (.ireturn, 1) := dX0_countLanes_23_g.2.2.2.2.2.2.2
theorem dX0_turnLanes_0_g : (decode cX0_turnLanes 0 = .ok (.iconst 0, 1)) ∧ (decode cX0_turnLanes 1 = .ok (.istore_n 1, 1)) ∧ (decode cX0_turnLanes 2 = .ok (.iload_n 1, 1)) ∧ (decode cX0_turnLanes 3 = .ok (.aload_n 0, 1)) ∧ (decode cX0_turnLanes 4 = .ok (.getfield 25, 3)) ∧ (decode cX0_turnLanes 7 = .ok (.if_icmp .ge 85, 3)) ∧ (decode cX0_turnLanes 10 = .ok (.iload_n 1, 1)) ∧ (decode cX0_turnLanes 11 = .ok (.iconst 1, 1)) := by decide +kernel
theorem dX0_turnLanes_0 : decode cX0_turnLanes 0 = .ok (.iconst 0, 1) := dX0_turnLanes_0_g.1
theorem dX0_turnLanes_1 : decode cX0_turnLanes 1 = .ok (.istore_n 1, 1) := dX0_turnLanes_0_g.2.1
theorem dX0_turnLanes_2 : decode cX0_turnLanes 2 = .ok (.iload_n 1, 1) := dX0_turnLanes_0_g.2.2.1
theorem dX0_turnLanes_3 : decode cX0_turnLanes 3 = .ok (.aload_n 0, 1) := dX0_turnLanes_0_g.2.2.2.1
theorem dX0_turnLanes_4 : decode cX0_turnLanes 4 = .ok (.getfield 25, 3) := dX0_turnLanes_0_g.2.2.2.2.1
theorem dX0_turnLanes_7 : decode cX0_turnLanes 7 = .ok (.if_icmp .ge 85, 3) := dX0_turnLanes_0_g.2.2.2.2.2.1
theorem dX0_turnLanes_10 : decode cX0_turnLanes 10 = .ok (.iload_n 1, 1) := dX0_turnLanes_0_g.2.2.2.2.2.2.1
theorem dX0_turnLanes_11 : decode cX0_turnLanes 11 = .ok (.iconst 1, 1) := dX0_turnLanes_0_g.2.2.2.2.2.2.2
theorem dX0_turnLanes_12_g : (decode cX0_turnLanes 12 = .ok (.iadd, 1)) ∧ (decode cX0_turnLanes 13 = .ok (.istore_n 2, 1)) ∧ (decode cX0_turnLanes 14 = .ok (.iload_n 2, 1)) ∧ (decode cX0_turnLanes 15 = .ok (.aload_n 0, 1)) ∧ (decode cX0_turnLanes 16 = .ok (.getfield 25, 3)) ∧ (decode cX0_turnLanes 19 = .ok (.if_icmp .ge 67, 3)) ∧ (decode cX0_turnLanes 22 = .ok (.aload_n 0, 1)) ∧ (decode cX0_turnLanes 23 = .ok (.getfield 18, 3)) := by decide +kernel
theorem dX0_turnLanes_12 : decode cX0_turnLanes 12 = .ok (.iadd, 1) := dX0_turnLanes_12_g.1
theorem dX0_turnLanes_13 : decode cX0_turnLanes 13 = .ok (.istore_n 2, 1) := dX0_turnLanes_12_g.2.1
theorem dX0_turnLanes_14 : decode cX0_turnLanes 14 = .ok (.iload_n 2, 1) := dX0_turnLanes_12_g.2.2.1
theorem dX0_turnLanes_15 : decode cX0_turnLanes 15 = .ok (.aload_n 0, 1) := dX0_turnLanes_12_g.2.2.2.1
theorem dX0_turnLanes_16 : decode cX0_turnLanes 16 = .ok (.getfield 25, 3) := dX0_turnLanes_12_g.2.2.2.2.1
theorem dX0_turnLanes_19 : decode cX0_turnLanes 19 = .ok (.if_icmp .ge 67, 3) := dX0_turnLanes_12_g.2.2.2.2.2.1
theorem dX0_turnLanes_22 : decode cX0_turnLanes 22 = .ok (.aload_n 0, 1) := dX0_turnLanes_12_g.2.2.2.2.2.2.1
theorem dX0_turnLanes_23 : decode cX0_turnLanes 23 = .ok (.getfield 18, 3) := dX0_turnLanes_12_g.2.2.2.2.2.2.2
theorem dX0_turnLanes_26_g : (decode cX0_turnLanes 26 = .ok (.iload_n 1, 1)) ∧ (decode cX0_turnLanes 27 = .ok (.iconst 5, 1)) ∧ (decode cX0_turnLanes 28 = .ok (.imul, 1)) ∧ (decode cX0_turnLanes 29 = .ok (.iload_n 2, 1)) ∧ (decode cX0_turnLanes 30 = .ok (.iadd, 1)) ∧ (decode cX0_turnLanes 31 = .ok (.iaload, 1)) ∧ (decode cX0_turnLanes 32 = .ok (.istore_n 3, 1)) ∧ (decode cX0_turnLanes 33 = .ok (.aload_n 0, 1)) := by decide +kernel
theorem dX0_turnLanes_26 : decode cX0_turnLanes 26 = .ok (.iload_n 1, 1) := dX0_turnLanes_26_g.1
theorem dX0_turnLanes_27 : decode cX0_turnLanes 27 = .ok (.iconst 5, 1) := dX0_turnLanes_26_g.2.1
theorem dX0_turnLanes_28 : decode cX0_turnLanes 28 = .ok (.imul, 1) := dX0_turnLanes_26_g.2.2.1
theorem dX0_turnLanes_29 : decode cX0_turnLanes 29 = .ok (.iload_n 2, 1) := dX0_turnLanes_26_g.2.2.2.1
theorem dX0_turnLanes_30 : decode cX0_turnLanes 30 = .ok (.iadd, 1) := dX0_turnLanes_26_g.2.2.2.2.1
theorem dX0_turnLanes_31 : decode cX0_turnLanes 31 = .ok (.iaload, 1) := dX0_turnLanes_26_g.2.2.2.2.2.1
theorem dX0_turnLanes_32 : decode cX0_turnLanes 32 = .ok (.istore_n 3, 1) := dX0_turnLanes_26_g.2.2.2.2.2.2.1
theorem dX0_turnLanes_33 : decode cX0_turnLanes 33 = .ok (.aload_n 0, 1) := dX0_turnLanes_26_g.2.2.2.2.2.2.2
theorem dX0_turnLanes_34_g : (decode cX0_turnLanes 34 = .ok (.getfield 21, 3)) ∧ (decode cX0_turnLanes 37 = .ok (.iload_n 1, 1)) ∧ (decode cX0_turnLanes 38 = .ok (.iconst 5, 1)) ∧ (decode cX0_turnLanes 39 = .ok (.imul, 1)) ∧ (decode cX0_turnLanes 40 = .ok (.iload_n 2, 1)) ∧ (decode cX0_turnLanes 41 = .ok (.iadd, 1)) ∧ (decode cX0_turnLanes 42 = .ok (.baload, 1)) ∧ (decode cX0_turnLanes 43 = .ok (.istore 4, 2)) := by decide +kernel
theorem dX0_turnLanes_34 : decode cX0_turnLanes 34 = .ok (.getfield 21, 3) := dX0_turnLanes_34_g.1
theorem dX0_turnLanes_37 : decode cX0_turnLanes 37 = .ok (.iload_n 1, 1) := dX0_turnLanes_34_g.2.1
theorem dX0_turnLanes_38 : decode cX0_turnLanes 38 = .ok (.iconst 5, 1) := dX0_turnLanes_34_g.2.2.1
theorem dX0_turnLanes_39 : decode cX0_turnLanes 39 = .ok (.imul, 1) := dX0_turnLanes_34_g.2.2.2.1
theorem dX0_turnLanes_40 : decode cX0_turnLanes 40 = .ok (.iload_n 2, 1) := dX0_turnLanes_34_g.2.2.2.2.1
theorem dX0_turnLanes_41 : decode cX0_turnLanes 41 = .ok (.iadd, 1) := dX0_turnLanes_34_g.2.2.2.2.2.1
theorem dX0_turnLanes_42 : decode cX0_turnLanes 42 = .ok (.baload, 1) := dX0_turnLanes_34_g.2.2.2.2.2.2.1
theorem dX0_turnLanes_43 : decode cX0_turnLanes 43 = .ok (.istore 4, 2) := dX0_turnLanes_34_g.2.2.2.2.2.2.2
theorem dX0_turnLanes_45_g : (decode cX0_turnLanes 45 = .ok (.aload_n 0, 1)) ∧ (decode cX0_turnLanes 46 = .ok (.iload_n 1, 1)) ∧ (decode cX0_turnLanes 47 = .ok (.iload_n 2, 1)) ∧ (decode cX0_turnLanes 48 = .ok (.aload_n 0, 1)) ∧ (decode cX0_turnLanes 49 = .ok (.getfield 18, 3)) ∧ (decode cX0_turnLanes 52 = .ok (.iload_n 2, 1)) ∧ (decode cX0_turnLanes 53 = .ok (.iconst 5, 1)) ∧ (decode cX0_turnLanes 54 = .ok (.imul, 1)) := by decide +kernel
theorem dX0_turnLanes_45 : decode cX0_turnLanes 45 = .ok (.aload_n 0, 1) := dX0_turnLanes_45_g.1
theorem dX0_turnLanes_46 : decode cX0_turnLanes 46 = .ok (.iload_n 1, 1) := dX0_turnLanes_45_g.2.1
theorem dX0_turnLanes_47 : decode cX0_turnLanes 47 = .ok (.iload_n 2, 1) := dX0_turnLanes_45_g.2.2.1
theorem dX0_turnLanes_48 : decode cX0_turnLanes 48 = .ok (.aload_n 0, 1) := dX0_turnLanes_45_g.2.2.2.1
theorem dX0_turnLanes_49 : decode cX0_turnLanes 49 = .ok (.getfield 18, 3) := dX0_turnLanes_45_g.2.2.2.2.1
theorem dX0_turnLanes_52 : decode cX0_turnLanes 52 = .ok (.iload_n 2, 1) := dX0_turnLanes_45_g.2.2.2.2.2.1
theorem dX0_turnLanes_53 : decode cX0_turnLanes 53 = .ok (.iconst 5, 1) := dX0_turnLanes_45_g.2.2.2.2.2.2.1
theorem dX0_turnLanes_54 : decode cX0_turnLanes 54 = .ok (.imul, 1) := dX0_turnLanes_45_g.2.2.2.2.2.2.2
theorem dX0_turnLanes_55_g : (decode cX0_turnLanes 55 = .ok (.iload_n 1, 1)) ∧ (decode cX0_turnLanes 56 = .ok (.iadd, 1)) ∧ (decode cX0_turnLanes 57 = .ok (.iaload, 1)) ∧ (decode cX0_turnLanes 58 = .ok (.aload_n 0, 1)) ∧ (decode cX0_turnLanes 59 = .ok (.getfield 21, 3)) ∧ (decode cX0_turnLanes 62 = .ok (.iload_n 2, 1)) ∧ (decode cX0_turnLanes 63 = .ok (.iconst 5, 1)) ∧ (decode cX0_turnLanes 64 = .ok (.imul, 1)) := by decide +kernel
theorem dX0_turnLanes_55 : decode cX0_turnLanes 55 = .ok (.iload_n 1, 1) := dX0_turnLanes_55_g.1
theorem dX0_turnLanes_56 : decode cX0_turnLanes 56 = .ok (.iadd, 1) := dX0_turnLanes_55_g.2.1
theorem dX0_turnLanes_57 : decode cX0_turnLanes 57 = .ok (.iaload, 1) := dX0_turnLanes_55_g.2.2.1
theorem dX0_turnLanes_58 : decode cX0_turnLanes 58 = .ok (.aload_n 0, 1) := dX0_turnLanes_55_g.2.2.2.1
theorem dX0_turnLanes_59 : decode cX0_turnLanes 59 = .ok (.getfield 21, 3) := dX0_turnLanes_55_g.2.2.2.2.1
theorem dX0_turnLanes_62 : decode cX0_turnLanes 62 = .ok (.iload_n 2, 1) := dX0_turnLanes_55_g.2.2.2.2.2.1
theorem dX0_turnLanes_63 : decode cX0_turnLanes 63 = .ok (.iconst 5, 1) := dX0_turnLanes_55_g.2.2.2.2.2.2.1
theorem dX0_turnLanes_64 : decode cX0_turnLanes 64 = .ok (.imul, 1) := dX0_turnLanes_55_g.2.2.2.2.2.2.2
theorem dX0_turnLanes_65_g : (decode cX0_turnLanes 65 = .ok (.iload_n 1, 1)) ∧ (decode cX0_turnLanes 66 = .ok (.iadd, 1)) ∧ (decode cX0_turnLanes 67 = .ok (.baload, 1)) ∧ (decode cX0_turnLanes 68 = .ok (.invokevirtual 41, 3)) ∧ (decode cX0_turnLanes 71 = .ok (.aload_n 0, 1)) ∧ (decode cX0_turnLanes 72 = .ok (.iload_n 2, 1)) ∧ (decode cX0_turnLanes 73 = .ok (.iload_n 1, 1)) ∧ (decode cX0_turnLanes 74 = .ok (.iload_n 3, 1)) := by decide +kernel
theorem dX0_turnLanes_65 : decode cX0_turnLanes 65 = .ok (.iload_n 1, 1) := dX0_turnLanes_65_g.1
theorem dX0_turnLanes_66 : decode cX0_turnLanes 66 = .ok (.iadd, 1) := dX0_turnLanes_65_g.2.1
theorem dX0_turnLanes_67 : decode cX0_turnLanes 67 = .ok (.baload, 1) := dX0_turnLanes_65_g.2.2.1
theorem dX0_turnLanes_68 : decode cX0_turnLanes 68 = .ok (.invokevirtual 41, 3) := dX0_turnLanes_65_g.2.2.2.1
theorem dX0_turnLanes_71 : decode cX0_turnLanes 71 = .ok (.aload_n 0, 1) := dX0_turnLanes_65_g.2.2.2.2.1
theorem dX0_turnLanes_72 : decode cX0_turnLanes 72 = .ok (.iload_n 2, 1) := dX0_turnLanes_65_g.2.2.2.2.2.1
theorem dX0_turnLanes_73 : decode cX0_turnLanes 73 = .ok (.iload_n 1, 1) := dX0_turnLanes_65_g.2.2.2.2.2.2.1
theorem dX0_turnLanes_74 : decode cX0_turnLanes 74 = .ok (.iload_n 3, 1) := dX0_turnLanes_65_g.2.2.2.2.2.2.2
theorem dX0_turnLanes_75_g : (decode cX0_turnLanes 75 = .ok (.iload 4, 2)) ∧ (decode cX0_turnLanes 77 = .ok (.invokevirtual 41, 3)) ∧ (decode cX0_turnLanes 80 = .ok (.iinc 2 1, 3)) ∧ (decode cX0_turnLanes 83 = .ok (.goto (-69), 3)) ∧ (decode cX0_turnLanes 86 = .ok (.iinc 1 1, 3)) ∧ (decode cX0_turnLanes 89 = .ok (.goto (-87), 3)) ∧ (decode cX0_turnLanes 92 = .ok (.return_, 1)) := by decide +kernel
theorem dX0_turnLanes_75 : decode cX0_turnLanes 75 = .ok (.iload 4, 2) := dX0_turnLanes_75_g.1
theorem dX0_turnLanes_77 : decode cX0_turnLanes 77 = .ok (.invokevirtual 41, 3) := dX0_turnLanes_75_g.2.1
theorem dX0_turnLanes_80 : decode cX0_turnLanes 80 = .ok (.iinc 2 1, 3) := dX0_turnLanes_75_g.2.2.1
theorem dX0_turnLanes_83 : decode cX0_turnLanes 83 = .ok (.goto (-69), 3) := dX0_turnLanes_75_g.2.2.2.1
theorem dX0_turnLanes_86 : decode cX0_turnLanes 86 = .ok (.iinc 1 1, 3) := dX0_turnLanes_75_g.2.2.2.2.1
theorem dX0_turnLanes_89 : decode cX0_turnLanes 89 = .ok (.goto (-87), 3) := dX0_turnLanes_75_g.2.2.2.2.2.1
theorem dX0_turnLanes_92 : decode cX0_turnLanes 92 = .ok (.return_, 1) := dX0_turnLanes_75_g.2.2.2.2.2.2
theorem dX0_renameLanes_0_g : (decode cX0_renameLanes 0 = .ok (.aload_n 0, 1)) ∧ (decode cX0_renameLanes 1 = .ok (.getfield 18, 3)) ∧ (decode cX0_renameLanes 4 = .ok (.invokevirtual 45, 3)) ∧ (decode cX0_renameLanes 7 = .ok (.checkcast 46, 3)) ∧ (decode cX0_renameLanes 10 = .ok (.astore_n 2, 1)) ∧ (decode cX0_renameLanes 11 = .ok (.aload_n 0, 1)) ∧ (decode cX0_renameLanes 12 = .ok (.getfield 21, 3)) ∧ (decode cX0_renameLanes 15 = .ok (.invokevirtual 50, 3)) := by decide +kernel
theorem dX0_renameLanes_0 : decode cX0_renameLanes 0 = .ok (.aload_n 0, 1) := dX0_renameLanes_0_g.1
theorem dX0_renameLanes_1 : decode cX0_renameLanes 1 = .ok (.getfield 18, 3) := dX0_renameLanes_0_g.2.1
theorem dX0_renameLanes_4 : decode cX0_renameLanes 4 = .ok (.invokevirtual 45, 3) := dX0_renameLanes_0_g.2.2.1
theorem dX0_renameLanes_7 : decode cX0_renameLanes 7 = .ok (.checkcast 46, 3) := dX0_renameLanes_0_g.2.2.2.1
theorem dX0_renameLanes_10 : decode cX0_renameLanes 10 = .ok (.astore_n 2, 1) := dX0_renameLanes_0_g.2.2.2.2.1
theorem dX0_renameLanes_11 : decode cX0_renameLanes 11 = .ok (.aload_n 0, 1) := dX0_renameLanes_0_g.2.2.2.2.2.1
theorem dX0_renameLanes_12 : decode cX0_renameLanes 12 = .ok (.getfield 21, 3) := dX0_renameLanes_0_g.2.2.2.2.2.2.1
theorem dX0_renameLanes_15 : decode cX0_renameLanes 15 = .ok (.invokevirtual 50, 3) := dX0_renameLanes_0_g.2.2.2.2.2.2.2
theorem dX0_renameLanes_18_g : (decode cX0_renameLanes 18 = .ok (.checkcast 51, 3)) ∧ (decode cX0_renameLanes 21 = .ok (.astore_n 3, 1)) ∧ (decode cX0_renameLanes 22 = .ok (.iconst 0, 1)) ∧ (decode cX0_renameLanes 23 = .ok (.istore 4, 2)) ∧ (decode cX0_renameLanes 25 = .ok (.iload 4, 2)) ∧ (decode cX0_renameLanes 27 = .ok (.aload_n 0, 1)) ∧ (decode cX0_renameLanes 28 = .ok (.getfield 25, 3)) ∧ (decode cX0_renameLanes 31 = .ok (.if_icmp .ge 56, 3)) := by decide +kernel
theorem dX0_renameLanes_18 : decode cX0_renameLanes 18 = .ok (.checkcast 51, 3) := dX0_renameLanes_18_g.1
theorem dX0_renameLanes_21 : decode cX0_renameLanes 21 = .ok (.astore_n 3, 1) := dX0_renameLanes_18_g.2.1
theorem dX0_renameLanes_22 : decode cX0_renameLanes 22 = .ok (.iconst 0, 1) := dX0_renameLanes_18_g.2.2.1
theorem dX0_renameLanes_23 : decode cX0_renameLanes 23 = .ok (.istore 4, 2) := dX0_renameLanes_18_g.2.2.2.1
theorem dX0_renameLanes_25 : decode cX0_renameLanes 25 = .ok (.iload 4, 2) := dX0_renameLanes_18_g.2.2.2.2.1
theorem dX0_renameLanes_27 : decode cX0_renameLanes 27 = .ok (.aload_n 0, 1) := dX0_renameLanes_18_g.2.2.2.2.2.1
theorem dX0_renameLanes_28 : decode cX0_renameLanes 28 = .ok (.getfield 25, 3) := dX0_renameLanes_18_g.2.2.2.2.2.2.1
theorem dX0_renameLanes_31 : decode cX0_renameLanes 31 = .ok (.if_icmp .ge 56, 3) := dX0_renameLanes_18_g.2.2.2.2.2.2.2
theorem dX0_renameLanes_34_g : (decode cX0_renameLanes 34 = .ok (.iconst 0, 1)) ∧ (decode cX0_renameLanes 35 = .ok (.istore 5, 2)) ∧ (decode cX0_renameLanes 37 = .ok (.iload 5, 2)) ∧ (decode cX0_renameLanes 39 = .ok (.aload_n 0, 1)) ∧ (decode cX0_renameLanes 40 = .ok (.getfield 25, 3)) ∧ (decode cX0_renameLanes 43 = .ok (.if_icmp .ge 38, 3)) ∧ (decode cX0_renameLanes 46 = .ok (.iload 4, 2)) ∧ (decode cX0_renameLanes 48 = .ok (.iconst 5, 1)) := by decide +kernel
theorem dX0_renameLanes_34 : decode cX0_renameLanes 34 = .ok (.iconst 0, 1) := dX0_renameLanes_34_g.1
theorem dX0_renameLanes_35 : decode cX0_renameLanes 35 = .ok (.istore 5, 2) := dX0_renameLanes_34_g.2.1
theorem dX0_renameLanes_37 : decode cX0_renameLanes 37 = .ok (.iload 5, 2) := dX0_renameLanes_34_g.2.2.1
theorem dX0_renameLanes_39 : decode cX0_renameLanes 39 = .ok (.aload_n 0, 1) := dX0_renameLanes_34_g.2.2.2.1
theorem dX0_renameLanes_40 : decode cX0_renameLanes 40 = .ok (.getfield 25, 3) := dX0_renameLanes_34_g.2.2.2.2.1
theorem dX0_renameLanes_43 : decode cX0_renameLanes 43 = .ok (.if_icmp .ge 38, 3) := dX0_renameLanes_34_g.2.2.2.2.2.1
theorem dX0_renameLanes_46 : decode cX0_renameLanes 46 = .ok (.iload 4, 2) := dX0_renameLanes_34_g.2.2.2.2.2.2.1
theorem dX0_renameLanes_48 : decode cX0_renameLanes 48 = .ok (.iconst 5, 1) := dX0_renameLanes_34_g.2.2.2.2.2.2.2
theorem dX0_renameLanes_49_g : (decode cX0_renameLanes 49 = .ok (.imul, 1)) ∧ (decode cX0_renameLanes 50 = .ok (.iload 5, 2)) ∧ (decode cX0_renameLanes 52 = .ok (.iadd, 1)) ∧ (decode cX0_renameLanes 53 = .ok (.istore 6, 2)) ∧ (decode cX0_renameLanes 55 = .ok (.aload_n 0, 1)) ∧ (decode cX0_renameLanes 56 = .ok (.aload_n 1, 1)) ∧ (decode cX0_renameLanes 57 = .ok (.iload 4, 2)) ∧ (decode cX0_renameLanes 59 = .ok (.iaload, 1)) := by decide +kernel
theorem dX0_renameLanes_49 : decode cX0_renameLanes 49 = .ok (.imul, 1) := dX0_renameLanes_49_g.1
theorem dX0_renameLanes_50 : decode cX0_renameLanes 50 = .ok (.iload 5, 2) := dX0_renameLanes_49_g.2.1
theorem dX0_renameLanes_52 : decode cX0_renameLanes 52 = .ok (.iadd, 1) := dX0_renameLanes_49_g.2.2.1
theorem dX0_renameLanes_53 : decode cX0_renameLanes 53 = .ok (.istore 6, 2) := dX0_renameLanes_49_g.2.2.2.1
theorem dX0_renameLanes_55 : decode cX0_renameLanes 55 = .ok (.aload_n 0, 1) := dX0_renameLanes_49_g.2.2.2.2.1
theorem dX0_renameLanes_56 : decode cX0_renameLanes 56 = .ok (.aload_n 1, 1) := dX0_renameLanes_49_g.2.2.2.2.2.1
theorem dX0_renameLanes_57 : decode cX0_renameLanes 57 = .ok (.iload 4, 2) := dX0_renameLanes_49_g.2.2.2.2.2.2.1
theorem dX0_renameLanes_59 : decode cX0_renameLanes 59 = .ok (.iaload, 1) := dX0_renameLanes_49_g.2.2.2.2.2.2.2
theorem dX0_renameLanes_60_g : (decode cX0_renameLanes 60 = .ok (.aload_n 1, 1)) ∧ (decode cX0_renameLanes 61 = .ok (.iload 5, 2)) ∧ (decode cX0_renameLanes 63 = .ok (.iaload, 1)) ∧ (decode cX0_renameLanes 64 = .ok (.aload_n 2, 1)) ∧ (decode cX0_renameLanes 65 = .ok (.iload 6, 2)) ∧ (decode cX0_renameLanes 67 = .ok (.iaload, 1)) ∧ (decode cX0_renameLanes 68 = .ok (.aload_n 3, 1)) ∧ (decode cX0_renameLanes 69 = .ok (.iload 6, 2)) := by decide +kernel
theorem dX0_renameLanes_60 : decode cX0_renameLanes 60 = .ok (.aload_n 1, 1) := dX0_renameLanes_60_g.1
theorem dX0_renameLanes_61 : decode cX0_renameLanes 61 = .ok (.iload 5, 2) := dX0_renameLanes_60_g.2.1
theorem dX0_renameLanes_63 : decode cX0_renameLanes 63 = .ok (.iaload, 1) := dX0_renameLanes_60_g.2.2.1
theorem dX0_renameLanes_64 : decode cX0_renameLanes 64 = .ok (.aload_n 2, 1) := dX0_renameLanes_60_g.2.2.2.1
theorem dX0_renameLanes_65 : decode cX0_renameLanes 65 = .ok (.iload 6, 2) := dX0_renameLanes_60_g.2.2.2.2.1
theorem dX0_renameLanes_67 : decode cX0_renameLanes 67 = .ok (.iaload, 1) := dX0_renameLanes_60_g.2.2.2.2.2.1
theorem dX0_renameLanes_68 : decode cX0_renameLanes 68 = .ok (.aload_n 3, 1) := dX0_renameLanes_60_g.2.2.2.2.2.2.1
theorem dX0_renameLanes_69 : decode cX0_renameLanes 69 = .ok (.iload 6, 2) := dX0_renameLanes_60_g.2.2.2.2.2.2.2
theorem dX0_renameLanes_71_g : (decode cX0_renameLanes 71 = .ok (.baload, 1)) ∧ (decode cX0_renameLanes 72 = .ok (.invokevirtual 41, 3)) ∧ (decode cX0_renameLanes 75 = .ok (.iinc 5 1, 3)) ∧ (decode cX0_renameLanes 78 = .ok (.goto (-41), 3)) ∧ (decode cX0_renameLanes 81 = .ok (.iinc 4 1, 3)) ∧ (decode cX0_renameLanes 84 = .ok (.goto (-59), 3)) ∧ (decode cX0_renameLanes 87 = .ok (.return_, 1)) := by decide +kernel
theorem dX0_renameLanes_71 : decode cX0_renameLanes 71 = .ok (.baload, 1) := dX0_renameLanes_71_g.1
theorem dX0_renameLanes_72 : decode cX0_renameLanes 72 = .ok (.invokevirtual 41, 3) := dX0_renameLanes_71_g.2.1
theorem dX0_renameLanes_75 : decode cX0_renameLanes 75 = .ok (.iinc 5 1, 3) := dX0_renameLanes_71_g.2.2.1
theorem dX0_renameLanes_78 : decode cX0_renameLanes 78 = .ok (.goto (-41), 3) := dX0_renameLanes_71_g.2.2.2.1
theorem dX0_renameLanes_81 : decode cX0_renameLanes 81 = .ok (.iinc 4 1, 3) := dX0_renameLanes_71_g.2.2.2.2.1
theorem dX0_renameLanes_84 : decode cX0_renameLanes 84 = .ok (.goto (-59), 3) := dX0_renameLanes_71_g.2.2.2.2.2.1
theorem dX0_renameLanes_87 : decode cX0_renameLanes 87 = .ok (.return_, 1) := dX0_renameLanes_71_g.2.2.2.2.2.2
theorem dX0_sumOfKinds_0_g : (decode cX0_sumOfKinds 0 = .ok (.iconst 0, 1)) ∧ (decode cX0_sumOfKinds 1 = .ok (.istore_n 1, 1)) ∧ (decode cX0_sumOfKinds 2 = .ok (.iconst 0, 1)) ∧ (decode cX0_sumOfKinds 3 = .ok (.istore_n 2, 1)) ∧ (decode cX0_sumOfKinds 4 = .ok (.iload_n 2, 1)) ∧ (decode cX0_sumOfKinds 5 = .ok (.aload_n 0, 1)) ∧ (decode cX0_sumOfKinds 6 = .ok (.getfield 29, 3)) ∧ (decode cX0_sumOfKinds 9 = .ok (.if_icmp .ge 22, 3)) := by decide +kernel
theorem dX0_sumOfKinds_0 : decode cX0_sumOfKinds 0 = .ok (.iconst 0, 1) := dX0_sumOfKinds_0_g.1
theorem dX0_sumOfKinds_1 : decode cX0_sumOfKinds 1 = .ok (.istore_n 1, 1) := dX0_sumOfKinds_0_g.2.1
theorem dX0_sumOfKinds_2 : decode cX0_sumOfKinds 2 = .ok (.iconst 0, 1) := dX0_sumOfKinds_0_g.2.2.1
theorem dX0_sumOfKinds_3 : decode cX0_sumOfKinds 3 = .ok (.istore_n 2, 1) := dX0_sumOfKinds_0_g.2.2.2.1
theorem dX0_sumOfKinds_4 : decode cX0_sumOfKinds 4 = .ok (.iload_n 2, 1) := dX0_sumOfKinds_0_g.2.2.2.2.1
theorem dX0_sumOfKinds_5 : decode cX0_sumOfKinds 5 = .ok (.aload_n 0, 1) := dX0_sumOfKinds_0_g.2.2.2.2.2.1
theorem dX0_sumOfKinds_6 : decode cX0_sumOfKinds 6 = .ok (.getfield 29, 3) := dX0_sumOfKinds_0_g.2.2.2.2.2.2.1
theorem dX0_sumOfKinds_9 : decode cX0_sumOfKinds 9 = .ok (.if_icmp .ge 22, 3) := dX0_sumOfKinds_0_g.2.2.2.2.2.2.2
theorem dX0_sumOfKinds_12_g : (decode cX0_sumOfKinds 12 = .ok (.iload_n 1, 1)) ∧ (decode cX0_sumOfKinds 13 = .ok (.aload_n 0, 1)) ∧ (decode cX0_sumOfKinds 14 = .ok (.getfield 15, 3)) ∧ (decode cX0_sumOfKinds 17 = .ok (.iload_n 2, 1)) ∧ (decode cX0_sumOfKinds 18 = .ok (.iaload, 1)) ∧ (decode cX0_sumOfKinds 19 = .ok (.iconst 2, 1)) ∧ (decode cX0_sumOfKinds 20 = .ok (.iload_n 2, 1)) ∧ (decode cX0_sumOfKinds 21 = .ok (.imul, 1)) := by decide +kernel
theorem dX0_sumOfKinds_12 : decode cX0_sumOfKinds 12 = .ok (.iload_n 1, 1) := dX0_sumOfKinds_12_g.1
theorem dX0_sumOfKinds_13 : decode cX0_sumOfKinds 13 = .ok (.aload_n 0, 1) := dX0_sumOfKinds_12_g.2.1
theorem dX0_sumOfKinds_14 : decode cX0_sumOfKinds 14 = .ok (.getfield 15, 3) := dX0_sumOfKinds_12_g.2.2.1
theorem dX0_sumOfKinds_17 : decode cX0_sumOfKinds 17 = .ok (.iload_n 2, 1) := dX0_sumOfKinds_12_g.2.2.2.1
theorem dX0_sumOfKinds_18 : decode cX0_sumOfKinds 18 = .ok (.iaload, 1) := dX0_sumOfKinds_12_g.2.2.2.2.1
theorem dX0_sumOfKinds_19 : decode cX0_sumOfKinds 19 = .ok (.iconst 2, 1) := dX0_sumOfKinds_12_g.2.2.2.2.2.1
theorem dX0_sumOfKinds_20 : decode cX0_sumOfKinds 20 = .ok (.iload_n 2, 1) := dX0_sumOfKinds_12_g.2.2.2.2.2.2.1
theorem dX0_sumOfKinds_21 : decode cX0_sumOfKinds 21 = .ok (.imul, 1) := dX0_sumOfKinds_12_g.2.2.2.2.2.2.2
theorem dX0_sumOfKinds_22_g : (decode cX0_sumOfKinds 22 = .ok (.ishl, 1)) ∧ (decode cX0_sumOfKinds 23 = .ok (.iadd, 1)) ∧ (decode cX0_sumOfKinds 24 = .ok (.istore_n 1, 1)) ∧ (decode cX0_sumOfKinds 25 = .ok (.iinc 2 1, 3)) ∧ (decode cX0_sumOfKinds 28 = .ok (.goto (-24), 3)) ∧ (decode cX0_sumOfKinds 31 = .ok (.iload_n 1, 1)) ∧ (decode cX0_sumOfKinds 32 = .ok (.ireturn, 1)) := by decide +kernel
theorem dX0_sumOfKinds_22 : decode cX0_sumOfKinds 22 = .ok (.ishl, 1) := dX0_sumOfKinds_22_g.1
theorem dX0_sumOfKinds_23 : decode cX0_sumOfKinds 23 = .ok (.iadd, 1) := dX0_sumOfKinds_22_g.2.1
theorem dX0_sumOfKinds_24 : decode cX0_sumOfKinds 24 = .ok (.istore_n 1, 1) := dX0_sumOfKinds_22_g.2.2.1
theorem dX0_sumOfKinds_25 : decode cX0_sumOfKinds 25 = .ok (.iinc 2 1, 3) := dX0_sumOfKinds_22_g.2.2.2.1
theorem dX0_sumOfKinds_28 : decode cX0_sumOfKinds 28 = .ok (.goto (-24), 3) := dX0_sumOfKinds_22_g.2.2.2.2.1
theorem dX0_sumOfKinds_31 : decode cX0_sumOfKinds 31 = .ok (.iload_n 1, 1) := dX0_sumOfKinds_22_g.2.2.2.2.2.1
theorem dX0_sumOfKinds_32 : decode cX0_sumOfKinds 32 = .ok (.ireturn, 1) := dX0_sumOfKinds_22_g.2.2.2.2.2.2
theorem dX1_init_0_g : (decode cX1_init 0 = .ok (.aload_n 0, 1)) ∧ (decode cX1_init 1 = .ok (.invokespecial 3, 3)) ∧ (decode cX1_init 4 = .ok (.aload_n 0, 1)) ∧ (decode cX1_init 5 = .ok (.bipush 8, 2)) ∧ (decode cX1_init 7 = .ok (.newarray .int, 2)) ∧ (decode cX1_init 9 = .ok (.putfield 9, 3)) ∧ (decode cX1_init 12 = .ok (.aload_n 0, 1)) ∧ (decode cX1_init 13 = .ok (.bipush 64, 2)) := by decide +kernel
theorem dX1_init_0 : decode cX1_init 0 = .ok (.aload_n 0, 1) := dX1_init_0_g.1
theorem dX1_init_1 : decode cX1_init 1 = .ok (.invokespecial 3, 3) := dX1_init_0_g.2.1
theorem dX1_init_4 : decode cX1_init 4 = .ok (.aload_n 0, 1) := dX1_init_0_g.2.2.1
theorem dX1_init_5 : decode cX1_init 5 = .ok (.bipush 8, 2) := dX1_init_0_g.2.2.2.1
theorem dX1_init_7 : decode cX1_init 7 = .ok (.newarray .int, 2) := dX1_init_0_g.2.2.2.2.1
theorem dX1_init_9 : decode cX1_init 9 = .ok (.putfield 9, 3) := dX1_init_0_g.2.2.2.2.2.1
theorem dX1_init_12 : decode cX1_init 12 = .ok (.aload_n 0, 1) := dX1_init_0_g.2.2.2.2.2.2.1
theorem dX1_init_13 : decode cX1_init 13 = .ok (.bipush 64, 2) := dX1_init_0_g.2.2.2.2.2.2.2
theorem dX1_init_15_g : (decode cX1_init 15 = .ok (.newarray .int, 2)) ∧ (decode cX1_init 17 = .ok (.putfield 15, 3)) ∧ (decode cX1_init 20 = .ok (.aload_n 0, 1)) ∧ (decode cX1_init 21 = .ok (.bipush 64, 2)) ∧ (decode cX1_init 23 = .ok (.newarray .int, 2)) ∧ (decode cX1_init 25 = .ok (.putfield 18, 3)) ∧ (decode cX1_init 28 = .ok (.aload_n 0, 1)) ∧ (decode cX1_init 29 = .ok (.sipush 320, 3)) := by decide +kernel
theorem dX1_init_15 : decode cX1_init 15 = .ok (.newarray .int, 2) := dX1_init_15_g.1
theorem dX1_init_17 : decode cX1_init 17 = .ok (.putfield 15, 3) := dX1_init_15_g.2.1
theorem dX1_init_20 : decode cX1_init 20 = .ok (.aload_n 0, 1) := dX1_init_15_g.2.2.1
theorem dX1_init_21 : decode cX1_init 21 = .ok (.bipush 64, 2) := dX1_init_15_g.2.2.2.1
theorem dX1_init_23 : decode cX1_init 23 = .ok (.newarray .int, 2) := dX1_init_15_g.2.2.2.2.1
theorem dX1_init_25 : decode cX1_init 25 = .ok (.putfield 18, 3) := dX1_init_15_g.2.2.2.2.2.1
theorem dX1_init_28 : decode cX1_init 28 = .ok (.aload_n 0, 1) := dX1_init_15_g.2.2.2.2.2.2.1
theorem dX1_init_29 : decode cX1_init 29 = .ok (.sipush 320, 3) := dX1_init_15_g.2.2.2.2.2.2.2
theorem dX1_init_32_g : (decode cX1_init 32 = .ok (.newarray .int, 2)) ∧ (decode cX1_init 34 = .ok (.putfield 21, 3)) ∧ (decode cX1_init 37 = .ok (.aload_n 0, 1)) ∧ (decode cX1_init 38 = .ok (.sipush 488, 3)) ∧ (decode cX1_init 41 = .ok (.newarray .long, 2)) ∧ (decode cX1_init 43 = .ok (.putfield 24, 3)) ∧ (decode cX1_init 46 = .ok (.return_, 1)) := by decide +kernel
theorem dX1_init_32 : decode cX1_init 32 = .ok (.newarray .int, 2) := dX1_init_32_g.1
theorem dX1_init_34 : decode cX1_init 34 = .ok (.putfield 21, 3) := dX1_init_32_g.2.1
theorem dX1_init_37 : decode cX1_init 37 = .ok (.aload_n 0, 1) := dX1_init_32_g.2.2.1
theorem dX1_init_38 : decode cX1_init 38 = .ok (.sipush 488, 3) := dX1_init_32_g.2.2.2.1
theorem dX1_init_41 : decode cX1_init 41 = .ok (.newarray .long, 2) := dX1_init_32_g.2.2.2.2.1
theorem dX1_init_43 : decode cX1_init 43 = .ok (.putfield 24, 3) := dX1_init_32_g.2.2.2.2.2.1
theorem dX1_init_46 : decode cX1_init 46 = .ok (.return_, 1) := dX1_init_32_g.2.2.2.2.2.2
theorem dX1_has_0_g : (decode cX1_has 0 = .ok (.iload_n 1, 1)) ∧ (decode cX1_has 1 = .ok (.ifCond .lt 15, 3)) ∧ (decode cX1_has 4 = .ok (.iload_n 1, 1)) ∧ (decode cX1_has 5 = .ok (.aload_n 0, 1)) ∧ (decode cX1_has 6 = .ok (.getfield 28, 3)) ∧ (decode cX1_has 9 = .ok (.if_icmp .ge 7, 3)) ∧ (decode cX1_has 12 = .ok (.iconst 1, 1)) ∧ (decode cX1_has 13 = .ok (.goto 4, 3)) := by decide +kernel
theorem dX1_has_0 : decode cX1_has 0 = .ok (.iload_n 1, 1) := dX1_has_0_g.1
theorem dX1_has_1 : decode cX1_has 1 = .ok (.ifCond .lt 15, 3) := dX1_has_0_g.2.1
theorem dX1_has_4 : decode cX1_has 4 = .ok (.iload_n 1, 1) := dX1_has_0_g.2.2.1
theorem dX1_has_5 : decode cX1_has 5 = .ok (.aload_n 0, 1) := dX1_has_0_g.2.2.2.1
theorem dX1_has_6 : decode cX1_has 6 = .ok (.getfield 28, 3) := dX1_has_0_g.2.2.2.2.1
theorem dX1_has_9 : decode cX1_has 9 = .ok (.if_icmp .ge 7, 3) := dX1_has_0_g.2.2.2.2.2.1
theorem dX1_has_12 : decode cX1_has 12 = .ok (.iconst 1, 1) := dX1_has_0_g.2.2.2.2.2.2.1
theorem dX1_has_13 : decode cX1_has 13 = .ok (.goto 4, 3) := dX1_has_0_g.2.2.2.2.2.2.2
theorem dX1_has_16_g : (decode cX1_has 16 = .ok (.iconst 0, 1)) ∧ (decode cX1_has 17 = .ok (.ireturn, 1)) := by decide +kernel
theorem dX1_has_16 : decode cX1_has 16 = .ok (.iconst 0, 1) := dX1_has_16_g.1
theorem dX1_has_17 : decode cX1_has 17 = .ok (.ireturn, 1) := dX1_has_16_g.2
theorem dX1_isFull_0_g : (decode cX1_isFull 0 = .ok (.aload_n 0, 1)) ∧ (decode cX1_isFull 1 = .ok (.getfield 9, 3)) ∧ (decode cX1_isFull 4 = .ok (.iload_n 1, 1)) ∧ (decode cX1_isFull 5 = .ok (.iaload, 1)) ∧ (decode cX1_isFull 6 = .ok (.bipush 8, 2)) ∧ (decode cX1_isFull 8 = .ok (.if_icmp .lt 7, 3)) ∧ (decode cX1_isFull 11 = .ok (.iconst 1, 1)) ∧ (decode cX1_isFull 12 = .ok (.goto 4, 3)) := by decide +kernel
theorem dX1_isFull_0 : decode cX1_isFull 0 = .ok (.aload_n 0, 1) := dX1_isFull_0_g.1
theorem dX1_isFull_1 : decode cX1_isFull 1 = .ok (.getfield 9, 3) := dX1_isFull_0_g.2.1
theorem dX1_isFull_4 : decode cX1_isFull 4 = .ok (.iload_n 1, 1) := dX1_isFull_0_g.2.2.1
theorem dX1_isFull_5 : decode cX1_isFull 5 = .ok (.iaload, 1) := dX1_isFull_0_g.2.2.2.1
theorem dX1_isFull_6 : decode cX1_isFull 6 = .ok (.bipush 8, 2) := dX1_isFull_0_g.2.2.2.2.1
theorem dX1_isFull_8 : decode cX1_isFull 8 = .ok (.if_icmp .lt 7, 3) := dX1_isFull_0_g.2.2.2.2.2.1
theorem dX1_isFull_11 : decode cX1_isFull 11 = .ok (.iconst 1, 1) := dX1_isFull_0_g.2.2.2.2.2.2.1
theorem dX1_isFull_12 : decode cX1_isFull 12 = .ok (.goto 4, 3) := dX1_isFull_0_g.2.2.2.2.2.2.2
theorem dX1_isFull_15_g : (decode cX1_isFull 15 = .ok (.iconst 0, 1)) ∧ (decode cX1_isFull 16 = .ok (.ireturn, 1)) := by decide +kernel
theorem dX1_isFull_15 : decode cX1_isFull 15 = .ok (.iconst 0, 1) := dX1_isFull_15_g.1
theorem dX1_isFull_16 : decode cX1_isFull 16 = .ok (.ireturn, 1) := dX1_isFull_15_g.2
theorem dX1_open_0_g : (decode cX1_open 0 = .ok (.aload_n 0, 1)) ∧ (decode cX1_open 1 = .ok (.getfield 9, 3)) ∧ (decode cX1_open 4 = .ok (.aload_n 0, 1)) ∧ (decode cX1_open 5 = .ok (.getfield 28, 3)) ∧ (decode cX1_open 8 = .ok (.iconst 0, 1)) ∧ (decode cX1_open 9 = .ok (.iastore, 1)) ∧ (decode cX1_open 10 = .ok (.aload_n 0, 1)) ∧ (decode cX1_open 11 = .ok (.dup, 1)) := by decide +kernel
theorem dX1_open_0 : decode cX1_open 0 = .ok (.aload_n 0, 1) := dX1_open_0_g.1
theorem dX1_open_1 : decode cX1_open 1 = .ok (.getfield 9, 3) := dX1_open_0_g.2.1
theorem dX1_open_4 : decode cX1_open 4 = .ok (.aload_n 0, 1) := dX1_open_0_g.2.2.1
theorem dX1_open_5 : decode cX1_open 5 = .ok (.getfield 28, 3) := dX1_open_0_g.2.2.2.1
theorem dX1_open_8 : decode cX1_open 8 = .ok (.iconst 0, 1) := dX1_open_0_g.2.2.2.2.1
theorem dX1_open_9 : decode cX1_open 9 = .ok (.iastore, 1) := dX1_open_0_g.2.2.2.2.2.1
theorem dX1_open_10 : decode cX1_open 10 = .ok (.aload_n 0, 1) := dX1_open_0_g.2.2.2.2.2.2.1
theorem dX1_open_11 : decode cX1_open 11 = .ok (.dup, 1) := dX1_open_0_g.2.2.2.2.2.2.2
theorem dX1_open_12_g : (decode cX1_open 12 = .ok (.getfield 28, 3)) ∧ (decode cX1_open 15 = .ok (.iconst 1, 1)) ∧ (decode cX1_open 16 = .ok (.iadd, 1)) ∧ (decode cX1_open 17 = .ok (.putfield 28, 3)) ∧ (decode cX1_open 20 = .ok (.aload_n 0, 1)) ∧ (decode cX1_open 21 = .ok (.getfield 28, 3)) ∧ (decode cX1_open 24 = .ok (.iconst 1, 1)) ∧ (decode cX1_open 25 = .ok (.isub, 1)) := by decide +kernel
theorem dX1_open_12 : decode cX1_open 12 = .ok (.getfield 28, 3) := dX1_open_12_g.1
theorem dX1_open_15 : decode cX1_open 15 = .ok (.iconst 1, 1) := dX1_open_12_g.2.1
theorem dX1_open_16 : decode cX1_open 16 = .ok (.iadd, 1) := dX1_open_12_g.2.2.1
theorem dX1_open_17 : decode cX1_open 17 = .ok (.putfield 28, 3) := dX1_open_12_g.2.2.2.1
theorem dX1_open_20 : decode cX1_open 20 = .ok (.aload_n 0, 1) := dX1_open_12_g.2.2.2.2.1
theorem dX1_open_21 : decode cX1_open 21 = .ok (.getfield 28, 3) := dX1_open_12_g.2.2.2.2.2.1
theorem dX1_open_24 : decode cX1_open 24 = .ok (.iconst 1, 1) := dX1_open_12_g.2.2.2.2.2.2.1
theorem dX1_open_25 : decode cX1_open 25 = .ok (.isub, 1) := dX1_open_12_g.2.2.2.2.2.2.2
theorem dX1_open_26 : decode cX1_open 26 = .ok (.ireturn, 1) := by decide +kernel
theorem dX1_append_0_g : (decode cX1_append 0 = .ok (.iload_n 1, 1)) ∧ (decode cX1_append 1 = .ok (.bipush 8, 2)) ∧ (decode cX1_append 3 = .ok (.imul, 1)) ∧ (decode cX1_append 4 = .ok (.aload_n 0, 1)) ∧ (decode cX1_append 5 = .ok (.getfield 9, 3)) ∧ (decode cX1_append 8 = .ok (.iload_n 1, 1)) ∧ (decode cX1_append 9 = .ok (.iaload, 1)) ∧ (decode cX1_append 10 = .ok (.iadd, 1)) := by decide +kernel
theorem dX1_append_0 : decode cX1_append 0 = .ok (.iload_n 1, 1) := dX1_append_0_g.1
theorem dX1_append_1 : decode cX1_append 1 = .ok (.bipush 8, 2) := dX1_append_0_g.2.1
theorem dX1_append_3 : decode cX1_append 3 = .ok (.imul, 1) := dX1_append_0_g.2.2.1
theorem dX1_append_4 : decode cX1_append 4 = .ok (.aload_n 0, 1) := dX1_append_0_g.2.2.2.1
theorem dX1_append_5 : decode cX1_append 5 = .ok (.getfield 9, 3) := dX1_append_0_g.2.2.2.2.1
theorem dX1_append_8 : decode cX1_append 8 = .ok (.iload_n 1, 1) := dX1_append_0_g.2.2.2.2.2.1
theorem dX1_append_9 : decode cX1_append 9 = .ok (.iaload, 1) := dX1_append_0_g.2.2.2.2.2.2.1
theorem dX1_append_10 : decode cX1_append 10 = .ok (.iadd, 1) := dX1_append_0_g.2.2.2.2.2.2.2
theorem dX1_append_11_g : (decode cX1_append 11 = .ok (.istore 5, 2)) ∧ (decode cX1_append 13 = .ok (.aload_n 0, 1)) ∧ (decode cX1_append 14 = .ok (.getfield 15, 3)) ∧ (decode cX1_append 17 = .ok (.iload 5, 2)) ∧ (decode cX1_append 19 = .ok (.iload_n 2, 1)) ∧ (decode cX1_append 20 = .ok (.iastore, 1)) ∧ (decode cX1_append 21 = .ok (.aload_n 0, 1)) ∧ (decode cX1_append 22 = .ok (.getfield 18, 3)) := by decide +kernel
theorem dX1_append_11 : decode cX1_append 11 = .ok (.istore 5, 2) := dX1_append_11_g.1
theorem dX1_append_13 : decode cX1_append 13 = .ok (.aload_n 0, 1) := dX1_append_11_g.2.1
theorem dX1_append_14 : decode cX1_append 14 = .ok (.getfield 15, 3) := dX1_append_11_g.2.2.1
theorem dX1_append_17 : decode cX1_append 17 = .ok (.iload 5, 2) := dX1_append_11_g.2.2.2.1
theorem dX1_append_19 : decode cX1_append 19 = .ok (.iload_n 2, 1) := dX1_append_11_g.2.2.2.2.1
theorem dX1_append_20 : decode cX1_append 20 = .ok (.iastore, 1) := dX1_append_11_g.2.2.2.2.2.1
theorem dX1_append_21 : decode cX1_append 21 = .ok (.aload_n 0, 1) := dX1_append_11_g.2.2.2.2.2.2.1
theorem dX1_append_22 : decode cX1_append 22 = .ok (.getfield 18, 3) := dX1_append_11_g.2.2.2.2.2.2.2
theorem dX1_append_25_g : (decode cX1_append 25 = .ok (.iload 5, 2)) ∧ (decode cX1_append 27 = .ok (.iload_n 3, 1)) ∧ (decode cX1_append 28 = .ok (.iastore, 1)) ∧ (decode cX1_append 29 = .ok (.iconst 0, 1)) ∧ (decode cX1_append 30 = .ok (.istore 6, 2)) ∧ (decode cX1_append 32 = .ok (.iload 6, 2)) ∧ (decode cX1_append 34 = .ok (.aload 4, 2)) ∧ (decode cX1_append 36 = .ok (.arraylength, 1)) := by decide +kernel
theorem dX1_append_25 : decode cX1_append 25 = .ok (.iload 5, 2) := dX1_append_25_g.1
theorem dX1_append_27 : decode cX1_append 27 = .ok (.iload_n 3, 1) := dX1_append_25_g.2.1
theorem dX1_append_28 : decode cX1_append 28 = .ok (.iastore, 1) := dX1_append_25_g.2.2.1
theorem dX1_append_29 : decode cX1_append 29 = .ok (.iconst 0, 1) := dX1_append_25_g.2.2.2.1
theorem dX1_append_30 : decode cX1_append 30 = .ok (.istore 6, 2) := dX1_append_25_g.2.2.2.2.1
theorem dX1_append_32 : decode cX1_append 32 = .ok (.iload 6, 2) := dX1_append_25_g.2.2.2.2.2.1
theorem dX1_append_34 : decode cX1_append 34 = .ok (.aload 4, 2) := dX1_append_25_g.2.2.2.2.2.2.1
theorem dX1_append_36 : decode cX1_append 36 = .ok (.arraylength, 1) := dX1_append_25_g.2.2.2.2.2.2.2
theorem dX1_append_37_g : (decode cX1_append 37 = .ok (.if_icmp .ge 32, 3)) ∧ (decode cX1_append 40 = .ok (.iload 6, 2)) ∧ (decode cX1_append 42 = .ok (.iconst 5, 1)) ∧ (decode cX1_append 43 = .ok (.if_icmp .ge 26, 3)) ∧ (decode cX1_append 46 = .ok (.aload_n 0, 1)) ∧ (decode cX1_append 47 = .ok (.getfield 21, 3)) ∧ (decode cX1_append 50 = .ok (.iload 5, 2)) ∧ (decode cX1_append 52 = .ok (.iconst 5, 1)) := by decide +kernel
theorem dX1_append_37 : decode cX1_append 37 = .ok (.if_icmp .ge 32, 3) := dX1_append_37_g.1
theorem dX1_append_40 : decode cX1_append 40 = .ok (.iload 6, 2) := dX1_append_37_g.2.1
theorem dX1_append_42 : decode cX1_append 42 = .ok (.iconst 5, 1) := dX1_append_37_g.2.2.1
theorem dX1_append_43 : decode cX1_append 43 = .ok (.if_icmp .ge 26, 3) := dX1_append_37_g.2.2.2.1
theorem dX1_append_46 : decode cX1_append 46 = .ok (.aload_n 0, 1) := dX1_append_37_g.2.2.2.2.1
theorem dX1_append_47 : decode cX1_append 47 = .ok (.getfield 21, 3) := dX1_append_37_g.2.2.2.2.2.1
theorem dX1_append_50 : decode cX1_append 50 = .ok (.iload 5, 2) := dX1_append_37_g.2.2.2.2.2.2.1
theorem dX1_append_52 : decode cX1_append 52 = .ok (.iconst 5, 1) := dX1_append_37_g.2.2.2.2.2.2.2
theorem dX1_append_53_g : (decode cX1_append 53 = .ok (.imul, 1)) ∧ (decode cX1_append 54 = .ok (.iload 6, 2)) ∧ (decode cX1_append 56 = .ok (.iadd, 1)) ∧ (decode cX1_append 57 = .ok (.aload 4, 2)) ∧ (decode cX1_append 59 = .ok (.iload 6, 2)) ∧ (decode cX1_append 61 = .ok (.iaload, 1)) ∧ (decode cX1_append 62 = .ok (.iastore, 1)) ∧ (decode cX1_append 63 = .ok (.iinc 6 1, 3)) := by decide +kernel
theorem dX1_append_53 : decode cX1_append 53 = .ok (.imul, 1) := dX1_append_53_g.1
theorem dX1_append_54 : decode cX1_append 54 = .ok (.iload 6, 2) := dX1_append_53_g.2.1
theorem dX1_append_56 : decode cX1_append 56 = .ok (.iadd, 1) := dX1_append_53_g.2.2.1
theorem dX1_append_57 : decode cX1_append 57 = .ok (.aload 4, 2) := dX1_append_53_g.2.2.2.1
theorem dX1_append_59 : decode cX1_append 59 = .ok (.iload 6, 2) := dX1_append_53_g.2.2.2.2.1
theorem dX1_append_61 : decode cX1_append 61 = .ok (.iaload, 1) := dX1_append_53_g.2.2.2.2.2.1
theorem dX1_append_62 : decode cX1_append 62 = .ok (.iastore, 1) := dX1_append_53_g.2.2.2.2.2.2.1
theorem dX1_append_63 : decode cX1_append 63 = .ok (.iinc 6 1, 3) := dX1_append_53_g.2.2.2.2.2.2.2
theorem dX1_append_66_g : (decode cX1_append 66 = .ok (.goto (-34), 3)) ∧ (decode cX1_append 69 = .ok (.aload_n 0, 1)) ∧ (decode cX1_append 70 = .ok (.getfield 9, 3)) ∧ (decode cX1_append 73 = .ok (.iload_n 1, 1)) ∧ (decode cX1_append 74 = .ok (.dup2, 1)) ∧ (decode cX1_append 75 = .ok (.iaload, 1)) ∧ (decode cX1_append 76 = .ok (.iconst 1, 1)) ∧ (decode cX1_append 77 = .ok (.iadd, 1)) := by decide +kernel
theorem dX1_append_66 : decode cX1_append 66 = .ok (.goto (-34), 3) := dX1_append_66_g.1
theorem dX1_append_69 : decode cX1_append 69 = .ok (.aload_n 0, 1) := dX1_append_66_g.2.1
theorem dX1_append_70 : decode cX1_append 70 = .ok (.getfield 9, 3) := dX1_append_66_g.2.2.1
theorem dX1_append_73 : decode cX1_append 73 = .ok (.iload_n 1, 1) := dX1_append_66_g.2.2.2.1
theorem dX1_append_74 : decode cX1_append 74 = .ok (.dup2, 1) := dX1_append_66_g.2.2.2.2.1
theorem dX1_append_75 : decode cX1_append 75 = .ok (.iaload, 1) := dX1_append_66_g.2.2.2.2.2.1
theorem dX1_append_76 : decode cX1_append 76 = .ok (.iconst 1, 1) := dX1_append_66_g.2.2.2.2.2.2.1
theorem dX1_append_77 : decode cX1_append 77 = .ok (.iadd, 1) := dX1_append_66_g.2.2.2.2.2.2.2
theorem dX1_append_78_g : (decode cX1_append 78 = .ok (.iastore, 1)) ∧ (decode cX1_append 79 = .ok (.aload_n 0, 1)) ∧ (decode cX1_append 80 = .ok (.getfield 9, 3)) ∧ (decode cX1_append 83 = .ok (.iload_n 1, 1)) ∧ (decode cX1_append 84 = .ok (.iaload, 1)) ∧ (decode cX1_append 85 = .ok (.ireturn, 1)) := by decide +kernel
theorem dX1_append_78 : decode cX1_append 78 = .ok (.iastore, 1) := dX1_append_78_g.1
theorem dX1_append_79 : decode cX1_append 79 = .ok (.aload_n 0, 1) := dX1_append_78_g.2.1
theorem dX1_append_80 : decode cX1_append 80 = .ok (.getfield 9, 3) := dX1_append_78_g.2.2.1
theorem dX1_append_83 : decode cX1_append 83 = .ok (.iload_n 1, 1) := dX1_append_78_g.2.2.2.1
theorem dX1_append_84 : decode cX1_append 84 = .ok (.iaload, 1) := dX1_append_78_g.2.2.2.2.1
theorem dX1_append_85 : decode cX1_append 85 = .ok (.ireturn, 1) := dX1_append_78_g.2.2.2.2.2
theorem dX1_tally_0_g : (decode cX1_tally 0 = .ok (.iconst 1, 1)) ∧ (decode cX1_tally 1 = .ok (.istore_n 3, 1)) ∧ (decode cX1_tally 2 = .ok (.iload_n 3, 1)) ∧ (decode cX1_tally 3 = .ok (.iload_n 2, 1)) ∧ (decode cX1_tally 4 = .ok (.if_icmp .gt 46, 3)) ∧ (decode cX1_tally 7 = .ok (.iconst 0, 1)) ∧ (decode cX1_tally 8 = .ok (.istore 4, 2)) ∧ (decode cX1_tally 10 = .ok (.iload 4, 2)) := by decide +kernel
theorem dX1_tally_0 : decode cX1_tally 0 = .ok (.iconst 1, 1) := dX1_tally_0_g.1
theorem dX1_tally_1 : decode cX1_tally 1 = .ok (.istore_n 3, 1) := dX1_tally_0_g.2.1
theorem dX1_tally_2 : decode cX1_tally 2 = .ok (.iload_n 3, 1) := dX1_tally_0_g.2.2.1
theorem dX1_tally_3 : decode cX1_tally 3 = .ok (.iload_n 2, 1) := dX1_tally_0_g.2.2.2.1
theorem dX1_tally_4 : decode cX1_tally 4 = .ok (.if_icmp .gt 46, 3) := dX1_tally_0_g.2.2.2.2.1
theorem dX1_tally_7 : decode cX1_tally 7 = .ok (.iconst 0, 1) := dX1_tally_0_g.2.2.2.2.2.1
theorem dX1_tally_8 : decode cX1_tally 8 = .ok (.istore 4, 2) := dX1_tally_0_g.2.2.2.2.2.2.1
theorem dX1_tally_10 : decode cX1_tally 10 = .ok (.iload 4, 2) := dX1_tally_0_g.2.2.2.2.2.2.2
theorem dX1_tally_12_g : (decode cX1_tally 12 = .ok (.aload_n 0, 1)) ∧ (decode cX1_tally 13 = .ok (.getfield 28, 3)) ∧ (decode cX1_tally 16 = .ok (.if_icmp .ge 28, 3)) ∧ (decode cX1_tally 19 = .ok (.aload_n 0, 1)) ∧ (decode cX1_tally 20 = .ok (.getfield 24, 3)) ∧ (decode cX1_tally 23 = .ok (.iload_n 3, 1)) ∧ (decode cX1_tally 24 = .ok (.bipush 8, 2)) ∧ (decode cX1_tally 26 = .ok (.imul, 1)) := by decide +kernel
theorem dX1_tally_12 : decode cX1_tally 12 = .ok (.aload_n 0, 1) := dX1_tally_12_g.1
theorem dX1_tally_13 : decode cX1_tally 13 = .ok (.getfield 28, 3) := dX1_tally_12_g.2.1
theorem dX1_tally_16 : decode cX1_tally 16 = .ok (.if_icmp .ge 28, 3) := dX1_tally_12_g.2.2.1
theorem dX1_tally_19 : decode cX1_tally 19 = .ok (.aload_n 0, 1) := dX1_tally_12_g.2.2.2.1
theorem dX1_tally_20 : decode cX1_tally 20 = .ok (.getfield 24, 3) := dX1_tally_12_g.2.2.2.2.1
theorem dX1_tally_23 : decode cX1_tally 23 = .ok (.iload_n 3, 1) := dX1_tally_12_g.2.2.2.2.2.1
theorem dX1_tally_24 : decode cX1_tally 24 = .ok (.bipush 8, 2) := dX1_tally_12_g.2.2.2.2.2.2.1
theorem dX1_tally_26 : decode cX1_tally 26 = .ok (.imul, 1) := dX1_tally_12_g.2.2.2.2.2.2.2
theorem dX1_tally_27_g : (decode cX1_tally 27 = .ok (.iload 4, 2)) ∧ (decode cX1_tally 29 = .ok (.iadd, 1)) ∧ (decode cX1_tally 30 = .ok (.aload_n 0, 1)) ∧ (decode cX1_tally 31 = .ok (.iload 4, 2)) ∧ (decode cX1_tally 33 = .ok (.iload_n 3, 1)) ∧ (decode cX1_tally 34 = .ok (.invokevirtual 32, 3)) ∧ (decode cX1_tally 37 = .ok (.lastore, 1)) ∧ (decode cX1_tally 38 = .ok (.iinc 4 1, 3)) := by decide +kernel
theorem dX1_tally_27 : decode cX1_tally 27 = .ok (.iload 4, 2) := dX1_tally_27_g.1
theorem dX1_tally_29 : decode cX1_tally 29 = .ok (.iadd, 1) := dX1_tally_27_g.2.1
theorem dX1_tally_30 : decode cX1_tally 30 = .ok (.aload_n 0, 1) := dX1_tally_27_g.2.2.1
theorem dX1_tally_31 : decode cX1_tally 31 = .ok (.iload 4, 2) := dX1_tally_27_g.2.2.2.1
theorem dX1_tally_33 : decode cX1_tally 33 = .ok (.iload_n 3, 1) := dX1_tally_27_g.2.2.2.2.1
theorem dX1_tally_34 : decode cX1_tally 34 = .ok (.invokevirtual 32, 3) := dX1_tally_27_g.2.2.2.2.2.1
theorem dX1_tally_37 : decode cX1_tally 37 = .ok (.lastore, 1) := dX1_tally_27_g.2.2.2.2.2.2.1
theorem dX1_tally_38 : decode cX1_tally 38 = .ok (.iinc 4 1, 3) := dX1_tally_27_g.2.2.2.2.2.2.2
theorem dX1_tally_41_g : (decode cX1_tally 41 = .ok (.goto (-31), 3)) ∧ (decode cX1_tally 44 = .ok (.iinc 3 1, 3)) ∧ (decode cX1_tally 47 = .ok (.goto (-45), 3)) ∧ (decode cX1_tally 50 = .ok (.aload_n 0, 1)) ∧ (decode cX1_tally 51 = .ok (.getfield 24, 3)) ∧ (decode cX1_tally 54 = .ok (.iload_n 2, 1)) ∧ (decode cX1_tally 55 = .ok (.bipush 8, 2)) ∧ (decode cX1_tally 57 = .ok (.imul, 1)) := by decide +kernel
theorem dX1_tally_41 : decode cX1_tally 41 = .ok (.goto (-31), 3) := dX1_tally_41_g.1
theorem dX1_tally_44 : decode cX1_tally 44 = .ok (.iinc 3 1, 3) := dX1_tally_41_g.2.1
theorem dX1_tally_47 : decode cX1_tally 47 = .ok (.goto (-45), 3) := dX1_tally_41_g.2.2.1
theorem dX1_tally_50 : decode cX1_tally 50 = .ok (.aload_n 0, 1) := dX1_tally_41_g.2.2.2.1
theorem dX1_tally_51 : decode cX1_tally 51 = .ok (.getfield 24, 3) := dX1_tally_41_g.2.2.2.2.1
theorem dX1_tally_54 : decode cX1_tally 54 = .ok (.iload_n 2, 1) := dX1_tally_41_g.2.2.2.2.2.1
theorem dX1_tally_55 : decode cX1_tally 55 = .ok (.bipush 8, 2) := dX1_tally_41_g.2.2.2.2.2.2.1
theorem dX1_tally_57 : decode cX1_tally 57 = .ok (.imul, 1) := dX1_tally_41_g.2.2.2.2.2.2.2
theorem dX1_tally_58_g : (decode cX1_tally 58 = .ok (.iload_n 1, 1)) ∧ (decode cX1_tally 59 = .ok (.iadd, 1)) ∧ (decode cX1_tally 60 = .ok (.laload, 1)) ∧ (decode cX1_tally 61 = .ok (.lreturn, 1)) := by decide +kernel
theorem dX1_tally_58 : decode cX1_tally 58 = .ok (.iload_n 1, 1) := dX1_tally_58_g.1
theorem dX1_tally_59 : decode cX1_tally 59 = .ok (.iadd, 1) := dX1_tally_58_g.2.1
theorem dX1_tally_60 : decode cX1_tally 60 = .ok (.laload, 1) := dX1_tally_58_g.2.2.1
theorem dX1_tally_61 : decode cX1_tally 61 = .ok (.lreturn, 1) := dX1_tally_58_g.2.2.2
theorem dX1_sumOfSteps_0_g : (decode cX1_sumOfSteps 0 = .ok (.lconst 0, 1)) ∧ (decode cX1_sumOfSteps 1 = .ok (.lstore_n 3, 1)) ∧ (decode cX1_sumOfSteps 2 = .ok (.iconst 0, 1)) ∧ (decode cX1_sumOfSteps 3 = .ok (.istore 5, 2)) ∧ (decode cX1_sumOfSteps 5 = .ok (.iload 5, 2)) ∧ (decode cX1_sumOfSteps 7 = .ok (.aload_n 0, 1)) ∧ (decode cX1_sumOfSteps 8 = .ok (.getfield 9, 3)) ∧ (decode cX1_sumOfSteps 11 = .ok (.iload_n 1, 1)) := by decide +kernel
theorem dX1_sumOfSteps_0 : decode cX1_sumOfSteps 0 = .ok (.lconst 0, 1) := dX1_sumOfSteps_0_g.1
theorem dX1_sumOfSteps_1 : decode cX1_sumOfSteps 1 = .ok (.lstore_n 3, 1) := dX1_sumOfSteps_0_g.2.1
theorem dX1_sumOfSteps_2 : decode cX1_sumOfSteps 2 = .ok (.iconst 0, 1) := dX1_sumOfSteps_0_g.2.2.1
theorem dX1_sumOfSteps_3 : decode cX1_sumOfSteps 3 = .ok (.istore 5, 2) := dX1_sumOfSteps_0_g.2.2.2.1
theorem dX1_sumOfSteps_5 : decode cX1_sumOfSteps 5 = .ok (.iload 5, 2) := dX1_sumOfSteps_0_g.2.2.2.2.1
theorem dX1_sumOfSteps_7 : decode cX1_sumOfSteps 7 = .ok (.aload_n 0, 1) := dX1_sumOfSteps_0_g.2.2.2.2.2.1
theorem dX1_sumOfSteps_8 : decode cX1_sumOfSteps 8 = .ok (.getfield 9, 3) := dX1_sumOfSteps_0_g.2.2.2.2.2.2.1
theorem dX1_sumOfSteps_11 : decode cX1_sumOfSteps 11 = .ok (.iload_n 1, 1) := dX1_sumOfSteps_0_g.2.2.2.2.2.2.2
theorem dX1_sumOfSteps_12_g : (decode cX1_sumOfSteps 12 = .ok (.iaload, 1)) ∧ (decode cX1_sumOfSteps 13 = .ok (.if_icmp .ge 75, 3)) ∧ (decode cX1_sumOfSteps 16 = .ok (.iload_n 1, 1)) ∧ (decode cX1_sumOfSteps 17 = .ok (.bipush 8, 2)) ∧ (decode cX1_sumOfSteps 19 = .ok (.imul, 1)) ∧ (decode cX1_sumOfSteps 20 = .ok (.iload 5, 2)) ∧ (decode cX1_sumOfSteps 22 = .ok (.iadd, 1)) ∧ (decode cX1_sumOfSteps 23 = .ok (.istore 6, 2)) := by decide +kernel
theorem dX1_sumOfSteps_12 : decode cX1_sumOfSteps 12 = .ok (.iaload, 1) := dX1_sumOfSteps_12_g.1
theorem dX1_sumOfSteps_13 : decode cX1_sumOfSteps 13 = .ok (.if_icmp .ge 75, 3) := dX1_sumOfSteps_12_g.2.1
theorem dX1_sumOfSteps_16 : decode cX1_sumOfSteps 16 = .ok (.iload_n 1, 1) := dX1_sumOfSteps_12_g.2.2.1
theorem dX1_sumOfSteps_17 : decode cX1_sumOfSteps 17 = .ok (.bipush 8, 2) := dX1_sumOfSteps_12_g.2.2.2.1
theorem dX1_sumOfSteps_19 : decode cX1_sumOfSteps 19 = .ok (.imul, 1) := dX1_sumOfSteps_12_g.2.2.2.2.1
theorem dX1_sumOfSteps_20 : decode cX1_sumOfSteps 20 = .ok (.iload 5, 2) := dX1_sumOfSteps_12_g.2.2.2.2.2.1
theorem dX1_sumOfSteps_22 : decode cX1_sumOfSteps 22 = .ok (.iadd, 1) := dX1_sumOfSteps_12_g.2.2.2.2.2.2.1
theorem dX1_sumOfSteps_23 : decode cX1_sumOfSteps 23 = .ok (.istore 6, 2) := dX1_sumOfSteps_12_g.2.2.2.2.2.2.2
theorem dX1_sumOfSteps_25_g : (decode cX1_sumOfSteps 25 = .ok (.aload_n 0, 1)) ∧ (decode cX1_sumOfSteps 26 = .ok (.getfield 15, 3)) ∧ (decode cX1_sumOfSteps 29 = .ok (.iload 6, 2)) ∧ (decode cX1_sumOfSteps 31 = .ok (.iaload, 1)) ∧ (decode cX1_sumOfSteps 32 = .ok (.iconst (-1), 1)) ∧ (decode cX1_sumOfSteps 33 = .ok (.if_icmp .ne 10, 3)) ∧ (decode cX1_sumOfSteps 36 = .ok (.lload_n 3, 1)) ∧ (decode cX1_sumOfSteps 37 = .ok (.lconst 1, 1)) := by decide +kernel
theorem dX1_sumOfSteps_25 : decode cX1_sumOfSteps 25 = .ok (.aload_n 0, 1) := dX1_sumOfSteps_25_g.1
theorem dX1_sumOfSteps_26 : decode cX1_sumOfSteps 26 = .ok (.getfield 15, 3) := dX1_sumOfSteps_25_g.2.1
theorem dX1_sumOfSteps_29 : decode cX1_sumOfSteps 29 = .ok (.iload 6, 2) := dX1_sumOfSteps_25_g.2.2.1
theorem dX1_sumOfSteps_31 : decode cX1_sumOfSteps 31 = .ok (.iaload, 1) := dX1_sumOfSteps_25_g.2.2.2.1
theorem dX1_sumOfSteps_32 : decode cX1_sumOfSteps 32 = .ok (.iconst (-1), 1) := dX1_sumOfSteps_25_g.2.2.2.2.1
theorem dX1_sumOfSteps_33 : decode cX1_sumOfSteps 33 = .ok (.if_icmp .ne 10, 3) := dX1_sumOfSteps_25_g.2.2.2.2.2.1
theorem dX1_sumOfSteps_36 : decode cX1_sumOfSteps 36 = .ok (.lload_n 3, 1) := dX1_sumOfSteps_25_g.2.2.2.2.2.2.1
theorem dX1_sumOfSteps_37 : decode cX1_sumOfSteps 37 = .ok (.lconst 1, 1) := dX1_sumOfSteps_25_g.2.2.2.2.2.2.2
theorem dX1_sumOfSteps_38_g : (decode cX1_sumOfSteps 38 = .ok (.ladd, 1)) ∧ (decode cX1_sumOfSteps 39 = .ok (.lstore_n 3, 1)) ∧ (decode cX1_sumOfSteps 40 = .ok (.goto 42, 3)) ∧ (decode cX1_sumOfSteps 43 = .ok (.aload_n 0, 1)) ∧ (decode cX1_sumOfSteps 44 = .ok (.getfield 18, 3)) ∧ (decode cX1_sumOfSteps 47 = .ok (.iload 6, 2)) ∧ (decode cX1_sumOfSteps 49 = .ok (.iaload, 1)) ∧ (decode cX1_sumOfSteps 50 = .ok (.iload_n 2, 1)) := by decide +kernel
theorem dX1_sumOfSteps_38 : decode cX1_sumOfSteps 38 = .ok (.ladd, 1) := dX1_sumOfSteps_38_g.1
theorem dX1_sumOfSteps_39 : decode cX1_sumOfSteps 39 = .ok (.lstore_n 3, 1) := dX1_sumOfSteps_38_g.2.1
theorem dX1_sumOfSteps_40 : decode cX1_sumOfSteps 40 = .ok (.goto 42, 3) := dX1_sumOfSteps_38_g.2.2.1
theorem dX1_sumOfSteps_43 : decode cX1_sumOfSteps 43 = .ok (.aload_n 0, 1) := dX1_sumOfSteps_38_g.2.2.2.1
theorem dX1_sumOfSteps_44 : decode cX1_sumOfSteps 44 = .ok (.getfield 18, 3) := dX1_sumOfSteps_38_g.2.2.2.2.1
theorem dX1_sumOfSteps_47 : decode cX1_sumOfSteps 47 = .ok (.iload 6, 2) := dX1_sumOfSteps_38_g.2.2.2.2.2.1
theorem dX1_sumOfSteps_49 : decode cX1_sumOfSteps 49 = .ok (.iaload, 1) := dX1_sumOfSteps_38_g.2.2.2.2.2.2.1
theorem dX1_sumOfSteps_50 : decode cX1_sumOfSteps 50 = .ok (.iload_n 2, 1) := dX1_sumOfSteps_38_g.2.2.2.2.2.2.2
theorem dX1_sumOfSteps_51_g : (decode cX1_sumOfSteps 51 = .ok (.if_icmp .ge 31, 3)) ∧ (decode cX1_sumOfSteps 54 = .ok (.lload_n 3, 1)) ∧ (decode cX1_sumOfSteps 55 = .ok (.aload_n 0, 1)) ∧ (decode cX1_sumOfSteps 56 = .ok (.getfield 24, 3)) ∧ (decode cX1_sumOfSteps 59 = .ok (.iload_n 2, 1)) ∧ (decode cX1_sumOfSteps 60 = .ok (.aload_n 0, 1)) ∧ (decode cX1_sumOfSteps 61 = .ok (.getfield 18, 3)) ∧ (decode cX1_sumOfSteps 64 = .ok (.iload 6, 2)) := by decide +kernel
theorem dX1_sumOfSteps_51 : decode cX1_sumOfSteps 51 = .ok (.if_icmp .ge 31, 3) := dX1_sumOfSteps_51_g.1
theorem dX1_sumOfSteps_54 : decode cX1_sumOfSteps 54 = .ok (.lload_n 3, 1) := dX1_sumOfSteps_51_g.2.1
theorem dX1_sumOfSteps_55 : decode cX1_sumOfSteps 55 = .ok (.aload_n 0, 1) := dX1_sumOfSteps_51_g.2.2.1
theorem dX1_sumOfSteps_56 : decode cX1_sumOfSteps 56 = .ok (.getfield 24, 3) := dX1_sumOfSteps_51_g.2.2.2.1
theorem dX1_sumOfSteps_59 : decode cX1_sumOfSteps 59 = .ok (.iload_n 2, 1) := dX1_sumOfSteps_51_g.2.2.2.2.1
theorem dX1_sumOfSteps_60 : decode cX1_sumOfSteps 60 = .ok (.aload_n 0, 1) := dX1_sumOfSteps_51_g.2.2.2.2.2.1
theorem dX1_sumOfSteps_61 : decode cX1_sumOfSteps 61 = .ok (.getfield 18, 3) := dX1_sumOfSteps_51_g.2.2.2.2.2.2.1
theorem dX1_sumOfSteps_64 : decode cX1_sumOfSteps 64 = .ok (.iload 6, 2) := dX1_sumOfSteps_51_g.2.2.2.2.2.2.2
theorem dX1_sumOfSteps_66_g : (decode cX1_sumOfSteps 66 = .ok (.iaload, 1)) ∧ (decode cX1_sumOfSteps 67 = .ok (.isub, 1)) ∧ (decode cX1_sumOfSteps 68 = .ok (.bipush 8, 2)) ∧ (decode cX1_sumOfSteps 70 = .ok (.imul, 1)) ∧ (decode cX1_sumOfSteps 71 = .ok (.aload_n 0, 1)) ∧ (decode cX1_sumOfSteps 72 = .ok (.getfield 15, 3)) ∧ (decode cX1_sumOfSteps 75 = .ok (.iload 6, 2)) ∧ (decode cX1_sumOfSteps 77 = .ok (.iaload, 1)) := by decide +kernel
theorem dX1_sumOfSteps_66 : decode cX1_sumOfSteps 66 = .ok (.iaload, 1) := dX1_sumOfSteps_66_g.1
theorem dX1_sumOfSteps_67 : decode cX1_sumOfSteps 67 = .ok (.isub, 1) := dX1_sumOfSteps_66_g.2.1
theorem dX1_sumOfSteps_68 : decode cX1_sumOfSteps 68 = .ok (.bipush 8, 2) := dX1_sumOfSteps_66_g.2.2.1
theorem dX1_sumOfSteps_70 : decode cX1_sumOfSteps 70 = .ok (.imul, 1) := dX1_sumOfSteps_66_g.2.2.2.1
theorem dX1_sumOfSteps_71 : decode cX1_sumOfSteps 71 = .ok (.aload_n 0, 1) := dX1_sumOfSteps_66_g.2.2.2.2.1
theorem dX1_sumOfSteps_72 : decode cX1_sumOfSteps 72 = .ok (.getfield 15, 3) := dX1_sumOfSteps_66_g.2.2.2.2.2.1
theorem dX1_sumOfSteps_75 : decode cX1_sumOfSteps 75 = .ok (.iload 6, 2) := dX1_sumOfSteps_66_g.2.2.2.2.2.2.1
theorem dX1_sumOfSteps_77 : decode cX1_sumOfSteps 77 = .ok (.iaload, 1) := dX1_sumOfSteps_66_g.2.2.2.2.2.2.2
theorem dX1_sumOfSteps_78_g : (decode cX1_sumOfSteps 78 = .ok (.iadd, 1)) ∧ (decode cX1_sumOfSteps 79 = .ok (.laload, 1)) ∧ (decode cX1_sumOfSteps 80 = .ok (.ladd, 1)) ∧ (decode cX1_sumOfSteps 81 = .ok (.lstore_n 3, 1)) ∧ (decode cX1_sumOfSteps 82 = .ok (.iinc 5 1, 3)) ∧ (decode cX1_sumOfSteps 85 = .ok (.goto (-80), 3)) ∧ (decode cX1_sumOfSteps 88 = .ok (.lload_n 3, 1)) ∧ (decode cX1_sumOfSteps 89 = .ok (.ldc2_w 36, 3)) := by decide +kernel
theorem dX1_sumOfSteps_78 : decode cX1_sumOfSteps 78 = .ok (.iadd, 1) := dX1_sumOfSteps_78_g.1
theorem dX1_sumOfSteps_79 : decode cX1_sumOfSteps 79 = .ok (.laload, 1) := dX1_sumOfSteps_78_g.2.1
theorem dX1_sumOfSteps_80 : decode cX1_sumOfSteps 80 = .ok (.ladd, 1) := dX1_sumOfSteps_78_g.2.2.1
theorem dX1_sumOfSteps_81 : decode cX1_sumOfSteps 81 = .ok (.lstore_n 3, 1) := dX1_sumOfSteps_78_g.2.2.2.1
theorem dX1_sumOfSteps_82 : decode cX1_sumOfSteps 82 = .ok (.iinc 5 1, 3) := dX1_sumOfSteps_78_g.2.2.2.2.1
theorem dX1_sumOfSteps_85 : decode cX1_sumOfSteps 85 = .ok (.goto (-80), 3) := dX1_sumOfSteps_78_g.2.2.2.2.2.1
theorem dX1_sumOfSteps_88 : decode cX1_sumOfSteps 88 = .ok (.lload_n 3, 1) := dX1_sumOfSteps_78_g.2.2.2.2.2.2.1
theorem dX1_sumOfSteps_89 : decode cX1_sumOfSteps 89 = .ok (.ldc2_w 36, 3) := dX1_sumOfSteps_78_g.2.2.2.2.2.2.2
theorem dX1_sumOfSteps_92_g : (decode cX1_sumOfSteps 92 = .ok (.invokestatic 38, 3)) ∧ (decode cX1_sumOfSteps 95 = .ok (.lreturn, 1)) := by decide +kernel
theorem dX1_sumOfSteps_92 : decode cX1_sumOfSteps 92 = .ok (.invokestatic 38, 3) := dX1_sumOfSteps_92_g.1
theorem dX1_sumOfSteps_95 : decode cX1_sumOfSteps 95 = .ok (.lreturn, 1) := dX1_sumOfSteps_92_g.2
theorem dX2_init_0_g : (decode cX2_init 0 = .ok (.aload_n 0, 1)) ∧ (decode cX2_init 1 = .ok (.invokespecial 3, 3)) ∧ (decode cX2_init 4 = .ok (.aload_n 0, 1)) ∧ (decode cX2_init 5 = .ok (.iconst 0, 1)) ∧ (decode cX2_init 6 = .ok (.newarray .int, 2)) ∧ (decode cX2_init 8 = .ok (.putfield 9, 3)) ∧ (decode cX2_init 11 = .ok (.aload_n 0, 1)) ∧ (decode cX2_init 12 = .ok (.iconst 0, 1)) := by decide +kernel
theorem dX2_init_0 : decode cX2_init 0 = .ok (.aload_n 0, 1) := dX2_init_0_g.1
theorem dX2_init_1 : decode cX2_init 1 = .ok (.invokespecial 3, 3) := dX2_init_0_g.2.1
theorem dX2_init_4 : decode cX2_init 4 = .ok (.aload_n 0, 1) := dX2_init_0_g.2.2.1
theorem dX2_init_5 : decode cX2_init 5 = .ok (.iconst 0, 1) := dX2_init_0_g.2.2.2.1
theorem dX2_init_6 : decode cX2_init 6 = .ok (.newarray .int, 2) := dX2_init_0_g.2.2.2.2.1
theorem dX2_init_8 : decode cX2_init 8 = .ok (.putfield 9, 3) := dX2_init_0_g.2.2.2.2.2.1
theorem dX2_init_11 : decode cX2_init 11 = .ok (.aload_n 0, 1) := dX2_init_0_g.2.2.2.2.2.2.1
theorem dX2_init_12 : decode cX2_init 12 = .ok (.iconst 0, 1) := dX2_init_0_g.2.2.2.2.2.2.2
theorem dX2_init_13_g : (decode cX2_init 13 = .ok (.newarray .int, 2)) ∧ (decode cX2_init 15 = .ok (.putfield 15, 3)) ∧ (decode cX2_init 18 = .ok (.aload_n 0, 1)) ∧ (decode cX2_init 19 = .ok (.iconst 0, 1)) ∧ (decode cX2_init 20 = .ok (.newarray .int, 2)) ∧ (decode cX2_init 22 = .ok (.putfield 18, 3)) ∧ (decode cX2_init 25 = .ok (.aload_n 0, 1)) ∧ (decode cX2_init 26 = .ok (.iconst 0, 1)) := by decide +kernel
theorem dX2_init_13 : decode cX2_init 13 = .ok (.newarray .int, 2) := dX2_init_13_g.1
theorem dX2_init_15 : decode cX2_init 15 = .ok (.putfield 15, 3) := dX2_init_13_g.2.1
theorem dX2_init_18 : decode cX2_init 18 = .ok (.aload_n 0, 1) := dX2_init_13_g.2.2.1
theorem dX2_init_19 : decode cX2_init 19 = .ok (.iconst 0, 1) := dX2_init_13_g.2.2.2.1
theorem dX2_init_20 : decode cX2_init 20 = .ok (.newarray .int, 2) := dX2_init_13_g.2.2.2.2.1
theorem dX2_init_22 : decode cX2_init 22 = .ok (.putfield 18, 3) := dX2_init_13_g.2.2.2.2.2.1
theorem dX2_init_25 : decode cX2_init 25 = .ok (.aload_n 0, 1) := dX2_init_13_g.2.2.2.2.2.2.1
theorem dX2_init_26 : decode cX2_init 26 = .ok (.iconst 0, 1) := dX2_init_13_g.2.2.2.2.2.2.2
theorem dX2_init_27_g : (decode cX2_init 27 = .ok (.newarray .int, 2)) ∧ (decode cX2_init 29 = .ok (.putfield 21, 3)) ∧ (decode cX2_init 32 = .ok (.aload_n 0, 1)) ∧ (decode cX2_init 33 = .ok (.iconst 0, 1)) ∧ (decode cX2_init 34 = .ok (.newarray .int, 2)) ∧ (decode cX2_init 36 = .ok (.putfield 24, 3)) ∧ (decode cX2_init 39 = .ok (.aload_n 0, 1)) ∧ (decode cX2_init 40 = .ok (.iconst 0, 1)) := by decide +kernel
theorem dX2_init_27 : decode cX2_init 27 = .ok (.newarray .int, 2) := dX2_init_27_g.1
theorem dX2_init_29 : decode cX2_init 29 = .ok (.putfield 21, 3) := dX2_init_27_g.2.1
theorem dX2_init_32 : decode cX2_init 32 = .ok (.aload_n 0, 1) := dX2_init_27_g.2.2.1
theorem dX2_init_33 : decode cX2_init 33 = .ok (.iconst 0, 1) := dX2_init_27_g.2.2.2.1
theorem dX2_init_34 : decode cX2_init 34 = .ok (.newarray .int, 2) := dX2_init_27_g.2.2.2.2.1
theorem dX2_init_36 : decode cX2_init 36 = .ok (.putfield 24, 3) := dX2_init_27_g.2.2.2.2.2.1
theorem dX2_init_39 : decode cX2_init 39 = .ok (.aload_n 0, 1) := dX2_init_27_g.2.2.2.2.2.2.1
theorem dX2_init_40 : decode cX2_init 40 = .ok (.iconst 0, 1) := dX2_init_27_g.2.2.2.2.2.2.2
theorem dX2_init_41_g : (decode cX2_init 41 = .ok (.newarray .int, 2)) ∧ (decode cX2_init 43 = .ok (.putfield 27, 3)) ∧ (decode cX2_init 46 = .ok (.aload_n 0, 1)) ∧ (decode cX2_init 47 = .ok (.iconst 0, 1)) ∧ (decode cX2_init 48 = .ok (.newarray .int, 2)) ∧ (decode cX2_init 50 = .ok (.putfield 30, 3)) ∧ (decode cX2_init 53 = .ok (.aload_n 0, 1)) ∧ (decode cX2_init 54 = .ok (.iconst 0, 1)) := by decide +kernel
theorem dX2_init_41 : decode cX2_init 41 = .ok (.newarray .int, 2) := dX2_init_41_g.1
theorem dX2_init_43 : decode cX2_init 43 = .ok (.putfield 27, 3) := dX2_init_41_g.2.1
theorem dX2_init_46 : decode cX2_init 46 = .ok (.aload_n 0, 1) := dX2_init_41_g.2.2.1
theorem dX2_init_47 : decode cX2_init 47 = .ok (.iconst 0, 1) := dX2_init_41_g.2.2.2.1
theorem dX2_init_48 : decode cX2_init 48 = .ok (.newarray .int, 2) := dX2_init_41_g.2.2.2.2.1
theorem dX2_init_50 : decode cX2_init 50 = .ok (.putfield 30, 3) := dX2_init_41_g.2.2.2.2.2.1
theorem dX2_init_53 : decode cX2_init 53 = .ok (.aload_n 0, 1) := dX2_init_41_g.2.2.2.2.2.2.1
theorem dX2_init_54 : decode cX2_init 54 = .ok (.iconst 0, 1) := dX2_init_41_g.2.2.2.2.2.2.2
theorem dX2_init_55_g : (decode cX2_init 55 = .ok (.newarray .int, 2)) ∧ (decode cX2_init 57 = .ok (.putfield 33, 3)) ∧ (decode cX2_init 60 = .ok (.return_, 1)) := by decide +kernel
theorem dX2_init_55 : decode cX2_init 55 = .ok (.newarray .int, 2) := dX2_init_55_g.1
theorem dX2_init_57 : decode cX2_init 57 = .ok (.putfield 33, 3) := dX2_init_55_g.2.1
theorem dX2_init_60 : decode cX2_init 60 = .ok (.return_, 1) := dX2_init_55_g.2.2
theorem dX2_forget_0_g : (decode cX2_forget 0 = .ok (.aload_n 0, 1)) ∧ (decode cX2_forget 1 = .ok (.iconst 0, 1)) ∧ (decode cX2_forget 2 = .ok (.putfield 36, 3)) ∧ (decode cX2_forget 5 = .ok (.return_, 1)) := by decide +kernel
theorem dX2_forget_0 : decode cX2_forget 0 = .ok (.aload_n 0, 1) := dX2_forget_0_g.1
theorem dX2_forget_1 : decode cX2_forget 1 = .ok (.iconst 0, 1) := dX2_forget_0_g.2.1
theorem dX2_forget_2 : decode cX2_forget 2 = .ok (.putfield 36, 3) := dX2_forget_0_g.2.2.1
theorem dX2_forget_5 : decode cX2_forget 5 = .ok (.return_, 1) := dX2_forget_0_g.2.2.2
theorem dX2_find_0_g : (decode cX2_find 0 = .ok (.aload_n 0, 1)) ∧ (decode cX2_find 1 = .ok (.getfield 36, 3)) ∧ (decode cX2_find 4 = .ok (.ifCond .eq 4, 3)) ∧ (decode cX2_find 7 = .ok (.return_, 1)) ∧ (decode cX2_find 8 = .ok (.aload_n 0, 1)) ∧ (decode cX2_find 9 = .ok (.iconst 1, 1)) ∧ (decode cX2_find 10 = .ok (.putfield 36, 3)) ∧ (decode cX2_find 13 = .ok (.aload_n 0, 1)) := by decide +kernel
theorem dX2_find_0 : decode cX2_find 0 = .ok (.aload_n 0, 1) := dX2_find_0_g.1
theorem dX2_find_1 : decode cX2_find 1 = .ok (.getfield 36, 3) := dX2_find_0_g.2.1
theorem dX2_find_4 : decode cX2_find 4 = .ok (.ifCond .eq 4, 3) := dX2_find_0_g.2.2.1
theorem dX2_find_7 : decode cX2_find 7 = .ok (.return_, 1) := dX2_find_0_g.2.2.2.1
theorem dX2_find_8 : decode cX2_find 8 = .ok (.aload_n 0, 1) := dX2_find_0_g.2.2.2.2.1
theorem dX2_find_9 : decode cX2_find 9 = .ok (.iconst 1, 1) := dX2_find_0_g.2.2.2.2.2.1
theorem dX2_find_10 : decode cX2_find 10 = .ok (.putfield 36, 3) := dX2_find_0_g.2.2.2.2.2.2.1
theorem dX2_find_13 : decode cX2_find 13 = .ok (.aload_n 0, 1) := dX2_find_0_g.2.2.2.2.2.2.2
theorem dX2_find_14_g : (decode cX2_find 14 = .ok (.aload_n 1, 1)) ∧ (decode cX2_find 15 = .ok (.getfield 40, 3)) ∧ (decode cX2_find 18 = .ok (.invokevirtual 46, 3)) ∧ (decode cX2_find 21 = .ok (.iconst 0, 1)) ∧ (decode cX2_find 22 = .ok (.istore_n 3, 1)) ∧ (decode cX2_find 23 = .ok (.iload_n 3, 1)) ∧ (decode cX2_find 24 = .ok (.aload_n 1, 1)) ∧ (decode cX2_find 25 = .ok (.getfield 40, 3)) := by decide +kernel
theorem dX2_find_14 : decode cX2_find 14 = .ok (.aload_n 1, 1) := dX2_find_14_g.1
theorem dX2_find_15 : decode cX2_find 15 = .ok (.getfield 40, 3) := dX2_find_14_g.2.1
theorem dX2_find_18 : decode cX2_find 18 = .ok (.invokevirtual 46, 3) := dX2_find_14_g.2.2.1
theorem dX2_find_21 : decode cX2_find 21 = .ok (.iconst 0, 1) := dX2_find_14_g.2.2.2.1
theorem dX2_find_22 : decode cX2_find 22 = .ok (.istore_n 3, 1) := dX2_find_14_g.2.2.2.2.1
theorem dX2_find_23 : decode cX2_find 23 = .ok (.iload_n 3, 1) := dX2_find_14_g.2.2.2.2.2.1
theorem dX2_find_24 : decode cX2_find 24 = .ok (.aload_n 1, 1) := dX2_find_14_g.2.2.2.2.2.2.1
theorem dX2_find_25 : decode cX2_find 25 = .ok (.getfield 40, 3) := dX2_find_14_g.2.2.2.2.2.2.2
theorem dX2_find_28_g : (decode cX2_find 28 = .ok (.if_icmp .ge 38, 3)) ∧ (decode cX2_find 31 = .ok (.aload_n 0, 1)) ∧ (decode cX2_find 32 = .ok (.getfield 9, 3)) ∧ (decode cX2_find 35 = .ok (.iload_n 3, 1)) ∧ (decode cX2_find 36 = .ok (.iaload, 1)) ∧ (decode cX2_find 37 = .ok (.ifCond .ne 23, 3)) ∧ (decode cX2_find 40 = .ok (.aload_n 2, 1)) ∧ (decode cX2_find 41 = .ok (.aload_n 1, 1)) := by decide +kernel
theorem dX2_find_28 : decode cX2_find 28 = .ok (.if_icmp .ge 38, 3) := dX2_find_28_g.1
theorem dX2_find_31 : decode cX2_find 31 = .ok (.aload_n 0, 1) := dX2_find_28_g.2.1
theorem dX2_find_32 : decode cX2_find 32 = .ok (.getfield 9, 3) := dX2_find_28_g.2.2.1
theorem dX2_find_35 : decode cX2_find 35 = .ok (.iload_n 3, 1) := dX2_find_28_g.2.2.2.1
theorem dX2_find_36 : decode cX2_find 36 = .ok (.iaload, 1) := dX2_find_28_g.2.2.2.2.1
theorem dX2_find_37 : decode cX2_find 37 = .ok (.ifCond .ne 23, 3) := dX2_find_28_g.2.2.2.2.2.1
theorem dX2_find_40 : decode cX2_find 40 = .ok (.aload_n 2, 1) := dX2_find_28_g.2.2.2.2.2.2.1
theorem dX2_find_41 : decode cX2_find 41 = .ok (.aload_n 1, 1) := dX2_find_28_g.2.2.2.2.2.2.2
theorem dX2_find_42_g : (decode cX2_find 42 = .ok (.iload_n 3, 1)) ∧ (decode cX2_find 43 = .ok (.invokevirtual 50, 3)) ∧ (decode cX2_find 46 = .ok (.aload_n 2, 1)) ∧ (decode cX2_find 47 = .ok (.getfield 56, 3)) ∧ (decode cX2_find 50 = .ok (.ifCond .eq 10, 3)) ∧ (decode cX2_find 53 = .ok (.aload_n 0, 1)) ∧ (decode cX2_find 54 = .ok (.aload_n 1, 1)) ∧ (decode cX2_find 55 = .ok (.aload_n 2, 1)) := by decide +kernel
theorem dX2_find_42 : decode cX2_find 42 = .ok (.iload_n 3, 1) := dX2_find_42_g.1
theorem dX2_find_43 : decode cX2_find 43 = .ok (.invokevirtual 50, 3) := dX2_find_42_g.2.1
theorem dX2_find_46 : decode cX2_find 46 = .ok (.aload_n 2, 1) := dX2_find_42_g.2.2.1
theorem dX2_find_47 : decode cX2_find 47 = .ok (.getfield 56, 3) := dX2_find_42_g.2.2.2.1
theorem dX2_find_50 : decode cX2_find 50 = .ok (.ifCond .eq 10, 3) := dX2_find_42_g.2.2.2.2.1
theorem dX2_find_53 : decode cX2_find 53 = .ok (.aload_n 0, 1) := dX2_find_42_g.2.2.2.2.2.1
theorem dX2_find_54 : decode cX2_find 54 = .ok (.aload_n 1, 1) := dX2_find_42_g.2.2.2.2.2.2.1
theorem dX2_find_55 : decode cX2_find 55 = .ok (.aload_n 2, 1) := dX2_find_42_g.2.2.2.2.2.2.2
theorem dX2_find_56_g : (decode cX2_find 56 = .ok (.iload_n 3, 1)) ∧ (decode cX2_find 57 = .ok (.invokevirtual 59, 3)) ∧ (decode cX2_find 60 = .ok (.iinc 3 1, 3)) ∧ (decode cX2_find 63 = .ok (.goto (-40), 3)) ∧ (decode cX2_find 66 = .ok (.iconst 0, 1)) ∧ (decode cX2_find 67 = .ok (.istore_n 3, 1)) ∧ (decode cX2_find 68 = .ok (.iload_n 3, 1)) ∧ (decode cX2_find 69 = .ok (.aload_n 1, 1)) := by decide +kernel
theorem dX2_find_56 : decode cX2_find 56 = .ok (.iload_n 3, 1) := dX2_find_56_g.1
theorem dX2_find_57 : decode cX2_find 57 = .ok (.invokevirtual 59, 3) := dX2_find_56_g.2.1
theorem dX2_find_60 : decode cX2_find 60 = .ok (.iinc 3 1, 3) := dX2_find_56_g.2.2.1
theorem dX2_find_63 : decode cX2_find 63 = .ok (.goto (-40), 3) := dX2_find_56_g.2.2.2.1
theorem dX2_find_66 : decode cX2_find 66 = .ok (.iconst 0, 1) := dX2_find_56_g.2.2.2.2.1
theorem dX2_find_67 : decode cX2_find 67 = .ok (.istore_n 3, 1) := dX2_find_56_g.2.2.2.2.2.1
theorem dX2_find_68 : decode cX2_find 68 = .ok (.iload_n 3, 1) := dX2_find_56_g.2.2.2.2.2.2.1
theorem dX2_find_69 : decode cX2_find 69 = .ok (.aload_n 1, 1) := dX2_find_56_g.2.2.2.2.2.2.2
theorem dX2_find_70_g : (decode cX2_find 70 = .ok (.getfield 40, 3)) ∧ (decode cX2_find 73 = .ok (.if_icmp .ge 26, 3)) ∧ (decode cX2_find 76 = .ok (.aload_n 0, 1)) ∧ (decode cX2_find 77 = .ok (.getfield 27, 3)) ∧ (decode cX2_find 80 = .ok (.iload_n 3, 1)) ∧ (decode cX2_find 81 = .ok (.iaload, 1)) ∧ (decode cX2_find 82 = .ok (.iconst (-1), 1)) ∧ (decode cX2_find 83 = .ok (.if_icmp .eq 10, 3)) := by decide +kernel
theorem dX2_find_70 : decode cX2_find 70 = .ok (.getfield 40, 3) := dX2_find_70_g.1
theorem dX2_find_73 : decode cX2_find 73 = .ok (.if_icmp .ge 26, 3) := dX2_find_70_g.2.1
theorem dX2_find_76 : decode cX2_find 76 = .ok (.aload_n 0, 1) := dX2_find_70_g.2.2.1
theorem dX2_find_77 : decode cX2_find 77 = .ok (.getfield 27, 3) := dX2_find_70_g.2.2.2.1
theorem dX2_find_80 : decode cX2_find 80 = .ok (.iload_n 3, 1) := dX2_find_70_g.2.2.2.2.1
theorem dX2_find_81 : decode cX2_find 81 = .ok (.iaload, 1) := dX2_find_70_g.2.2.2.2.2.1
theorem dX2_find_82 : decode cX2_find 82 = .ok (.iconst (-1), 1) := dX2_find_70_g.2.2.2.2.2.2.1
theorem dX2_find_83 : decode cX2_find 83 = .ok (.if_icmp .eq 10, 3) := dX2_find_70_g.2.2.2.2.2.2.2
theorem dX2_find_86_g : (decode cX2_find 86 = .ok (.aload_n 0, 1)) ∧ (decode cX2_find 87 = .ok (.aload_n 1, 1)) ∧ (decode cX2_find 88 = .ok (.aload_n 2, 1)) ∧ (decode cX2_find 89 = .ok (.iload_n 3, 1)) ∧ (decode cX2_find 90 = .ok (.invokevirtual 63, 3)) ∧ (decode cX2_find 93 = .ok (.iinc 3 1, 3)) ∧ (decode cX2_find 96 = .ok (.goto (-28), 3)) ∧ (decode cX2_find 99 = .ok (.return_, 1)) := by decide +kernel
theorem dX2_find_86 : decode cX2_find 86 = .ok (.aload_n 0, 1) := dX2_find_86_g.1
theorem dX2_find_87 : decode cX2_find 87 = .ok (.aload_n 1, 1) := dX2_find_86_g.2.1
theorem dX2_find_88 : decode cX2_find 88 = .ok (.aload_n 2, 1) := dX2_find_86_g.2.2.1
theorem dX2_find_89 : decode cX2_find 89 = .ok (.iload_n 3, 1) := dX2_find_86_g.2.2.2.1
theorem dX2_find_90 : decode cX2_find 90 = .ok (.invokevirtual 63, 3) := dX2_find_86_g.2.2.2.2.1
theorem dX2_find_93 : decode cX2_find 93 = .ok (.iinc 3 1, 3) := dX2_find_86_g.2.2.2.2.2.1
theorem dX2_find_96 : decode cX2_find 96 = .ok (.goto (-28), 3) := dX2_find_86_g.2.2.2.2.2.2.1
theorem dX2_find_99 : decode cX2_find 99 = .ok (.return_, 1) := dX2_find_86_g.2.2.2.2.2.2.2
theorem dX2_prepare_0_g : (decode cX2_prepare 0 = .ok (.aload_n 0, 1)) ∧ (decode cX2_prepare 1 = .ok (.getfield 9, 3)) ∧ (decode cX2_prepare 4 = .ok (.arraylength, 1)) ∧ (decode cX2_prepare 5 = .ok (.iload_n 1, 1)) ∧ (decode cX2_prepare 6 = .ok (.if_icmp .ge 59, 3)) ∧ (decode cX2_prepare 9 = .ok (.aload_n 0, 1)) ∧ (decode cX2_prepare 10 = .ok (.iload_n 1, 1)) ∧ (decode cX2_prepare 11 = .ok (.newarray .int, 2)) := by decide +kernel
theorem dX2_prepare_0 : decode cX2_prepare 0 = .ok (.aload_n 0, 1) := dX2_prepare_0_g.1
theorem dX2_prepare_1 : decode cX2_prepare 1 = .ok (.getfield 9, 3) := dX2_prepare_0_g.2.1
theorem dX2_prepare_4 : decode cX2_prepare 4 = .ok (.arraylength, 1) := dX2_prepare_0_g.2.2.1
theorem dX2_prepare_5 : decode cX2_prepare 5 = .ok (.iload_n 1, 1) := dX2_prepare_0_g.2.2.2.1
theorem dX2_prepare_6 : decode cX2_prepare 6 = .ok (.if_icmp .ge 59, 3) := dX2_prepare_0_g.2.2.2.2.1
theorem dX2_prepare_9 : decode cX2_prepare 9 = .ok (.aload_n 0, 1) := dX2_prepare_0_g.2.2.2.2.2.1
theorem dX2_prepare_10 : decode cX2_prepare 10 = .ok (.iload_n 1, 1) := dX2_prepare_0_g.2.2.2.2.2.2.1
theorem dX2_prepare_11 : decode cX2_prepare 11 = .ok (.newarray .int, 2) := dX2_prepare_0_g.2.2.2.2.2.2.2
theorem dX2_prepare_13_g : (decode cX2_prepare 13 = .ok (.putfield 9, 3)) ∧ (decode cX2_prepare 16 = .ok (.aload_n 0, 1)) ∧ (decode cX2_prepare 17 = .ok (.iload_n 1, 1)) ∧ (decode cX2_prepare 18 = .ok (.newarray .int, 2)) ∧ (decode cX2_prepare 20 = .ok (.putfield 15, 3)) ∧ (decode cX2_prepare 23 = .ok (.aload_n 0, 1)) ∧ (decode cX2_prepare 24 = .ok (.iload_n 1, 1)) ∧ (decode cX2_prepare 25 = .ok (.newarray .int, 2)) := by decide +kernel
theorem dX2_prepare_13 : decode cX2_prepare 13 = .ok (.putfield 9, 3) := dX2_prepare_13_g.1
theorem dX2_prepare_16 : decode cX2_prepare 16 = .ok (.aload_n 0, 1) := dX2_prepare_13_g.2.1
theorem dX2_prepare_17 : decode cX2_prepare 17 = .ok (.iload_n 1, 1) := dX2_prepare_13_g.2.2.1
theorem dX2_prepare_18 : decode cX2_prepare 18 = .ok (.newarray .int, 2) := dX2_prepare_13_g.2.2.2.1
theorem dX2_prepare_20 : decode cX2_prepare 20 = .ok (.putfield 15, 3) := dX2_prepare_13_g.2.2.2.2.1
theorem dX2_prepare_23 : decode cX2_prepare 23 = .ok (.aload_n 0, 1) := dX2_prepare_13_g.2.2.2.2.2.1
theorem dX2_prepare_24 : decode cX2_prepare 24 = .ok (.iload_n 1, 1) := dX2_prepare_13_g.2.2.2.2.2.2.1
theorem dX2_prepare_25 : decode cX2_prepare 25 = .ok (.newarray .int, 2) := dX2_prepare_13_g.2.2.2.2.2.2.2
theorem dX2_prepare_27_g : (decode cX2_prepare 27 = .ok (.putfield 18, 3)) ∧ (decode cX2_prepare 30 = .ok (.aload_n 0, 1)) ∧ (decode cX2_prepare 31 = .ok (.iload_n 1, 1)) ∧ (decode cX2_prepare 32 = .ok (.newarray .int, 2)) ∧ (decode cX2_prepare 34 = .ok (.putfield 21, 3)) ∧ (decode cX2_prepare 37 = .ok (.aload_n 0, 1)) ∧ (decode cX2_prepare 38 = .ok (.iload_n 1, 1)) ∧ (decode cX2_prepare 39 = .ok (.newarray .int, 2)) := by decide +kernel
theorem dX2_prepare_27 : decode cX2_prepare 27 = .ok (.putfield 18, 3) := dX2_prepare_27_g.1
theorem dX2_prepare_30 : decode cX2_prepare 30 = .ok (.aload_n 0, 1) := dX2_prepare_27_g.2.1
theorem dX2_prepare_31 : decode cX2_prepare 31 = .ok (.iload_n 1, 1) := dX2_prepare_27_g.2.2.1
theorem dX2_prepare_32 : decode cX2_prepare 32 = .ok (.newarray .int, 2) := dX2_prepare_27_g.2.2.2.1
theorem dX2_prepare_34 : decode cX2_prepare 34 = .ok (.putfield 21, 3) := dX2_prepare_27_g.2.2.2.2.1
theorem dX2_prepare_37 : decode cX2_prepare 37 = .ok (.aload_n 0, 1) := dX2_prepare_27_g.2.2.2.2.2.1
theorem dX2_prepare_38 : decode cX2_prepare 38 = .ok (.iload_n 1, 1) := dX2_prepare_27_g.2.2.2.2.2.2.1
theorem dX2_prepare_39 : decode cX2_prepare 39 = .ok (.newarray .int, 2) := dX2_prepare_27_g.2.2.2.2.2.2.2
theorem dX2_prepare_41_g : (decode cX2_prepare 41 = .ok (.putfield 24, 3)) ∧ (decode cX2_prepare 44 = .ok (.aload_n 0, 1)) ∧ (decode cX2_prepare 45 = .ok (.iload_n 1, 1)) ∧ (decode cX2_prepare 46 = .ok (.newarray .int, 2)) ∧ (decode cX2_prepare 48 = .ok (.putfield 27, 3)) ∧ (decode cX2_prepare 51 = .ok (.aload_n 0, 1)) ∧ (decode cX2_prepare 52 = .ok (.iload_n 1, 1)) ∧ (decode cX2_prepare 53 = .ok (.newarray .int, 2)) := by decide +kernel
theorem dX2_prepare_41 : decode cX2_prepare 41 = .ok (.putfield 24, 3) := dX2_prepare_41_g.1
theorem dX2_prepare_44 : decode cX2_prepare 44 = .ok (.aload_n 0, 1) := dX2_prepare_41_g.2.1
theorem dX2_prepare_45 : decode cX2_prepare 45 = .ok (.iload_n 1, 1) := dX2_prepare_41_g.2.2.1
theorem dX2_prepare_46 : decode cX2_prepare 46 = .ok (.newarray .int, 2) := dX2_prepare_41_g.2.2.2.1
theorem dX2_prepare_48 : decode cX2_prepare 48 = .ok (.putfield 27, 3) := dX2_prepare_41_g.2.2.2.2.1
theorem dX2_prepare_51 : decode cX2_prepare 51 = .ok (.aload_n 0, 1) := dX2_prepare_41_g.2.2.2.2.2.1
theorem dX2_prepare_52 : decode cX2_prepare 52 = .ok (.iload_n 1, 1) := dX2_prepare_41_g.2.2.2.2.2.2.1
theorem dX2_prepare_53 : decode cX2_prepare 53 = .ok (.newarray .int, 2) := dX2_prepare_41_g.2.2.2.2.2.2.2
theorem dX2_prepare_55_g : (decode cX2_prepare 55 = .ok (.putfield 30, 3)) ∧ (decode cX2_prepare 58 = .ok (.aload_n 0, 1)) ∧ (decode cX2_prepare 59 = .ok (.iload_n 1, 1)) ∧ (decode cX2_prepare 60 = .ok (.newarray .int, 2)) ∧ (decode cX2_prepare 62 = .ok (.putfield 33, 3)) ∧ (decode cX2_prepare 65 = .ok (.aload_n 0, 1)) ∧ (decode cX2_prepare 66 = .ok (.getfield 9, 3)) ∧ (decode cX2_prepare 69 = .ok (.iconst 0, 1)) := by decide +kernel
theorem dX2_prepare_55 : decode cX2_prepare 55 = .ok (.putfield 30, 3) := dX2_prepare_55_g.1
theorem dX2_prepare_58 : decode cX2_prepare 58 = .ok (.aload_n 0, 1) := dX2_prepare_55_g.2.1
theorem dX2_prepare_59 : decode cX2_prepare 59 = .ok (.iload_n 1, 1) := dX2_prepare_55_g.2.2.1
theorem dX2_prepare_60 : decode cX2_prepare 60 = .ok (.newarray .int, 2) := dX2_prepare_55_g.2.2.2.1
theorem dX2_prepare_62 : decode cX2_prepare 62 = .ok (.putfield 33, 3) := dX2_prepare_55_g.2.2.2.2.1
theorem dX2_prepare_65 : decode cX2_prepare 65 = .ok (.aload_n 0, 1) := dX2_prepare_55_g.2.2.2.2.2.1
theorem dX2_prepare_66 : decode cX2_prepare 66 = .ok (.getfield 9, 3) := dX2_prepare_55_g.2.2.2.2.2.2.1
theorem dX2_prepare_69 : decode cX2_prepare 69 = .ok (.iconst 0, 1) := dX2_prepare_55_g.2.2.2.2.2.2.2
theorem dX2_prepare_70_g : (decode cX2_prepare 70 = .ok (.invokestatic 66, 3)) ∧ (decode cX2_prepare 73 = .ok (.aload_n 0, 1)) ∧ (decode cX2_prepare 74 = .ok (.getfield 27, 3)) ∧ (decode cX2_prepare 77 = .ok (.iconst (-1), 1)) ∧ (decode cX2_prepare 78 = .ok (.invokestatic 66, 3)) ∧ (decode cX2_prepare 81 = .ok (.aload_n 0, 1)) ∧ (decode cX2_prepare 82 = .ok (.getfield 30, 3)) ∧ (decode cX2_prepare 85 = .ok (.iconst 0, 1)) := by decide +kernel
theorem dX2_prepare_70 : decode cX2_prepare 70 = .ok (.invokestatic 66, 3) := dX2_prepare_70_g.1
theorem dX2_prepare_73 : decode cX2_prepare 73 = .ok (.aload_n 0, 1) := dX2_prepare_70_g.2.1
theorem dX2_prepare_74 : decode cX2_prepare 74 = .ok (.getfield 27, 3) := dX2_prepare_70_g.2.2.1
theorem dX2_prepare_77 : decode cX2_prepare 77 = .ok (.iconst (-1), 1) := dX2_prepare_70_g.2.2.2.1
theorem dX2_prepare_78 : decode cX2_prepare 78 = .ok (.invokestatic 66, 3) := dX2_prepare_70_g.2.2.2.2.1
theorem dX2_prepare_81 : decode cX2_prepare 81 = .ok (.aload_n 0, 1) := dX2_prepare_70_g.2.2.2.2.2.1
theorem dX2_prepare_82 : decode cX2_prepare 82 = .ok (.getfield 30, 3) := dX2_prepare_70_g.2.2.2.2.2.2.1
theorem dX2_prepare_85 : decode cX2_prepare 85 = .ok (.iconst 0, 1) := dX2_prepare_70_g.2.2.2.2.2.2.2
theorem dX2_prepare_86_g : (decode cX2_prepare 86 = .ok (.invokestatic 66, 3)) ∧ (decode cX2_prepare 89 = .ok (.aload_n 0, 1)) ∧ (decode cX2_prepare 90 = .ok (.getfield 33, 3)) ∧ (decode cX2_prepare 93 = .ok (.iconst 0, 1)) ∧ (decode cX2_prepare 94 = .ok (.invokestatic 66, 3)) ∧ (decode cX2_prepare 97 = .ok (.aload_n 0, 1)) ∧ (decode cX2_prepare 98 = .ok (.iconst 0, 1)) ∧ (decode cX2_prepare 99 = .ok (.putfield 72, 3)) := by decide +kernel
theorem dX2_prepare_86 : decode cX2_prepare 86 = .ok (.invokestatic 66, 3) := dX2_prepare_86_g.1
theorem dX2_prepare_89 : decode cX2_prepare 89 = .ok (.aload_n 0, 1) := dX2_prepare_86_g.2.1
theorem dX2_prepare_90 : decode cX2_prepare 90 = .ok (.getfield 33, 3) := dX2_prepare_86_g.2.2.1
theorem dX2_prepare_93 : decode cX2_prepare 93 = .ok (.iconst 0, 1) := dX2_prepare_86_g.2.2.2.1
theorem dX2_prepare_94 : decode cX2_prepare 94 = .ok (.invokestatic 66, 3) := dX2_prepare_86_g.2.2.2.2.1
theorem dX2_prepare_97 : decode cX2_prepare 97 = .ok (.aload_n 0, 1) := dX2_prepare_86_g.2.2.2.2.2.1
theorem dX2_prepare_98 : decode cX2_prepare 98 = .ok (.iconst 0, 1) := dX2_prepare_86_g.2.2.2.2.2.2.1
theorem dX2_prepare_99 : decode cX2_prepare 99 = .ok (.putfield 72, 3) := dX2_prepare_86_g.2.2.2.2.2.2.2
theorem dX2_prepare_102_g : (decode cX2_prepare 102 = .ok (.aload_n 0, 1)) ∧ (decode cX2_prepare 103 = .ok (.iconst 0, 1)) ∧ (decode cX2_prepare 104 = .ok (.putfield 75, 3)) ∧ (decode cX2_prepare 107 = .ok (.aload_n 0, 1)) ∧ (decode cX2_prepare 108 = .ok (.iconst 0, 1)) ∧ (decode cX2_prepare 109 = .ok (.putfield 78, 3)) ∧ (decode cX2_prepare 112 = .ok (.aload_n 0, 1)) ∧ (decode cX2_prepare 113 = .ok (.iconst 0, 1)) := by decide +kernel
theorem dX2_prepare_102 : decode cX2_prepare 102 = .ok (.aload_n 0, 1) := dX2_prepare_102_g.1
theorem dX2_prepare_103 : decode cX2_prepare 103 = .ok (.iconst 0, 1) := dX2_prepare_102_g.2.1
theorem dX2_prepare_104 : decode cX2_prepare 104 = .ok (.putfield 75, 3) := dX2_prepare_102_g.2.2.1
theorem dX2_prepare_107 : decode cX2_prepare 107 = .ok (.aload_n 0, 1) := dX2_prepare_102_g.2.2.2.1
theorem dX2_prepare_108 : decode cX2_prepare 108 = .ok (.iconst 0, 1) := dX2_prepare_102_g.2.2.2.2.1
theorem dX2_prepare_109 : decode cX2_prepare 109 = .ok (.putfield 78, 3) := dX2_prepare_102_g.2.2.2.2.2.1
theorem dX2_prepare_112 : decode cX2_prepare 112 = .ok (.aload_n 0, 1) := dX2_prepare_102_g.2.2.2.2.2.2.1
theorem dX2_prepare_113 : decode cX2_prepare 113 = .ok (.iconst 0, 1) := dX2_prepare_102_g.2.2.2.2.2.2.2
theorem dX2_prepare_114_g : (decode cX2_prepare 114 = .ok (.putfield 81, 3)) ∧ (decode cX2_prepare 117 = .ok (.return_, 1)) := by decide +kernel
theorem dX2_prepare_114 : decode cX2_prepare 114 = .ok (.putfield 81, 3) := dX2_prepare_114_g.1
theorem dX2_prepare_117 : decode cX2_prepare 117 = .ok (.return_, 1) := dX2_prepare_114_g.2
theorem dX2_walk_0_g : (decode cX2_walk 0 = .ok (.aload_n 0, 1)) ∧ (decode cX2_walk 1 = .ok (.iload_n 3, 1)) ∧ (decode cX2_walk 2 = .ok (.invokevirtual 84, 3)) ∧ (decode cX2_walk 5 = .ok (.iconst 0, 1)) ∧ (decode cX2_walk 6 = .ok (.istore 4, 2)) ∧ (decode cX2_walk 8 = .ok (.iload 4, 2)) ∧ (decode cX2_walk 10 = .ok (.iconst 2, 1)) ∧ (decode cX2_walk 11 = .ok (.aload_n 1, 1)) := by decide +kernel
theorem dX2_walk_0 : decode cX2_walk 0 = .ok (.aload_n 0, 1) := dX2_walk_0_g.1
theorem dX2_walk_1 : decode cX2_walk 1 = .ok (.iload_n 3, 1) := dX2_walk_0_g.2.1
theorem dX2_walk_2 : decode cX2_walk 2 = .ok (.invokevirtual 84, 3) := dX2_walk_0_g.2.2.1
theorem dX2_walk_5 : decode cX2_walk 5 = .ok (.iconst 0, 1) := dX2_walk_0_g.2.2.2.1
theorem dX2_walk_6 : decode cX2_walk 6 = .ok (.istore 4, 2) := dX2_walk_0_g.2.2.2.2.1
theorem dX2_walk_8 : decode cX2_walk 8 = .ok (.iload 4, 2) := dX2_walk_0_g.2.2.2.2.2.1
theorem dX2_walk_10 : decode cX2_walk 10 = .ok (.iconst 2, 1) := dX2_walk_0_g.2.2.2.2.2.2.1
theorem dX2_walk_11 : decode cX2_walk 11 = .ok (.aload_n 1, 1) := dX2_walk_0_g.2.2.2.2.2.2.2
theorem dX2_walk_12_g : (decode cX2_walk 12 = .ok (.getfield 40, 3)) ∧ (decode cX2_walk 15 = .ok (.imul, 1)) ∧ (decode cX2_walk 16 = .ok (.if_icmp .ge 60, 3)) ∧ (decode cX2_walk 19 = .ok (.aload_n 0, 1)) ∧ (decode cX2_walk 20 = .ok (.getfield 75, 3)) ∧ (decode cX2_walk 23 = .ok (.ifCond .le 53, 3)) ∧ (decode cX2_walk 26 = .ok (.aload_n 0, 1)) ∧ (decode cX2_walk 27 = .ok (.getfield 21, 3)) := by decide +kernel
theorem dX2_walk_12 : decode cX2_walk 12 = .ok (.getfield 40, 3) := dX2_walk_12_g.1
theorem dX2_walk_15 : decode cX2_walk 15 = .ok (.imul, 1) := dX2_walk_12_g.2.1
theorem dX2_walk_16 : decode cX2_walk 16 = .ok (.if_icmp .ge 60, 3) := dX2_walk_12_g.2.2.1
theorem dX2_walk_19 : decode cX2_walk 19 = .ok (.aload_n 0, 1) := dX2_walk_12_g.2.2.2.1
theorem dX2_walk_20 : decode cX2_walk 20 = .ok (.getfield 75, 3) := dX2_walk_12_g.2.2.2.2.1
theorem dX2_walk_23 : decode cX2_walk 23 = .ok (.ifCond .le 53, 3) := dX2_walk_12_g.2.2.2.2.2.1
theorem dX2_walk_26 : decode cX2_walk 26 = .ok (.aload_n 0, 1) := dX2_walk_12_g.2.2.2.2.2.2.1
theorem dX2_walk_27 : decode cX2_walk 27 = .ok (.getfield 21, 3) := dX2_walk_12_g.2.2.2.2.2.2.2
theorem dX2_walk_30_g : (decode cX2_walk 30 = .ok (.aload_n 0, 1)) ∧ (decode cX2_walk 31 = .ok (.getfield 75, 3)) ∧ (decode cX2_walk 34 = .ok (.iconst 1, 1)) ∧ (decode cX2_walk 35 = .ok (.isub, 1)) ∧ (decode cX2_walk 36 = .ok (.iaload, 1)) ∧ (decode cX2_walk 37 = .ok (.istore 5, 2)) ∧ (decode cX2_walk 39 = .ok (.aload_n 0, 1)) ∧ (decode cX2_walk 40 = .ok (.aload_n 1, 1)) := by decide +kernel
theorem dX2_walk_30 : decode cX2_walk 30 = .ok (.aload_n 0, 1) := dX2_walk_30_g.1
theorem dX2_walk_31 : decode cX2_walk 31 = .ok (.getfield 75, 3) := dX2_walk_30_g.2.1
theorem dX2_walk_34 : decode cX2_walk 34 = .ok (.iconst 1, 1) := dX2_walk_30_g.2.2.1
theorem dX2_walk_35 : decode cX2_walk 35 = .ok (.isub, 1) := dX2_walk_30_g.2.2.2.1
theorem dX2_walk_36 : decode cX2_walk 36 = .ok (.iaload, 1) := dX2_walk_30_g.2.2.2.2.1
theorem dX2_walk_37 : decode cX2_walk 37 = .ok (.istore 5, 2) := dX2_walk_30_g.2.2.2.2.2.1
theorem dX2_walk_39 : decode cX2_walk 39 = .ok (.aload_n 0, 1) := dX2_walk_30_g.2.2.2.2.2.2.1
theorem dX2_walk_40 : decode cX2_walk 40 = .ok (.aload_n 1, 1) := dX2_walk_30_g.2.2.2.2.2.2.2
theorem dX2_walk_41_g : (decode cX2_walk 41 = .ok (.aload_n 2, 1)) ∧ (decode cX2_walk 42 = .ok (.iload 5, 2)) ∧ (decode cX2_walk 44 = .ok (.invokevirtual 87, 3)) ∧ (decode cX2_walk 47 = .ok (.istore 6, 2)) ∧ (decode cX2_walk 49 = .ok (.iload 6, 2)) ∧ (decode cX2_walk 51 = .ok (.iconst (-1), 1)) ∧ (decode cX2_walk 52 = .ok (.if_icmp .ne 12, 3)) ∧ (decode cX2_walk 55 = .ok (.aload_n 0, 1)) := by decide +kernel
theorem dX2_walk_41 : decode cX2_walk 41 = .ok (.aload_n 2, 1) := dX2_walk_41_g.1
theorem dX2_walk_42 : decode cX2_walk 42 = .ok (.iload 5, 2) := dX2_walk_41_g.2.1
theorem dX2_walk_44 : decode cX2_walk 44 = .ok (.invokevirtual 87, 3) := dX2_walk_41_g.2.2.1
theorem dX2_walk_47 : decode cX2_walk 47 = .ok (.istore 6, 2) := dX2_walk_41_g.2.2.2.1
theorem dX2_walk_49 : decode cX2_walk 49 = .ok (.iload 6, 2) := dX2_walk_41_g.2.2.2.2.1
theorem dX2_walk_51 : decode cX2_walk 51 = .ok (.iconst (-1), 1) := dX2_walk_41_g.2.2.2.2.2.1
theorem dX2_walk_52 : decode cX2_walk 52 = .ok (.if_icmp .ne 12, 3) := dX2_walk_41_g.2.2.2.2.2.2.1
theorem dX2_walk_55 : decode cX2_walk 55 = .ok (.aload_n 0, 1) := dX2_walk_41_g.2.2.2.2.2.2.2
theorem dX2_walk_56_g : (decode cX2_walk 56 = .ok (.iload 5, 2)) ∧ (decode cX2_walk 58 = .ok (.invokevirtual 91, 3)) ∧ (decode cX2_walk 61 = .ok (.goto 9, 3)) ∧ (decode cX2_walk 64 = .ok (.aload_n 0, 1)) ∧ (decode cX2_walk 65 = .ok (.iload 6, 2)) ∧ (decode cX2_walk 67 = .ok (.invokevirtual 84, 3)) ∧ (decode cX2_walk 70 = .ok (.iinc 4 1, 3)) ∧ (decode cX2_walk 73 = .ok (.goto (-65), 3)) := by decide +kernel
theorem dX2_walk_56 : decode cX2_walk 56 = .ok (.iload 5, 2) := dX2_walk_56_g.1
theorem dX2_walk_58 : decode cX2_walk 58 = .ok (.invokevirtual 91, 3) := dX2_walk_56_g.2.1
theorem dX2_walk_61 : decode cX2_walk 61 = .ok (.goto 9, 3) := dX2_walk_56_g.2.2.1
theorem dX2_walk_64 : decode cX2_walk 64 = .ok (.aload_n 0, 1) := dX2_walk_56_g.2.2.2.1
theorem dX2_walk_65 : decode cX2_walk 65 = .ok (.iload 6, 2) := dX2_walk_56_g.2.2.2.2.1
theorem dX2_walk_67 : decode cX2_walk 67 = .ok (.invokevirtual 84, 3) := dX2_walk_56_g.2.2.2.2.2.1
theorem dX2_walk_70 : decode cX2_walk 70 = .ok (.iinc 4 1, 3) := dX2_walk_56_g.2.2.2.2.2.2.1
theorem dX2_walk_73 : decode cX2_walk 73 = .ok (.goto (-65), 3) := dX2_walk_56_g.2.2.2.2.2.2.2
theorem dX2_walk_76 : decode cX2_walk 76 = .ok (.return_, 1) := by decide +kernel
theorem dX2_enter_0_g : (decode cX2_enter 0 = .ok (.aload_n 0, 1)) ∧ (decode cX2_enter 1 = .ok (.dup, 1)) ∧ (decode cX2_enter 2 = .ok (.getfield 72, 3)) ∧ (decode cX2_enter 5 = .ok (.iconst 1, 1)) ∧ (decode cX2_enter 6 = .ok (.iadd, 1)) ∧ (decode cX2_enter 7 = .ok (.putfield 72, 3)) ∧ (decode cX2_enter 10 = .ok (.aload_n 0, 1)) ∧ (decode cX2_enter 11 = .ok (.getfield 9, 3)) := by decide +kernel
theorem dX2_enter_0 : decode cX2_enter 0 = .ok (.aload_n 0, 1) := dX2_enter_0_g.1
theorem dX2_enter_1 : decode cX2_enter 1 = .ok (.dup, 1) := dX2_enter_0_g.2.1
theorem dX2_enter_2 : decode cX2_enter 2 = .ok (.getfield 72, 3) := dX2_enter_0_g.2.2.1
theorem dX2_enter_5 : decode cX2_enter 5 = .ok (.iconst 1, 1) := dX2_enter_0_g.2.2.2.1
theorem dX2_enter_6 : decode cX2_enter 6 = .ok (.iadd, 1) := dX2_enter_0_g.2.2.2.2.1
theorem dX2_enter_7 : decode cX2_enter 7 = .ok (.putfield 72, 3) := dX2_enter_0_g.2.2.2.2.2.1
theorem dX2_enter_10 : decode cX2_enter 10 = .ok (.aload_n 0, 1) := dX2_enter_0_g.2.2.2.2.2.2.1
theorem dX2_enter_11 : decode cX2_enter 11 = .ok (.getfield 9, 3) := dX2_enter_0_g.2.2.2.2.2.2.2
theorem dX2_enter_14_g : (decode cX2_enter 14 = .ok (.iload_n 1, 1)) ∧ (decode cX2_enter 15 = .ok (.aload_n 0, 1)) ∧ (decode cX2_enter 16 = .ok (.getfield 72, 3)) ∧ (decode cX2_enter 19 = .ok (.iastore, 1)) ∧ (decode cX2_enter 20 = .ok (.aload_n 0, 1)) ∧ (decode cX2_enter 21 = .ok (.getfield 15, 3)) ∧ (decode cX2_enter 24 = .ok (.iload_n 1, 1)) ∧ (decode cX2_enter 25 = .ok (.aload_n 0, 1)) := by decide +kernel
theorem dX2_enter_14 : decode cX2_enter 14 = .ok (.iload_n 1, 1) := dX2_enter_14_g.1
theorem dX2_enter_15 : decode cX2_enter 15 = .ok (.aload_n 0, 1) := dX2_enter_14_g.2.1
theorem dX2_enter_16 : decode cX2_enter 16 = .ok (.getfield 72, 3) := dX2_enter_14_g.2.2.1
theorem dX2_enter_19 : decode cX2_enter 19 = .ok (.iastore, 1) := dX2_enter_14_g.2.2.2.1
theorem dX2_enter_20 : decode cX2_enter 20 = .ok (.aload_n 0, 1) := dX2_enter_14_g.2.2.2.2.1
theorem dX2_enter_21 : decode cX2_enter 21 = .ok (.getfield 15, 3) := dX2_enter_14_g.2.2.2.2.2.1
theorem dX2_enter_24 : decode cX2_enter 24 = .ok (.iload_n 1, 1) := dX2_enter_14_g.2.2.2.2.2.2.1
theorem dX2_enter_25 : decode cX2_enter 25 = .ok (.aload_n 0, 1) := dX2_enter_14_g.2.2.2.2.2.2.2
theorem dX2_enter_26_g : (decode cX2_enter 26 = .ok (.getfield 72, 3)) ∧ (decode cX2_enter 29 = .ok (.iastore, 1)) ∧ (decode cX2_enter 30 = .ok (.aload_n 0, 1)) ∧ (decode cX2_enter 31 = .ok (.getfield 18, 3)) ∧ (decode cX2_enter 34 = .ok (.iload_n 1, 1)) ∧ (decode cX2_enter 35 = .ok (.iconst 0, 1)) ∧ (decode cX2_enter 36 = .ok (.iastore, 1)) ∧ (decode cX2_enter 37 = .ok (.aload_n 0, 1)) := by decide +kernel
theorem dX2_enter_26 : decode cX2_enter 26 = .ok (.getfield 72, 3) := dX2_enter_26_g.1
theorem dX2_enter_29 : decode cX2_enter 29 = .ok (.iastore, 1) := dX2_enter_26_g.2.1
theorem dX2_enter_30 : decode cX2_enter 30 = .ok (.aload_n 0, 1) := dX2_enter_26_g.2.2.1
theorem dX2_enter_31 : decode cX2_enter 31 = .ok (.getfield 18, 3) := dX2_enter_26_g.2.2.2.1
theorem dX2_enter_34 : decode cX2_enter 34 = .ok (.iload_n 1, 1) := dX2_enter_26_g.2.2.2.2.1
theorem dX2_enter_35 : decode cX2_enter 35 = .ok (.iconst 0, 1) := dX2_enter_26_g.2.2.2.2.2.1
theorem dX2_enter_36 : decode cX2_enter 36 = .ok (.iastore, 1) := dX2_enter_26_g.2.2.2.2.2.2.1
theorem dX2_enter_37 : decode cX2_enter 37 = .ok (.aload_n 0, 1) := dX2_enter_26_g.2.2.2.2.2.2.2
theorem dX2_enter_38_g : (decode cX2_enter 38 = .ok (.getfield 21, 3)) ∧ (decode cX2_enter 41 = .ok (.aload_n 0, 1)) ∧ (decode cX2_enter 42 = .ok (.getfield 75, 3)) ∧ (decode cX2_enter 45 = .ok (.iload_n 1, 1)) ∧ (decode cX2_enter 46 = .ok (.iastore, 1)) ∧ (decode cX2_enter 47 = .ok (.aload_n 0, 1)) ∧ (decode cX2_enter 48 = .ok (.dup, 1)) ∧ (decode cX2_enter 49 = .ok (.getfield 75, 3)) := by decide +kernel
theorem dX2_enter_38 : decode cX2_enter 38 = .ok (.getfield 21, 3) := dX2_enter_38_g.1
theorem dX2_enter_41 : decode cX2_enter 41 = .ok (.aload_n 0, 1) := dX2_enter_38_g.2.1
theorem dX2_enter_42 : decode cX2_enter 42 = .ok (.getfield 75, 3) := dX2_enter_38_g.2.2.1
theorem dX2_enter_45 : decode cX2_enter 45 = .ok (.iload_n 1, 1) := dX2_enter_38_g.2.2.2.1
theorem dX2_enter_46 : decode cX2_enter 46 = .ok (.iastore, 1) := dX2_enter_38_g.2.2.2.2.1
theorem dX2_enter_47 : decode cX2_enter 47 = .ok (.aload_n 0, 1) := dX2_enter_38_g.2.2.2.2.2.1
theorem dX2_enter_48 : decode cX2_enter 48 = .ok (.dup, 1) := dX2_enter_38_g.2.2.2.2.2.2.1
theorem dX2_enter_49 : decode cX2_enter 49 = .ok (.getfield 75, 3) := dX2_enter_38_g.2.2.2.2.2.2.2
theorem dX2_enter_52_g : (decode cX2_enter 52 = .ok (.iconst 1, 1)) ∧ (decode cX2_enter 53 = .ok (.iadd, 1)) ∧ (decode cX2_enter 54 = .ok (.putfield 75, 3)) ∧ (decode cX2_enter 57 = .ok (.aload_n 0, 1)) ∧ (decode cX2_enter 58 = .ok (.getfield 24, 3)) ∧ (decode cX2_enter 61 = .ok (.aload_n 0, 1)) ∧ (decode cX2_enter 62 = .ok (.getfield 78, 3)) ∧ (decode cX2_enter 65 = .ok (.iload_n 1, 1)) := by decide +kernel
theorem dX2_enter_52 : decode cX2_enter 52 = .ok (.iconst 1, 1) := dX2_enter_52_g.1
theorem dX2_enter_53 : decode cX2_enter 53 = .ok (.iadd, 1) := dX2_enter_52_g.2.1
theorem dX2_enter_54 : decode cX2_enter 54 = .ok (.putfield 75, 3) := dX2_enter_52_g.2.2.1
theorem dX2_enter_57 : decode cX2_enter 57 = .ok (.aload_n 0, 1) := dX2_enter_52_g.2.2.2.1
theorem dX2_enter_58 : decode cX2_enter 58 = .ok (.getfield 24, 3) := dX2_enter_52_g.2.2.2.2.1
theorem dX2_enter_61 : decode cX2_enter 61 = .ok (.aload_n 0, 1) := dX2_enter_52_g.2.2.2.2.2.1
theorem dX2_enter_62 : decode cX2_enter 62 = .ok (.getfield 78, 3) := dX2_enter_52_g.2.2.2.2.2.2.1
theorem dX2_enter_65 : decode cX2_enter 65 = .ok (.iload_n 1, 1) := dX2_enter_52_g.2.2.2.2.2.2.2
theorem dX2_enter_66_g : (decode cX2_enter 66 = .ok (.iastore, 1)) ∧ (decode cX2_enter 67 = .ok (.aload_n 0, 1)) ∧ (decode cX2_enter 68 = .ok (.dup, 1)) ∧ (decode cX2_enter 69 = .ok (.getfield 78, 3)) ∧ (decode cX2_enter 72 = .ok (.iconst 1, 1)) ∧ (decode cX2_enter 73 = .ok (.iadd, 1)) ∧ (decode cX2_enter 74 = .ok (.putfield 78, 3)) ∧ (decode cX2_enter 77 = .ok (.return_, 1)) := by decide +kernel
theorem dX2_enter_66 : decode cX2_enter 66 = .ok (.iastore, 1) := dX2_enter_66_g.1
theorem dX2_enter_67 : decode cX2_enter 67 = .ok (.aload_n 0, 1) := dX2_enter_66_g.2.1
theorem dX2_enter_68 : decode cX2_enter 68 = .ok (.dup, 1) := dX2_enter_66_g.2.2.1
theorem dX2_enter_69 : decode cX2_enter 69 = .ok (.getfield 78, 3) := dX2_enter_66_g.2.2.2.1
theorem dX2_enter_72 : decode cX2_enter 72 = .ok (.iconst 1, 1) := dX2_enter_66_g.2.2.2.2.1
theorem dX2_enter_73 : decode cX2_enter 73 = .ok (.iadd, 1) := dX2_enter_66_g.2.2.2.2.2.1
theorem dX2_enter_74 : decode cX2_enter 74 = .ok (.putfield 78, 3) := dX2_enter_66_g.2.2.2.2.2.2.1
theorem dX2_enter_77 : decode cX2_enter 77 = .ok (.return_, 1) := dX2_enter_66_g.2.2.2.2.2.2.2
theorem dX2_nextUnseen_0_g : (decode cX2_nextUnseen 0 = .ok (.aload_n 2, 1)) ∧ (decode cX2_nextUnseen 1 = .ok (.aload_n 1, 1)) ∧ (decode cX2_nextUnseen 2 = .ok (.iload_n 3, 1)) ∧ (decode cX2_nextUnseen 3 = .ok (.invokevirtual 50, 3)) ∧ (decode cX2_nextUnseen 6 = .ok (.aload_n 2, 1)) ∧ (decode cX2_nextUnseen 7 = .ok (.aload_n 1, 1)) ∧ (decode cX2_nextUnseen 8 = .ok (.invokevirtual 94, 3)) ∧ (decode cX2_nextUnseen 11 = .ok (.aload_n 0, 1)) := by decide +kernel
theorem dX2_nextUnseen_0 : decode cX2_nextUnseen 0 = .ok (.aload_n 2, 1) := dX2_nextUnseen_0_g.1
theorem dX2_nextUnseen_1 : decode cX2_nextUnseen 1 = .ok (.aload_n 1, 1) := dX2_nextUnseen_0_g.2.1
theorem dX2_nextUnseen_2 : decode cX2_nextUnseen 2 = .ok (.iload_n 3, 1) := dX2_nextUnseen_0_g.2.2.1
theorem dX2_nextUnseen_3 : decode cX2_nextUnseen 3 = .ok (.invokevirtual 50, 3) := dX2_nextUnseen_0_g.2.2.2.1
theorem dX2_nextUnseen_6 : decode cX2_nextUnseen 6 = .ok (.aload_n 2, 1) := dX2_nextUnseen_0_g.2.2.2.2.1
theorem dX2_nextUnseen_7 : decode cX2_nextUnseen 7 = .ok (.aload_n 1, 1) := dX2_nextUnseen_0_g.2.2.2.2.2.1
theorem dX2_nextUnseen_8 : decode cX2_nextUnseen 8 = .ok (.invokevirtual 94, 3) := dX2_nextUnseen_0_g.2.2.2.2.2.2.1
theorem dX2_nextUnseen_11 : decode cX2_nextUnseen 11 = .ok (.aload_n 0, 1) := dX2_nextUnseen_0_g.2.2.2.2.2.2.2
theorem dX2_nextUnseen_12_g : (decode cX2_nextUnseen 12 = .ok (.getfield 18, 3)) ∧ (decode cX2_nextUnseen 15 = .ok (.iload_n 3, 1)) ∧ (decode cX2_nextUnseen 16 = .ok (.iaload, 1)) ∧ (decode cX2_nextUnseen 17 = .ok (.istore 4, 2)) ∧ (decode cX2_nextUnseen 19 = .ok (.iload 4, 2)) ∧ (decode cX2_nextUnseen 21 = .ok (.aload_n 2, 1)) ∧ (decode cX2_nextUnseen 22 = .ok (.getfield 98, 3)) ∧ (decode cX2_nextUnseen 25 = .ok (.if_icmp .ge 72, 3)) := by decide +kernel
theorem dX2_nextUnseen_12 : decode cX2_nextUnseen 12 = .ok (.getfield 18, 3) := dX2_nextUnseen_12_g.1
theorem dX2_nextUnseen_15 : decode cX2_nextUnseen 15 = .ok (.iload_n 3, 1) := dX2_nextUnseen_12_g.2.1
theorem dX2_nextUnseen_16 : decode cX2_nextUnseen 16 = .ok (.iaload, 1) := dX2_nextUnseen_12_g.2.2.1
theorem dX2_nextUnseen_17 : decode cX2_nextUnseen 17 = .ok (.istore 4, 2) := dX2_nextUnseen_12_g.2.2.2.1
theorem dX2_nextUnseen_19 : decode cX2_nextUnseen 19 = .ok (.iload 4, 2) := dX2_nextUnseen_12_g.2.2.2.2.1
theorem dX2_nextUnseen_21 : decode cX2_nextUnseen 21 = .ok (.aload_n 2, 1) := dX2_nextUnseen_12_g.2.2.2.2.2.1
theorem dX2_nextUnseen_22 : decode cX2_nextUnseen 22 = .ok (.getfield 98, 3) := dX2_nextUnseen_12_g.2.2.2.2.2.2.1
theorem dX2_nextUnseen_25 : decode cX2_nextUnseen 25 = .ok (.if_icmp .ge 72, 3) := dX2_nextUnseen_12_g.2.2.2.2.2.2.2
theorem dX2_nextUnseen_28_g : (decode cX2_nextUnseen 28 = .ok (.aload_n 2, 1)) ∧ (decode cX2_nextUnseen 29 = .ok (.getfield 100, 3)) ∧ (decode cX2_nextUnseen 32 = .ok (.iload 4, 2)) ∧ (decode cX2_nextUnseen 34 = .ok (.iaload, 1)) ∧ (decode cX2_nextUnseen 35 = .ok (.istore 5, 2)) ∧ (decode cX2_nextUnseen 37 = .ok (.aload_n 0, 1)) ∧ (decode cX2_nextUnseen 38 = .ok (.getfield 9, 3)) ∧ (decode cX2_nextUnseen 41 = .ok (.iload 5, 2)) := by decide +kernel
theorem dX2_nextUnseen_28 : decode cX2_nextUnseen 28 = .ok (.aload_n 2, 1) := dX2_nextUnseen_28_g.1
theorem dX2_nextUnseen_29 : decode cX2_nextUnseen 29 = .ok (.getfield 100, 3) := dX2_nextUnseen_28_g.2.1
theorem dX2_nextUnseen_32 : decode cX2_nextUnseen 32 = .ok (.iload 4, 2) := dX2_nextUnseen_28_g.2.2.1
theorem dX2_nextUnseen_34 : decode cX2_nextUnseen 34 = .ok (.iaload, 1) := dX2_nextUnseen_28_g.2.2.2.1
theorem dX2_nextUnseen_35 : decode cX2_nextUnseen 35 = .ok (.istore 5, 2) := dX2_nextUnseen_28_g.2.2.2.2.1
theorem dX2_nextUnseen_37 : decode cX2_nextUnseen 37 = .ok (.aload_n 0, 1) := dX2_nextUnseen_28_g.2.2.2.2.2.1
theorem dX2_nextUnseen_38 : decode cX2_nextUnseen 38 = .ok (.getfield 9, 3) := dX2_nextUnseen_28_g.2.2.2.2.2.2.1
theorem dX2_nextUnseen_41 : decode cX2_nextUnseen 41 = .ok (.iload 5, 2) := dX2_nextUnseen_28_g.2.2.2.2.2.2.2
theorem dX2_nextUnseen_43_g : (decode cX2_nextUnseen 43 = .ok (.iaload, 1)) ∧ (decode cX2_nextUnseen 44 = .ok (.ifCond .ne 14, 3)) ∧ (decode cX2_nextUnseen 47 = .ok (.aload_n 0, 1)) ∧ (decode cX2_nextUnseen 48 = .ok (.getfield 18, 3)) ∧ (decode cX2_nextUnseen 51 = .ok (.iload_n 3, 1)) ∧ (decode cX2_nextUnseen 52 = .ok (.iload 4, 2)) ∧ (decode cX2_nextUnseen 54 = .ok (.iastore, 1)) ∧ (decode cX2_nextUnseen 55 = .ok (.iload 5, 2)) := by decide +kernel
theorem dX2_nextUnseen_43 : decode cX2_nextUnseen 43 = .ok (.iaload, 1) := dX2_nextUnseen_43_g.1
theorem dX2_nextUnseen_44 : decode cX2_nextUnseen 44 = .ok (.ifCond .ne 14, 3) := dX2_nextUnseen_43_g.2.1
theorem dX2_nextUnseen_47 : decode cX2_nextUnseen 47 = .ok (.aload_n 0, 1) := dX2_nextUnseen_43_g.2.2.1
theorem dX2_nextUnseen_48 : decode cX2_nextUnseen 48 = .ok (.getfield 18, 3) := dX2_nextUnseen_43_g.2.2.2.1
theorem dX2_nextUnseen_51 : decode cX2_nextUnseen 51 = .ok (.iload_n 3, 1) := dX2_nextUnseen_43_g.2.2.2.2.1
theorem dX2_nextUnseen_52 : decode cX2_nextUnseen 52 = .ok (.iload 4, 2) := dX2_nextUnseen_43_g.2.2.2.2.2.1
theorem dX2_nextUnseen_54 : decode cX2_nextUnseen 54 = .ok (.iastore, 1) := dX2_nextUnseen_43_g.2.2.2.2.2.2.1
theorem dX2_nextUnseen_55 : decode cX2_nextUnseen 55 = .ok (.iload 5, 2) := dX2_nextUnseen_43_g.2.2.2.2.2.2.2
theorem dX2_nextUnseen_57_g : (decode cX2_nextUnseen 57 = .ok (.ireturn, 1)) ∧ (decode cX2_nextUnseen 58 = .ok (.aload_n 0, 1)) ∧ (decode cX2_nextUnseen 59 = .ok (.getfield 27, 3)) ∧ (decode cX2_nextUnseen 62 = .ok (.iload 5, 2)) ∧ (decode cX2_nextUnseen 64 = .ok (.iaload, 1)) ∧ (decode cX2_nextUnseen 65 = .ok (.iconst (-1), 1)) ∧ (decode cX2_nextUnseen 66 = .ok (.if_icmp .ne 25, 3)) ∧ (decode cX2_nextUnseen 69 = .ok (.aload_n 0, 1)) := by decide +kernel
theorem dX2_nextUnseen_57 : decode cX2_nextUnseen 57 = .ok (.ireturn, 1) := dX2_nextUnseen_57_g.1
theorem dX2_nextUnseen_58 : decode cX2_nextUnseen 58 = .ok (.aload_n 0, 1) := dX2_nextUnseen_57_g.2.1
theorem dX2_nextUnseen_59 : decode cX2_nextUnseen 59 = .ok (.getfield 27, 3) := dX2_nextUnseen_57_g.2.2.1
theorem dX2_nextUnseen_62 : decode cX2_nextUnseen 62 = .ok (.iload 5, 2) := dX2_nextUnseen_57_g.2.2.2.1
theorem dX2_nextUnseen_64 : decode cX2_nextUnseen 64 = .ok (.iaload, 1) := dX2_nextUnseen_57_g.2.2.2.2.1
theorem dX2_nextUnseen_65 : decode cX2_nextUnseen 65 = .ok (.iconst (-1), 1) := dX2_nextUnseen_57_g.2.2.2.2.2.1
theorem dX2_nextUnseen_66 : decode cX2_nextUnseen 66 = .ok (.if_icmp .ne 25, 3) := dX2_nextUnseen_57_g.2.2.2.2.2.2.1
theorem dX2_nextUnseen_69 : decode cX2_nextUnseen 69 = .ok (.aload_n 0, 1) := dX2_nextUnseen_57_g.2.2.2.2.2.2.2
theorem dX2_nextUnseen_70_g : (decode cX2_nextUnseen 70 = .ok (.getfield 15, 3)) ∧ (decode cX2_nextUnseen 73 = .ok (.iload_n 3, 1)) ∧ (decode cX2_nextUnseen 74 = .ok (.aload_n 0, 1)) ∧ (decode cX2_nextUnseen 75 = .ok (.getfield 15, 3)) ∧ (decode cX2_nextUnseen 78 = .ok (.iload_n 3, 1)) ∧ (decode cX2_nextUnseen 79 = .ok (.iaload, 1)) ∧ (decode cX2_nextUnseen 80 = .ok (.aload_n 0, 1)) ∧ (decode cX2_nextUnseen 81 = .ok (.getfield 15, 3)) := by decide +kernel
theorem dX2_nextUnseen_70 : decode cX2_nextUnseen 70 = .ok (.getfield 15, 3) := dX2_nextUnseen_70_g.1
theorem dX2_nextUnseen_73 : decode cX2_nextUnseen 73 = .ok (.iload_n 3, 1) := dX2_nextUnseen_70_g.2.1
theorem dX2_nextUnseen_74 : decode cX2_nextUnseen 74 = .ok (.aload_n 0, 1) := dX2_nextUnseen_70_g.2.2.1
theorem dX2_nextUnseen_75 : decode cX2_nextUnseen 75 = .ok (.getfield 15, 3) := dX2_nextUnseen_70_g.2.2.2.1
theorem dX2_nextUnseen_78 : decode cX2_nextUnseen 78 = .ok (.iload_n 3, 1) := dX2_nextUnseen_70_g.2.2.2.2.1
theorem dX2_nextUnseen_79 : decode cX2_nextUnseen 79 = .ok (.iaload, 1) := dX2_nextUnseen_70_g.2.2.2.2.2.1
theorem dX2_nextUnseen_80 : decode cX2_nextUnseen 80 = .ok (.aload_n 0, 1) := dX2_nextUnseen_70_g.2.2.2.2.2.2.1
theorem dX2_nextUnseen_81 : decode cX2_nextUnseen 81 = .ok (.getfield 15, 3) := dX2_nextUnseen_70_g.2.2.2.2.2.2.2
theorem dX2_nextUnseen_84_g : (decode cX2_nextUnseen 84 = .ok (.iload 5, 2)) ∧ (decode cX2_nextUnseen 86 = .ok (.iaload, 1)) ∧ (decode cX2_nextUnseen 87 = .ok (.invokestatic 103, 3)) ∧ (decode cX2_nextUnseen 90 = .ok (.iastore, 1)) ∧ (decode cX2_nextUnseen 91 = .ok (.iinc 4 1, 3)) ∧ (decode cX2_nextUnseen 94 = .ok (.goto (-75), 3)) ∧ (decode cX2_nextUnseen 97 = .ok (.iconst (-1), 1)) ∧ (decode cX2_nextUnseen 98 = .ok (.ireturn, 1)) := by decide +kernel
theorem dX2_nextUnseen_84 : decode cX2_nextUnseen 84 = .ok (.iload 5, 2) := dX2_nextUnseen_84_g.1
theorem dX2_nextUnseen_86 : decode cX2_nextUnseen 86 = .ok (.iaload, 1) := dX2_nextUnseen_84_g.2.1
theorem dX2_nextUnseen_87 : decode cX2_nextUnseen 87 = .ok (.invokestatic 103, 3) := dX2_nextUnseen_84_g.2.2.1
theorem dX2_nextUnseen_90 : decode cX2_nextUnseen 90 = .ok (.iastore, 1) := dX2_nextUnseen_84_g.2.2.2.1
theorem dX2_nextUnseen_91 : decode cX2_nextUnseen 91 = .ok (.iinc 4 1, 3) := dX2_nextUnseen_84_g.2.2.2.2.1
theorem dX2_nextUnseen_94 : decode cX2_nextUnseen 94 = .ok (.goto (-75), 3) := dX2_nextUnseen_84_g.2.2.2.2.2.1
theorem dX2_nextUnseen_97 : decode cX2_nextUnseen 97 = .ok (.iconst (-1), 1) := dX2_nextUnseen_84_g.2.2.2.2.2.2.1
theorem dX2_nextUnseen_98 : decode cX2_nextUnseen 98 = .ok (.ireturn, 1) := dX2_nextUnseen_84_g.2.2.2.2.2.2.2
theorem dX2_leave_0_g : (decode cX2_leave 0 = .ok (.aload_n 0, 1)) ∧ (decode cX2_leave 1 = .ok (.dup, 1)) ∧ (decode cX2_leave 2 = .ok (.getfield 75, 3)) ∧ (decode cX2_leave 5 = .ok (.iconst 1, 1)) ∧ (decode cX2_leave 6 = .ok (.isub, 1)) ∧ (decode cX2_leave 7 = .ok (.putfield 75, 3)) ∧ (decode cX2_leave 10 = .ok (.aload_n 0, 1)) ∧ (decode cX2_leave 11 = .ok (.getfield 15, 3)) := by decide +kernel
theorem dX2_leave_0 : decode cX2_leave 0 = .ok (.aload_n 0, 1) := dX2_leave_0_g.1
theorem dX2_leave_1 : decode cX2_leave 1 = .ok (.dup, 1) := dX2_leave_0_g.2.1
theorem dX2_leave_2 : decode cX2_leave 2 = .ok (.getfield 75, 3) := dX2_leave_0_g.2.2.1
theorem dX2_leave_5 : decode cX2_leave 5 = .ok (.iconst 1, 1) := dX2_leave_0_g.2.2.2.1
theorem dX2_leave_6 : decode cX2_leave 6 = .ok (.isub, 1) := dX2_leave_0_g.2.2.2.2.1
theorem dX2_leave_7 : decode cX2_leave 7 = .ok (.putfield 75, 3) := dX2_leave_0_g.2.2.2.2.2.1
theorem dX2_leave_10 : decode cX2_leave 10 = .ok (.aload_n 0, 1) := dX2_leave_0_g.2.2.2.2.2.2.1
theorem dX2_leave_11 : decode cX2_leave 11 = .ok (.getfield 15, 3) := dX2_leave_0_g.2.2.2.2.2.2.2
theorem dX2_leave_14_g : (decode cX2_leave 14 = .ok (.iload_n 1, 1)) ∧ (decode cX2_leave 15 = .ok (.iaload, 1)) ∧ (decode cX2_leave 16 = .ok (.aload_n 0, 1)) ∧ (decode cX2_leave 17 = .ok (.getfield 9, 3)) ∧ (decode cX2_leave 20 = .ok (.iload_n 1, 1)) ∧ (decode cX2_leave 21 = .ok (.iaload, 1)) ∧ (decode cX2_leave 22 = .ok (.if_icmp .eq 4, 3)) ∧ (decode cX2_leave 25 = .ok (.return_, 1)) := by decide +kernel
theorem dX2_leave_14 : decode cX2_leave 14 = .ok (.iload_n 1, 1) := dX2_leave_14_g.1
theorem dX2_leave_15 : decode cX2_leave 15 = .ok (.iaload, 1) := dX2_leave_14_g.2.1
theorem dX2_leave_16 : decode cX2_leave 16 = .ok (.aload_n 0, 1) := dX2_leave_14_g.2.2.1
theorem dX2_leave_17 : decode cX2_leave 17 = .ok (.getfield 9, 3) := dX2_leave_14_g.2.2.2.1
theorem dX2_leave_20 : decode cX2_leave 20 = .ok (.iload_n 1, 1) := dX2_leave_14_g.2.2.2.2.1
theorem dX2_leave_21 : decode cX2_leave 21 = .ok (.iaload, 1) := dX2_leave_14_g.2.2.2.2.2.1
theorem dX2_leave_22 : decode cX2_leave 22 = .ok (.if_icmp .eq 4, 3) := dX2_leave_14_g.2.2.2.2.2.2.1
theorem dX2_leave_25 : decode cX2_leave 25 = .ok (.return_, 1) := dX2_leave_14_g.2.2.2.2.2.2.2
theorem dX2_leave_26_g : (decode cX2_leave 26 = .ok (.iconst 1, 1)) ∧ (decode cX2_leave 27 = .ok (.istore_n 2, 1)) ∧ (decode cX2_leave 28 = .ok (.iload_n 2, 1)) ∧ (decode cX2_leave 29 = .ok (.ifCond .eq 67, 3)) ∧ (decode cX2_leave 32 = .ok (.aload_n 0, 1)) ∧ (decode cX2_leave 33 = .ok (.getfield 78, 3)) ∧ (decode cX2_leave 36 = .ok (.ifCond .le 60, 3)) ∧ (decode cX2_leave 39 = .ok (.aload_n 0, 1)) := by decide +kernel
theorem dX2_leave_26 : decode cX2_leave 26 = .ok (.iconst 1, 1) := dX2_leave_26_g.1
theorem dX2_leave_27 : decode cX2_leave 27 = .ok (.istore_n 2, 1) := dX2_leave_26_g.2.1
theorem dX2_leave_28 : decode cX2_leave 28 = .ok (.iload_n 2, 1) := dX2_leave_26_g.2.2.1
theorem dX2_leave_29 : decode cX2_leave 29 = .ok (.ifCond .eq 67, 3) := dX2_leave_26_g.2.2.2.1
theorem dX2_leave_32 : decode cX2_leave 32 = .ok (.aload_n 0, 1) := dX2_leave_26_g.2.2.2.2.1
theorem dX2_leave_33 : decode cX2_leave 33 = .ok (.getfield 78, 3) := dX2_leave_26_g.2.2.2.2.2.1
theorem dX2_leave_36 : decode cX2_leave 36 = .ok (.ifCond .le 60, 3) := dX2_leave_26_g.2.2.2.2.2.2.1
theorem dX2_leave_39 : decode cX2_leave 39 = .ok (.aload_n 0, 1) := dX2_leave_26_g.2.2.2.2.2.2.2
theorem dX2_leave_40_g : (decode cX2_leave 40 = .ok (.dup, 1)) ∧ (decode cX2_leave 41 = .ok (.getfield 78, 3)) ∧ (decode cX2_leave 44 = .ok (.iconst 1, 1)) ∧ (decode cX2_leave 45 = .ok (.isub, 1)) ∧ (decode cX2_leave 46 = .ok (.putfield 78, 3)) ∧ (decode cX2_leave 49 = .ok (.aload_n 0, 1)) ∧ (decode cX2_leave 50 = .ok (.getfield 24, 3)) ∧ (decode cX2_leave 53 = .ok (.aload_n 0, 1)) := by decide +kernel
theorem dX2_leave_40 : decode cX2_leave 40 = .ok (.dup, 1) := dX2_leave_40_g.1
theorem dX2_leave_41 : decode cX2_leave 41 = .ok (.getfield 78, 3) := dX2_leave_40_g.2.1
theorem dX2_leave_44 : decode cX2_leave 44 = .ok (.iconst 1, 1) := dX2_leave_40_g.2.2.1
theorem dX2_leave_45 : decode cX2_leave 45 = .ok (.isub, 1) := dX2_leave_40_g.2.2.2.1
theorem dX2_leave_46 : decode cX2_leave 46 = .ok (.putfield 78, 3) := dX2_leave_40_g.2.2.2.2.1
theorem dX2_leave_49 : decode cX2_leave 49 = .ok (.aload_n 0, 1) := dX2_leave_40_g.2.2.2.2.2.1
theorem dX2_leave_50 : decode cX2_leave 50 = .ok (.getfield 24, 3) := dX2_leave_40_g.2.2.2.2.2.2.1
theorem dX2_leave_53 : decode cX2_leave 53 = .ok (.aload_n 0, 1) := dX2_leave_40_g.2.2.2.2.2.2.2
theorem dX2_leave_54_g : (decode cX2_leave 54 = .ok (.getfield 78, 3)) ∧ (decode cX2_leave 57 = .ok (.iaload, 1)) ∧ (decode cX2_leave 58 = .ok (.istore_n 3, 1)) ∧ (decode cX2_leave 59 = .ok (.aload_n 0, 1)) ∧ (decode cX2_leave 60 = .ok (.getfield 27, 3)) ∧ (decode cX2_leave 63 = .ok (.iload_n 3, 1)) ∧ (decode cX2_leave 64 = .ok (.aload_n 0, 1)) ∧ (decode cX2_leave 65 = .ok (.getfield 81, 3)) := by decide +kernel
theorem dX2_leave_54 : decode cX2_leave 54 = .ok (.getfield 78, 3) := dX2_leave_54_g.1
theorem dX2_leave_57 : decode cX2_leave 57 = .ok (.iaload, 1) := dX2_leave_54_g.2.1
theorem dX2_leave_58 : decode cX2_leave 58 = .ok (.istore_n 3, 1) := dX2_leave_54_g.2.2.1
theorem dX2_leave_59 : decode cX2_leave 59 = .ok (.aload_n 0, 1) := dX2_leave_54_g.2.2.2.1
theorem dX2_leave_60 : decode cX2_leave 60 = .ok (.getfield 27, 3) := dX2_leave_54_g.2.2.2.2.1
theorem dX2_leave_63 : decode cX2_leave 63 = .ok (.iload_n 3, 1) := dX2_leave_54_g.2.2.2.2.2.1
theorem dX2_leave_64 : decode cX2_leave 64 = .ok (.aload_n 0, 1) := dX2_leave_54_g.2.2.2.2.2.2.1
theorem dX2_leave_65 : decode cX2_leave 65 = .ok (.getfield 81, 3) := dX2_leave_54_g.2.2.2.2.2.2.2
theorem dX2_leave_68_g : (decode cX2_leave 68 = .ok (.iastore, 1)) ∧ (decode cX2_leave 69 = .ok (.aload_n 0, 1)) ∧ (decode cX2_leave 70 = .ok (.getfield 30, 3)) ∧ (decode cX2_leave 73 = .ok (.aload_n 0, 1)) ∧ (decode cX2_leave 74 = .ok (.getfield 81, 3)) ∧ (decode cX2_leave 77 = .ok (.dup2, 1)) ∧ (decode cX2_leave 78 = .ok (.iaload, 1)) ∧ (decode cX2_leave 79 = .ok (.iconst 1, 1)) := by decide +kernel
theorem dX2_leave_68 : decode cX2_leave 68 = .ok (.iastore, 1) := dX2_leave_68_g.1
theorem dX2_leave_69 : decode cX2_leave 69 = .ok (.aload_n 0, 1) := dX2_leave_68_g.2.1
theorem dX2_leave_70 : decode cX2_leave 70 = .ok (.getfield 30, 3) := dX2_leave_68_g.2.2.1
theorem dX2_leave_73 : decode cX2_leave 73 = .ok (.aload_n 0, 1) := dX2_leave_68_g.2.2.2.1
theorem dX2_leave_74 : decode cX2_leave 74 = .ok (.getfield 81, 3) := dX2_leave_68_g.2.2.2.2.1
theorem dX2_leave_77 : decode cX2_leave 77 = .ok (.dup2, 1) := dX2_leave_68_g.2.2.2.2.2.1
theorem dX2_leave_78 : decode cX2_leave 78 = .ok (.iaload, 1) := dX2_leave_68_g.2.2.2.2.2.2.1
theorem dX2_leave_79 : decode cX2_leave 79 = .ok (.iconst 1, 1) := dX2_leave_68_g.2.2.2.2.2.2.2
theorem dX2_leave_80_g : (decode cX2_leave 80 = .ok (.iadd, 1)) ∧ (decode cX2_leave 81 = .ok (.iastore, 1)) ∧ (decode cX2_leave 82 = .ok (.iload_n 3, 1)) ∧ (decode cX2_leave 83 = .ok (.iload_n 1, 1)) ∧ (decode cX2_leave 84 = .ok (.if_icmp .eq 7, 3)) ∧ (decode cX2_leave 87 = .ok (.iconst 1, 1)) ∧ (decode cX2_leave 88 = .ok (.goto 4, 3)) ∧ (decode cX2_leave 91 = .ok (.iconst 0, 1)) := by decide +kernel
theorem dX2_leave_80 : decode cX2_leave 80 = .ok (.iadd, 1) := dX2_leave_80_g.1
theorem dX2_leave_81 : decode cX2_leave 81 = .ok (.iastore, 1) := dX2_leave_80_g.2.1
theorem dX2_leave_82 : decode cX2_leave 82 = .ok (.iload_n 3, 1) := dX2_leave_80_g.2.2.1
theorem dX2_leave_83 : decode cX2_leave 83 = .ok (.iload_n 1, 1) := dX2_leave_80_g.2.2.2.1
theorem dX2_leave_84 : decode cX2_leave 84 = .ok (.if_icmp .eq 7, 3) := dX2_leave_80_g.2.2.2.2.1
theorem dX2_leave_87 : decode cX2_leave 87 = .ok (.iconst 1, 1) := dX2_leave_80_g.2.2.2.2.2.1
theorem dX2_leave_88 : decode cX2_leave 88 = .ok (.goto 4, 3) := dX2_leave_80_g.2.2.2.2.2.2.1
theorem dX2_leave_91 : decode cX2_leave 91 = .ok (.iconst 0, 1) := dX2_leave_80_g.2.2.2.2.2.2.2
theorem dX2_leave_92_g : (decode cX2_leave 92 = .ok (.istore_n 2, 1)) ∧ (decode cX2_leave 93 = .ok (.goto (-65), 3)) ∧ (decode cX2_leave 96 = .ok (.aload_n 0, 1)) ∧ (decode cX2_leave 97 = .ok (.dup, 1)) ∧ (decode cX2_leave 98 = .ok (.getfield 81, 3)) ∧ (decode cX2_leave 101 = .ok (.iconst 1, 1)) ∧ (decode cX2_leave 102 = .ok (.iadd, 1)) ∧ (decode cX2_leave 103 = .ok (.putfield 81, 3)) := by decide +kernel
theorem dX2_leave_92 : decode cX2_leave 92 = .ok (.istore_n 2, 1) := dX2_leave_92_g.1
theorem dX2_leave_93 : decode cX2_leave 93 = .ok (.goto (-65), 3) := dX2_leave_92_g.2.1
theorem dX2_leave_96 : decode cX2_leave 96 = .ok (.aload_n 0, 1) := dX2_leave_92_g.2.2.1
theorem dX2_leave_97 : decode cX2_leave 97 = .ok (.dup, 1) := dX2_leave_92_g.2.2.2.1
theorem dX2_leave_98 : decode cX2_leave 98 = .ok (.getfield 81, 3) := dX2_leave_92_g.2.2.2.2.1
theorem dX2_leave_101 : decode cX2_leave 101 = .ok (.iconst 1, 1) := dX2_leave_92_g.2.2.2.2.2.1
theorem dX2_leave_102 : decode cX2_leave 102 = .ok (.iadd, 1) := dX2_leave_92_g.2.2.2.2.2.2.1
theorem dX2_leave_103 : decode cX2_leave 103 = .ok (.putfield 81, 3) := dX2_leave_92_g.2.2.2.2.2.2.2
theorem dX2_leave_106 : decode cX2_leave 106 = .ok (.return_, 1) := by decide +kernel
theorem dX2_seekWayOut_0_g : (decode cX2_seekWayOut 0 = .ok (.aload_n 0, 1)) ∧ (decode cX2_seekWayOut 1 = .ok (.getfield 27, 3)) ∧ (decode cX2_seekWayOut 4 = .ok (.iload_n 3, 1)) ∧ (decode cX2_seekWayOut 5 = .ok (.iaload, 1)) ∧ (decode cX2_seekWayOut 6 = .ok (.istore 4, 2)) ∧ (decode cX2_seekWayOut 8 = .ok (.aload_n 0, 1)) ∧ (decode cX2_seekWayOut 9 = .ok (.getfield 33, 3)) ∧ (decode cX2_seekWayOut 12 = .ok (.iload 4, 2)) := by decide +kernel
theorem dX2_seekWayOut_0 : decode cX2_seekWayOut 0 = .ok (.aload_n 0, 1) := dX2_seekWayOut_0_g.1
theorem dX2_seekWayOut_1 : decode cX2_seekWayOut 1 = .ok (.getfield 27, 3) := dX2_seekWayOut_0_g.2.1
theorem dX2_seekWayOut_4 : decode cX2_seekWayOut 4 = .ok (.iload_n 3, 1) := dX2_seekWayOut_0_g.2.2.1
theorem dX2_seekWayOut_5 : decode cX2_seekWayOut 5 = .ok (.iaload, 1) := dX2_seekWayOut_0_g.2.2.2.1
theorem dX2_seekWayOut_6 : decode cX2_seekWayOut 6 = .ok (.istore 4, 2) := dX2_seekWayOut_0_g.2.2.2.2.1
theorem dX2_seekWayOut_8 : decode cX2_seekWayOut 8 = .ok (.aload_n 0, 1) := dX2_seekWayOut_0_g.2.2.2.2.2.1
theorem dX2_seekWayOut_9 : decode cX2_seekWayOut 9 = .ok (.getfield 33, 3) := dX2_seekWayOut_0_g.2.2.2.2.2.2.1
theorem dX2_seekWayOut_12 : decode cX2_seekWayOut 12 = .ok (.iload 4, 2) := dX2_seekWayOut_0_g.2.2.2.2.2.2.2
theorem dX2_seekWayOut_14_g : (decode cX2_seekWayOut 14 = .ok (.iaload, 1)) ∧ (decode cX2_seekWayOut 15 = .ok (.iconst 1, 1)) ∧ (decode cX2_seekWayOut 16 = .ok (.if_icmp .ne 4, 3)) ∧ (decode cX2_seekWayOut 19 = .ok (.return_, 1)) ∧ (decode cX2_seekWayOut 20 = .ok (.aload_n 2, 1)) ∧ (decode cX2_seekWayOut 21 = .ok (.aload_n 1, 1)) ∧ (decode cX2_seekWayOut 22 = .ok (.iload_n 3, 1)) ∧ (decode cX2_seekWayOut 23 = .ok (.invokevirtual 50, 3)) := by decide +kernel
theorem dX2_seekWayOut_14 : decode cX2_seekWayOut 14 = .ok (.iaload, 1) := dX2_seekWayOut_14_g.1
theorem dX2_seekWayOut_15 : decode cX2_seekWayOut 15 = .ok (.iconst 1, 1) := dX2_seekWayOut_14_g.2.1
theorem dX2_seekWayOut_16 : decode cX2_seekWayOut 16 = .ok (.if_icmp .ne 4, 3) := dX2_seekWayOut_14_g.2.2.1
theorem dX2_seekWayOut_19 : decode cX2_seekWayOut 19 = .ok (.return_, 1) := dX2_seekWayOut_14_g.2.2.2.1
theorem dX2_seekWayOut_20 : decode cX2_seekWayOut 20 = .ok (.aload_n 2, 1) := dX2_seekWayOut_14_g.2.2.2.2.1
theorem dX2_seekWayOut_21 : decode cX2_seekWayOut 21 = .ok (.aload_n 1, 1) := dX2_seekWayOut_14_g.2.2.2.2.2.1
theorem dX2_seekWayOut_22 : decode cX2_seekWayOut 22 = .ok (.iload_n 3, 1) := dX2_seekWayOut_14_g.2.2.2.2.2.2.1
theorem dX2_seekWayOut_23 : decode cX2_seekWayOut 23 = .ok (.invokevirtual 50, 3) := dX2_seekWayOut_14_g.2.2.2.2.2.2.2
theorem dX2_seekWayOut_26_g : (decode cX2_seekWayOut 26 = .ok (.aload_n 2, 1)) ∧ (decode cX2_seekWayOut 27 = .ok (.aload_n 1, 1)) ∧ (decode cX2_seekWayOut 28 = .ok (.invokevirtual 94, 3)) ∧ (decode cX2_seekWayOut 31 = .ok (.iconst 0, 1)) ∧ (decode cX2_seekWayOut 32 = .ok (.istore 5, 2)) ∧ (decode cX2_seekWayOut 34 = .ok (.iload 5, 2)) ∧ (decode cX2_seekWayOut 36 = .ok (.aload_n 2, 1)) ∧ (decode cX2_seekWayOut 37 = .ok (.getfield 98, 3)) := by decide +kernel
theorem dX2_seekWayOut_26 : decode cX2_seekWayOut 26 = .ok (.aload_n 2, 1) := dX2_seekWayOut_26_g.1
theorem dX2_seekWayOut_27 : decode cX2_seekWayOut 27 = .ok (.aload_n 1, 1) := dX2_seekWayOut_26_g.2.1
theorem dX2_seekWayOut_28 : decode cX2_seekWayOut 28 = .ok (.invokevirtual 94, 3) := dX2_seekWayOut_26_g.2.2.1
theorem dX2_seekWayOut_31 : decode cX2_seekWayOut 31 = .ok (.iconst 0, 1) := dX2_seekWayOut_26_g.2.2.2.1
theorem dX2_seekWayOut_32 : decode cX2_seekWayOut 32 = .ok (.istore 5, 2) := dX2_seekWayOut_26_g.2.2.2.2.1
theorem dX2_seekWayOut_34 : decode cX2_seekWayOut 34 = .ok (.iload 5, 2) := dX2_seekWayOut_26_g.2.2.2.2.2.1
theorem dX2_seekWayOut_36 : decode cX2_seekWayOut 36 = .ok (.aload_n 2, 1) := dX2_seekWayOut_26_g.2.2.2.2.2.2.1
theorem dX2_seekWayOut_37 : decode cX2_seekWayOut 37 = .ok (.getfield 98, 3) := dX2_seekWayOut_26_g.2.2.2.2.2.2.2
theorem dX2_seekWayOut_40_g : (decode cX2_seekWayOut 40 = .ok (.if_icmp .ge 34, 3)) ∧ (decode cX2_seekWayOut 43 = .ok (.aload_n 0, 1)) ∧ (decode cX2_seekWayOut 44 = .ok (.getfield 27, 3)) ∧ (decode cX2_seekWayOut 47 = .ok (.aload_n 2, 1)) ∧ (decode cX2_seekWayOut 48 = .ok (.getfield 100, 3)) ∧ (decode cX2_seekWayOut 51 = .ok (.iload 5, 2)) ∧ (decode cX2_seekWayOut 53 = .ok (.iaload, 1)) ∧ (decode cX2_seekWayOut 54 = .ok (.iaload, 1)) := by decide +kernel
theorem dX2_seekWayOut_40 : decode cX2_seekWayOut 40 = .ok (.if_icmp .ge 34, 3) := dX2_seekWayOut_40_g.1
theorem dX2_seekWayOut_43 : decode cX2_seekWayOut 43 = .ok (.aload_n 0, 1) := dX2_seekWayOut_40_g.2.1
theorem dX2_seekWayOut_44 : decode cX2_seekWayOut 44 = .ok (.getfield 27, 3) := dX2_seekWayOut_40_g.2.2.1
theorem dX2_seekWayOut_47 : decode cX2_seekWayOut 47 = .ok (.aload_n 2, 1) := dX2_seekWayOut_40_g.2.2.2.1
theorem dX2_seekWayOut_48 : decode cX2_seekWayOut 48 = .ok (.getfield 100, 3) := dX2_seekWayOut_40_g.2.2.2.2.1
theorem dX2_seekWayOut_51 : decode cX2_seekWayOut 51 = .ok (.iload 5, 2) := dX2_seekWayOut_40_g.2.2.2.2.2.1
theorem dX2_seekWayOut_53 : decode cX2_seekWayOut 53 = .ok (.iaload, 1) := dX2_seekWayOut_40_g.2.2.2.2.2.2.1
theorem dX2_seekWayOut_54 : decode cX2_seekWayOut 54 = .ok (.iaload, 1) := dX2_seekWayOut_40_g.2.2.2.2.2.2.2
theorem dX2_seekWayOut_55_g : (decode cX2_seekWayOut 55 = .ok (.iload 4, 2)) ∧ (decode cX2_seekWayOut 57 = .ok (.if_icmp .eq 11, 3)) ∧ (decode cX2_seekWayOut 60 = .ok (.aload_n 0, 1)) ∧ (decode cX2_seekWayOut 61 = .ok (.getfield 33, 3)) ∧ (decode cX2_seekWayOut 64 = .ok (.iload 4, 2)) ∧ (decode cX2_seekWayOut 66 = .ok (.iconst 1, 1)) ∧ (decode cX2_seekWayOut 67 = .ok (.iastore, 1)) ∧ (decode cX2_seekWayOut 68 = .ok (.iinc 5 1, 3)) := by decide +kernel
theorem dX2_seekWayOut_55 : decode cX2_seekWayOut 55 = .ok (.iload 4, 2) := dX2_seekWayOut_55_g.1
theorem dX2_seekWayOut_57 : decode cX2_seekWayOut 57 = .ok (.if_icmp .eq 11, 3) := dX2_seekWayOut_55_g.2.1
theorem dX2_seekWayOut_60 : decode cX2_seekWayOut 60 = .ok (.aload_n 0, 1) := dX2_seekWayOut_55_g.2.2.1
theorem dX2_seekWayOut_61 : decode cX2_seekWayOut 61 = .ok (.getfield 33, 3) := dX2_seekWayOut_55_g.2.2.2.1
theorem dX2_seekWayOut_64 : decode cX2_seekWayOut 64 = .ok (.iload 4, 2) := dX2_seekWayOut_55_g.2.2.2.2.1
theorem dX2_seekWayOut_66 : decode cX2_seekWayOut 66 = .ok (.iconst 1, 1) := dX2_seekWayOut_55_g.2.2.2.2.2.1
theorem dX2_seekWayOut_67 : decode cX2_seekWayOut 67 = .ok (.iastore, 1) := dX2_seekWayOut_55_g.2.2.2.2.2.2.1
theorem dX2_seekWayOut_68 : decode cX2_seekWayOut 68 = .ok (.iinc 5 1, 3) := dX2_seekWayOut_55_g.2.2.2.2.2.2.2
theorem dX2_seekWayOut_71_g : (decode cX2_seekWayOut 71 = .ok (.goto (-37), 3)) ∧ (decode cX2_seekWayOut 74 = .ok (.return_, 1)) := by decide +kernel
theorem dX2_seekWayOut_71 : decode cX2_seekWayOut 71 = .ok (.goto (-37), 3) := dX2_seekWayOut_71_g.1
theorem dX2_seekWayOut_74 : decode cX2_seekWayOut 74 = .ok (.return_, 1) := dX2_seekWayOut_71_g.2
theorem dX2_sizeOfSet_0_g : (decode cX2_sizeOfSet 0 = .ok (.aload_n 0, 1)) ∧ (decode cX2_sizeOfSet 1 = .ok (.getfield 27, 3)) ∧ (decode cX2_sizeOfSet 4 = .ok (.iload_n 1, 1)) ∧ (decode cX2_sizeOfSet 5 = .ok (.iaload, 1)) ∧ (decode cX2_sizeOfSet 6 = .ok (.istore_n 2, 1)) ∧ (decode cX2_sizeOfSet 7 = .ok (.iload_n 2, 1)) ∧ (decode cX2_sizeOfSet 8 = .ok (.iconst (-1), 1)) ∧ (decode cX2_sizeOfSet 9 = .ok (.if_icmp .ne 7, 3)) := by decide +kernel
theorem dX2_sizeOfSet_0 : decode cX2_sizeOfSet 0 = .ok (.aload_n 0, 1) := dX2_sizeOfSet_0_g.1
theorem dX2_sizeOfSet_1 : decode cX2_sizeOfSet 1 = .ok (.getfield 27, 3) := dX2_sizeOfSet_0_g.2.1
theorem dX2_sizeOfSet_4 : decode cX2_sizeOfSet 4 = .ok (.iload_n 1, 1) := dX2_sizeOfSet_0_g.2.2.1
theorem dX2_sizeOfSet_5 : decode cX2_sizeOfSet 5 = .ok (.iaload, 1) := dX2_sizeOfSet_0_g.2.2.2.1
theorem dX2_sizeOfSet_6 : decode cX2_sizeOfSet 6 = .ok (.istore_n 2, 1) := dX2_sizeOfSet_0_g.2.2.2.2.1
theorem dX2_sizeOfSet_7 : decode cX2_sizeOfSet 7 = .ok (.iload_n 2, 1) := dX2_sizeOfSet_0_g.2.2.2.2.2.1
theorem dX2_sizeOfSet_8 : decode cX2_sizeOfSet 8 = .ok (.iconst (-1), 1) := dX2_sizeOfSet_0_g.2.2.2.2.2.2.1
theorem dX2_sizeOfSet_9 : decode cX2_sizeOfSet 9 = .ok (.if_icmp .ne 7, 3) := dX2_sizeOfSet_0_g.2.2.2.2.2.2.2
theorem dX2_sizeOfSet_12_g : (decode cX2_sizeOfSet 12 = .ok (.iconst 0, 1)) ∧ (decode cX2_sizeOfSet 13 = .ok (.goto 9, 3)) ∧ (decode cX2_sizeOfSet 16 = .ok (.aload_n 0, 1)) ∧ (decode cX2_sizeOfSet 17 = .ok (.getfield 30, 3)) ∧ (decode cX2_sizeOfSet 20 = .ok (.iload_n 2, 1)) ∧ (decode cX2_sizeOfSet 21 = .ok (.iaload, 1)) ∧ (decode cX2_sizeOfSet 22 = .ok (.ireturn, 1)) := by decide +kernel
theorem dX2_sizeOfSet_12 : decode cX2_sizeOfSet 12 = .ok (.iconst 0, 1) := dX2_sizeOfSet_12_g.1
theorem dX2_sizeOfSet_13 : decode cX2_sizeOfSet 13 = .ok (.goto 9, 3) := dX2_sizeOfSet_12_g.2.1
theorem dX2_sizeOfSet_16 : decode cX2_sizeOfSet 16 = .ok (.aload_n 0, 1) := dX2_sizeOfSet_12_g.2.2.1
theorem dX2_sizeOfSet_17 : decode cX2_sizeOfSet 17 = .ok (.getfield 30, 3) := dX2_sizeOfSet_12_g.2.2.2.1
theorem dX2_sizeOfSet_20 : decode cX2_sizeOfSet 20 = .ok (.iload_n 2, 1) := dX2_sizeOfSet_12_g.2.2.2.2.1
theorem dX2_sizeOfSet_21 : decode cX2_sizeOfSet 21 = .ok (.iaload, 1) := dX2_sizeOfSet_12_g.2.2.2.2.2.1
theorem dX2_sizeOfSet_22 : decode cX2_sizeOfSet 22 = .ok (.ireturn, 1) := dX2_sizeOfSet_12_g.2.2.2.2.2.2
theorem dX2_countClosed_0_g : (decode cX2_countClosed 0 = .ok (.iconst 0, 1)) ∧ (decode cX2_countClosed 1 = .ok (.istore_n 1, 1)) ∧ (decode cX2_countClosed 2 = .ok (.iconst 0, 1)) ∧ (decode cX2_countClosed 3 = .ok (.istore_n 2, 1)) ∧ (decode cX2_countClosed 4 = .ok (.iload_n 2, 1)) ∧ (decode cX2_countClosed 5 = .ok (.aload_n 0, 1)) ∧ (decode cX2_countClosed 6 = .ok (.getfield 81, 3)) ∧ (decode cX2_countClosed 9 = .ok (.if_icmp .ge 21, 3)) := by decide +kernel
theorem dX2_countClosed_0 : decode cX2_countClosed 0 = .ok (.iconst 0, 1) := dX2_countClosed_0_g.1
theorem dX2_countClosed_1 : decode cX2_countClosed 1 = .ok (.istore_n 1, 1) := dX2_countClosed_0_g.2.1
theorem dX2_countClosed_2 : decode cX2_countClosed 2 = .ok (.iconst 0, 1) := dX2_countClosed_0_g.2.2.1
theorem dX2_countClosed_3 : decode cX2_countClosed 3 = .ok (.istore_n 2, 1) := dX2_countClosed_0_g.2.2.2.1
theorem dX2_countClosed_4 : decode cX2_countClosed 4 = .ok (.iload_n 2, 1) := dX2_countClosed_0_g.2.2.2.2.1
theorem dX2_countClosed_5 : decode cX2_countClosed 5 = .ok (.aload_n 0, 1) := dX2_countClosed_0_g.2.2.2.2.2.1
theorem dX2_countClosed_6 : decode cX2_countClosed 6 = .ok (.getfield 81, 3) := dX2_countClosed_0_g.2.2.2.2.2.2.1
theorem dX2_countClosed_9 : decode cX2_countClosed 9 = .ok (.if_icmp .ge 21, 3) := dX2_countClosed_0_g.2.2.2.2.2.2.2
theorem dX2_countClosed_12_g : (decode cX2_countClosed 12 = .ok (.aload_n 0, 1)) ∧ (decode cX2_countClosed 13 = .ok (.getfield 33, 3)) ∧ (decode cX2_countClosed 16 = .ok (.iload_n 2, 1)) ∧ (decode cX2_countClosed 17 = .ok (.iaload, 1)) ∧ (decode cX2_countClosed 18 = .ok (.ifCond .ne 6, 3)) ∧ (decode cX2_countClosed 21 = .ok (.iinc 1 1, 3)) ∧ (decode cX2_countClosed 24 = .ok (.iinc 2 1, 3)) ∧ (decode cX2_countClosed 27 = .ok (.goto (-23), 3)) := by decide +kernel
theorem dX2_countClosed_12 : decode cX2_countClosed 12 = .ok (.aload_n 0, 1) := dX2_countClosed_12_g.1
theorem dX2_countClosed_13 : decode cX2_countClosed 13 = .ok (.getfield 33, 3) := dX2_countClosed_12_g.2.1
theorem dX2_countClosed_16 : decode cX2_countClosed 16 = .ok (.iload_n 2, 1) := dX2_countClosed_12_g.2.2.1
theorem dX2_countClosed_17 : decode cX2_countClosed 17 = .ok (.iaload, 1) := dX2_countClosed_12_g.2.2.2.1
theorem dX2_countClosed_18 : decode cX2_countClosed 18 = .ok (.ifCond .ne 6, 3) := dX2_countClosed_12_g.2.2.2.2.1
theorem dX2_countClosed_21 : decode cX2_countClosed 21 = .ok (.iinc 1 1, 3) := dX2_countClosed_12_g.2.2.2.2.2.1
theorem dX2_countClosed_24 : decode cX2_countClosed 24 = .ok (.iinc 2 1, 3) := dX2_countClosed_12_g.2.2.2.2.2.2.1
theorem dX2_countClosed_27 : decode cX2_countClosed 27 = .ok (.goto (-23), 3) := dX2_countClosed_12_g.2.2.2.2.2.2.2
theorem dX2_countClosed_30_g : (decode cX2_countClosed 30 = .ok (.iload_n 1, 1)) ∧ (decode cX2_countClosed 31 = .ok (.ireturn, 1)) := by decide +kernel
theorem dX2_countClosed_30 : decode cX2_countClosed 30 = .ok (.iload_n 1, 1) := dX2_countClosed_30_g.1
theorem dX2_countClosed_31 : decode cX2_countClosed 31 = .ok (.ireturn, 1) := dX2_countClosed_30_g.2
theorem dX2_greatestSize_0_g : (decode cX2_greatestSize 0 = .ok (.iconst 0, 1)) ∧ (decode cX2_greatestSize 1 = .ok (.istore_n 1, 1)) ∧ (decode cX2_greatestSize 2 = .ok (.iconst 0, 1)) ∧ (decode cX2_greatestSize 3 = .ok (.istore_n 2, 1)) ∧ (decode cX2_greatestSize 4 = .ok (.iload_n 2, 1)) ∧ (decode cX2_greatestSize 5 = .ok (.aload_n 0, 1)) ∧ (decode cX2_greatestSize 6 = .ok (.getfield 81, 3)) ∧ (decode cX2_greatestSize 9 = .ok (.if_icmp .ge 20, 3)) := by decide +kernel
theorem dX2_greatestSize_0 : decode cX2_greatestSize 0 = .ok (.iconst 0, 1) := dX2_greatestSize_0_g.1
theorem dX2_greatestSize_1 : decode cX2_greatestSize 1 = .ok (.istore_n 1, 1) := dX2_greatestSize_0_g.2.1
theorem dX2_greatestSize_2 : decode cX2_greatestSize 2 = .ok (.iconst 0, 1) := dX2_greatestSize_0_g.2.2.1
theorem dX2_greatestSize_3 : decode cX2_greatestSize 3 = .ok (.istore_n 2, 1) := dX2_greatestSize_0_g.2.2.2.1
theorem dX2_greatestSize_4 : decode cX2_greatestSize 4 = .ok (.iload_n 2, 1) := dX2_greatestSize_0_g.2.2.2.2.1
theorem dX2_greatestSize_5 : decode cX2_greatestSize 5 = .ok (.aload_n 0, 1) := dX2_greatestSize_0_g.2.2.2.2.2.1
theorem dX2_greatestSize_6 : decode cX2_greatestSize 6 = .ok (.getfield 81, 3) := dX2_greatestSize_0_g.2.2.2.2.2.2.1
theorem dX2_greatestSize_9 : decode cX2_greatestSize 9 = .ok (.if_icmp .ge 20, 3) := dX2_greatestSize_0_g.2.2.2.2.2.2.2
theorem dX2_greatestSize_12_g : (decode cX2_greatestSize 12 = .ok (.iload_n 1, 1)) ∧ (decode cX2_greatestSize 13 = .ok (.aload_n 0, 1)) ∧ (decode cX2_greatestSize 14 = .ok (.getfield 30, 3)) ∧ (decode cX2_greatestSize 17 = .ok (.iload_n 2, 1)) ∧ (decode cX2_greatestSize 18 = .ok (.iaload, 1)) ∧ (decode cX2_greatestSize 19 = .ok (.invokestatic 109, 3)) ∧ (decode cX2_greatestSize 22 = .ok (.istore_n 1, 1)) ∧ (decode cX2_greatestSize 23 = .ok (.iinc 2 1, 3)) := by decide +kernel
theorem dX2_greatestSize_12 : decode cX2_greatestSize 12 = .ok (.iload_n 1, 1) := dX2_greatestSize_12_g.1
theorem dX2_greatestSize_13 : decode cX2_greatestSize 13 = .ok (.aload_n 0, 1) := dX2_greatestSize_12_g.2.1
theorem dX2_greatestSize_14 : decode cX2_greatestSize 14 = .ok (.getfield 30, 3) := dX2_greatestSize_12_g.2.2.1
theorem dX2_greatestSize_17 : decode cX2_greatestSize 17 = .ok (.iload_n 2, 1) := dX2_greatestSize_12_g.2.2.2.1
theorem dX2_greatestSize_18 : decode cX2_greatestSize 18 = .ok (.iaload, 1) := dX2_greatestSize_12_g.2.2.2.2.1
theorem dX2_greatestSize_19 : decode cX2_greatestSize 19 = .ok (.invokestatic 109, 3) := dX2_greatestSize_12_g.2.2.2.2.2.1
theorem dX2_greatestSize_22 : decode cX2_greatestSize 22 = .ok (.istore_n 1, 1) := dX2_greatestSize_12_g.2.2.2.2.2.2.1
theorem dX2_greatestSize_23 : decode cX2_greatestSize 23 = .ok (.iinc 2 1, 3) := dX2_greatestSize_12_g.2.2.2.2.2.2.2
theorem dX2_greatestSize_26_g : (decode cX2_greatestSize 26 = .ok (.goto (-22), 3)) ∧ (decode cX2_greatestSize 29 = .ok (.iload_n 1, 1)) ∧ (decode cX2_greatestSize 30 = .ok (.ireturn, 1)) := by decide +kernel
theorem dX2_greatestSize_26 : decode cX2_greatestSize 26 = .ok (.goto (-22), 3) := dX2_greatestSize_26_g.1
theorem dX2_greatestSize_29 : decode cX2_greatestSize 29 = .ok (.iload_n 1, 1) := dX2_greatestSize_26_g.2.1
theorem dX2_greatestSize_30 : decode cX2_greatestSize 30 = .ok (.ireturn, 1) := dX2_greatestSize_26_g.2.2
theorem dX3_init_0_g : (decode cX3_init 0 = .ok (.aload_n 0, 1)) ∧ (decode cX3_init 1 = .ok (.invokespecial 3, 3)) ∧ (decode cX3_init 4 = .ok (.aload_n 0, 1)) ∧ (decode cX3_init 5 = .ok (.bipush 7, 2)) ∧ (decode cX3_init 7 = .ok (.newarray .int, 2)) ∧ (decode cX3_init 9 = .ok (.putfield 9, 3)) ∧ (decode cX3_init 12 = .ok (.aload_n 0, 1)) ∧ (decode cX3_init 13 = .ok (.iconst 5, 1)) := by decide +kernel
theorem dX3_init_0 : decode cX3_init 0 = .ok (.aload_n 0, 1) := dX3_init_0_g.1
theorem dX3_init_1 : decode cX3_init 1 = .ok (.invokespecial 3, 3) := dX3_init_0_g.2.1
theorem dX3_init_4 : decode cX3_init 4 = .ok (.aload_n 0, 1) := dX3_init_0_g.2.2.1
theorem dX3_init_5 : decode cX3_init 5 = .ok (.bipush 7, 2) := dX3_init_0_g.2.2.2.1
theorem dX3_init_7 : decode cX3_init 7 = .ok (.newarray .int, 2) := dX3_init_0_g.2.2.2.2.1
theorem dX3_init_9 : decode cX3_init 9 = .ok (.putfield 9, 3) := dX3_init_0_g.2.2.2.2.2.1
theorem dX3_init_12 : decode cX3_init 12 = .ok (.aload_n 0, 1) := dX3_init_0_g.2.2.2.2.2.2.1
theorem dX3_init_13 : decode cX3_init 13 = .ok (.iconst 5, 1) := dX3_init_0_g.2.2.2.2.2.2.2
theorem dX3_init_14_g : (decode cX3_init 14 = .ok (.newarray .int, 2)) ∧ (decode cX3_init 16 = .ok (.putfield 15, 3)) ∧ (decode cX3_init 19 = .ok (.aload_n 0, 1)) ∧ (decode cX3_init 20 = .ok (.iconst 5, 1)) ∧ (decode cX3_init 21 = .ok (.newarray .int, 2)) ∧ (decode cX3_init 23 = .ok (.putfield 18, 3)) ∧ (decode cX3_init 26 = .ok (.aload_n 0, 1)) ∧ (decode cX3_init 27 = .ok (.iconst 5, 1)) := by decide +kernel
theorem dX3_init_14 : decode cX3_init 14 = .ok (.newarray .int, 2) := dX3_init_14_g.1
theorem dX3_init_16 : decode cX3_init 16 = .ok (.putfield 15, 3) := dX3_init_14_g.2.1
theorem dX3_init_19 : decode cX3_init 19 = .ok (.aload_n 0, 1) := dX3_init_14_g.2.2.1
theorem dX3_init_20 : decode cX3_init 20 = .ok (.iconst 5, 1) := dX3_init_14_g.2.2.2.1
theorem dX3_init_21 : decode cX3_init 21 = .ok (.newarray .int, 2) := dX3_init_14_g.2.2.2.2.1
theorem dX3_init_23 : decode cX3_init 23 = .ok (.putfield 18, 3) := dX3_init_14_g.2.2.2.2.2.1
theorem dX3_init_26 : decode cX3_init 26 = .ok (.aload_n 0, 1) := dX3_init_14_g.2.2.2.2.2.2.1
theorem dX3_init_27 : decode cX3_init 27 = .ok (.iconst 5, 1) := dX3_init_14_g.2.2.2.2.2.2.2
theorem dX3_init_28_g : (decode cX3_init 28 = .ok (.newarray .int, 2)) ∧ (decode cX3_init 30 = .ok (.putfield 21, 3)) ∧ (decode cX3_init 33 = .ok (.aload_n 0, 1)) ∧ (decode cX3_init 34 = .ok (.bipush 25, 2)) ∧ (decode cX3_init 36 = .ok (.newarray .int, 2)) ∧ (decode cX3_init 38 = .ok (.putfield 24, 3)) ∧ (decode cX3_init 41 = .ok (.aload_n 0, 1)) ∧ (decode cX3_init 42 = .ok (.bipush 25, 2)) := by decide +kernel
theorem dX3_init_28 : decode cX3_init 28 = .ok (.newarray .int, 2) := dX3_init_28_g.1
theorem dX3_init_30 : decode cX3_init 30 = .ok (.putfield 21, 3) := dX3_init_28_g.2.1
theorem dX3_init_33 : decode cX3_init 33 = .ok (.aload_n 0, 1) := dX3_init_28_g.2.2.1
theorem dX3_init_34 : decode cX3_init 34 = .ok (.bipush 25, 2) := dX3_init_28_g.2.2.2.1
theorem dX3_init_36 : decode cX3_init 36 = .ok (.newarray .int, 2) := dX3_init_28_g.2.2.2.2.1
theorem dX3_init_38 : decode cX3_init 38 = .ok (.putfield 24, 3) := dX3_init_28_g.2.2.2.2.2.1
theorem dX3_init_41 : decode cX3_init 41 = .ok (.aload_n 0, 1) := dX3_init_28_g.2.2.2.2.2.2.1
theorem dX3_init_42 : decode cX3_init 42 = .ok (.bipush 25, 2) := dX3_init_28_g.2.2.2.2.2.2.2
theorem dX3_init_44_g : (decode cX3_init 44 = .ok (.newarray .int, 2)) ∧ (decode cX3_init 46 = .ok (.putfield 27, 3)) ∧ (decode cX3_init 49 = .ok (.aload_n 0, 1)) ∧ (decode cX3_init 50 = .ok (.bipush 25, 2)) ∧ (decode cX3_init 52 = .ok (.newarray .int, 2)) ∧ (decode cX3_init 54 = .ok (.putfield 30, 3)) ∧ (decode cX3_init 57 = .ok (.return_, 1)) := by decide +kernel
theorem dX3_init_44 : decode cX3_init 44 = .ok (.newarray .int, 2) := dX3_init_44_g.1
theorem dX3_init_46 : decode cX3_init 46 = .ok (.putfield 27, 3) := dX3_init_44_g.2.1
theorem dX3_init_49 : decode cX3_init 49 = .ok (.aload_n 0, 1) := dX3_init_44_g.2.2.1
theorem dX3_init_50 : decode cX3_init 50 = .ok (.bipush 25, 2) := dX3_init_44_g.2.2.2.1
theorem dX3_init_52 : decode cX3_init 52 = .ok (.newarray .int, 2) := dX3_init_44_g.2.2.2.2.1
theorem dX3_init_54 : decode cX3_init 54 = .ok (.putfield 30, 3) := dX3_init_44_g.2.2.2.2.2.1
theorem dX3_init_57 : decode cX3_init 57 = .ok (.return_, 1) := dX3_init_44_g.2.2.2.2.2.2
theorem dX3_read_0_g : (decode cX3_read 0 = .ok (.aload_n 0, 1)) ∧ (decode cX3_read 1 = .ok (.iload_n 2, 1)) ∧ (decode cX3_read 2 = .ok (.putfield 33, 3)) ∧ (decode cX3_read 5 = .ok (.aload_n 0, 1)) ∧ (decode cX3_read 6 = .ok (.iconst 1, 1)) ∧ (decode cX3_read 7 = .ok (.putfield 37, 3)) ∧ (decode cX3_read 10 = .ok (.aload_n 0, 1)) ∧ (decode cX3_read 11 = .ok (.getfield 15, 3)) := by decide +kernel
theorem dX3_read_0 : decode cX3_read 0 = .ok (.aload_n 0, 1) := dX3_read_0_g.1
theorem dX3_read_1 : decode cX3_read 1 = .ok (.iload_n 2, 1) := dX3_read_0_g.2.1
theorem dX3_read_2 : decode cX3_read 2 = .ok (.putfield 33, 3) := dX3_read_0_g.2.2.1
theorem dX3_read_5 : decode cX3_read 5 = .ok (.aload_n 0, 1) := dX3_read_0_g.2.2.2.1
theorem dX3_read_6 : decode cX3_read 6 = .ok (.iconst 1, 1) := dX3_read_0_g.2.2.2.2.1
theorem dX3_read_7 : decode cX3_read 7 = .ok (.putfield 37, 3) := dX3_read_0_g.2.2.2.2.2.1
theorem dX3_read_10 : decode cX3_read 10 = .ok (.aload_n 0, 1) := dX3_read_0_g.2.2.2.2.2.2.1
theorem dX3_read_11 : decode cX3_read 11 = .ok (.getfield 15, 3) := dX3_read_0_g.2.2.2.2.2.2.2
theorem dX3_read_14_g : (decode cX3_read 14 = .ok (.iconst (-1), 1)) ∧ (decode cX3_read 15 = .ok (.invokestatic 41, 3)) ∧ (decode cX3_read 18 = .ok (.iload_n 2, 1)) ∧ (decode cX3_read 19 = .ok (.istore_n 3, 1)) ∧ (decode cX3_read 20 = .ok (.aload_n 1, 1)) ∧ (decode cX3_read 21 = .ok (.getfield 47, 3)) ∧ (decode cX3_read 24 = .ok (.iconst 1, 1)) ∧ (decode cX3_read 25 = .ok (.isub, 1)) := by decide +kernel
theorem dX3_read_14 : decode cX3_read 14 = .ok (.iconst (-1), 1) := dX3_read_14_g.1
theorem dX3_read_15 : decode cX3_read 15 = .ok (.invokestatic 41, 3) := dX3_read_14_g.2.1
theorem dX3_read_18 : decode cX3_read 18 = .ok (.iload_n 2, 1) := dX3_read_14_g.2.2.1
theorem dX3_read_19 : decode cX3_read 19 = .ok (.istore_n 3, 1) := dX3_read_14_g.2.2.2.1
theorem dX3_read_20 : decode cX3_read 20 = .ok (.aload_n 1, 1) := dX3_read_14_g.2.2.2.2.1
theorem dX3_read_21 : decode cX3_read 21 = .ok (.getfield 47, 3) := dX3_read_14_g.2.2.2.2.2.1
theorem dX3_read_24 : decode cX3_read 24 = .ok (.iconst 1, 1) := dX3_read_14_g.2.2.2.2.2.2.1
theorem dX3_read_25 : decode cX3_read 25 = .ok (.isub, 1) := dX3_read_14_g.2.2.2.2.2.2.2
theorem dX3_read_26_g : (decode cX3_read 26 = .ok (.istore 4, 2)) ∧ (decode cX3_read 28 = .ok (.iload 4, 2)) ∧ (decode cX3_read 30 = .ok (.ifCond .lt 67, 3)) ∧ (decode cX3_read 33 = .ok (.aload_n 1, 1)) ∧ (decode cX3_read 34 = .ok (.getfield 52, 3)) ∧ (decode cX3_read 37 = .ok (.iload 4, 2)) ∧ (decode cX3_read 39 = .ok (.iaload, 1)) ∧ (decode cX3_read 40 = .ok (.istore 5, 2)) := by decide +kernel
theorem dX3_read_26 : decode cX3_read 26 = .ok (.istore 4, 2) := dX3_read_26_g.1
theorem dX3_read_28 : decode cX3_read 28 = .ok (.iload 4, 2) := dX3_read_26_g.2.1
theorem dX3_read_30 : decode cX3_read 30 = .ok (.ifCond .lt 67, 3) := dX3_read_26_g.2.2.1
theorem dX3_read_33 : decode cX3_read 33 = .ok (.aload_n 1, 1) := dX3_read_26_g.2.2.2.1
theorem dX3_read_34 : decode cX3_read 34 = .ok (.getfield 52, 3) := dX3_read_26_g.2.2.2.2.1
theorem dX3_read_37 : decode cX3_read 37 = .ok (.iload 4, 2) := dX3_read_26_g.2.2.2.2.2.1
theorem dX3_read_39 : decode cX3_read 39 = .ok (.iaload, 1) := dX3_read_26_g.2.2.2.2.2.2.1
theorem dX3_read_40 : decode cX3_read 40 = .ok (.istore 5, 2) := dX3_read_26_g.2.2.2.2.2.2.2
theorem dX3_read_42_g : (decode cX3_read 42 = .ok (.iconst 0, 1)) ∧ (decode cX3_read 43 = .ok (.istore 6, 2)) ∧ (decode cX3_read 45 = .ok (.iload 6, 2)) ∧ (decode cX3_read 47 = .ok (.aload_n 1, 1)) ∧ (decode cX3_read 48 = .ok (.getfield 55, 3)) ∧ (decode cX3_read 51 = .ok (.iconst 1, 1)) ∧ (decode cX3_read 52 = .ok (.isub, 1)) ∧ (decode cX3_read 53 = .ok (.if_icmp .ge 20, 3)) := by decide +kernel
theorem dX3_read_42 : decode cX3_read 42 = .ok (.iconst 0, 1) := dX3_read_42_g.1
theorem dX3_read_43 : decode cX3_read 43 = .ok (.istore 6, 2) := dX3_read_42_g.2.1
theorem dX3_read_45 : decode cX3_read 45 = .ok (.iload 6, 2) := dX3_read_42_g.2.2.1
theorem dX3_read_47 : decode cX3_read 47 = .ok (.aload_n 1, 1) := dX3_read_42_g.2.2.2.1
theorem dX3_read_48 : decode cX3_read 48 = .ok (.getfield 55, 3) := dX3_read_42_g.2.2.2.2.1
theorem dX3_read_51 : decode cX3_read 51 = .ok (.iconst 1, 1) := dX3_read_42_g.2.2.2.2.2.1
theorem dX3_read_52 : decode cX3_read 52 = .ok (.isub, 1) := dX3_read_42_g.2.2.2.2.2.2.1
theorem dX3_read_53 : decode cX3_read 53 = .ok (.if_icmp .ge 20, 3) := dX3_read_42_g.2.2.2.2.2.2.2
theorem dX3_read_56_g : (decode cX3_read 56 = .ok (.iload_n 3, 1)) ∧ (decode cX3_read 57 = .ok (.iload 5, 2)) ∧ (decode cX3_read 59 = .ok (.if_icmp .lt 14, 3)) ∧ (decode cX3_read 62 = .ok (.iload_n 3, 1)) ∧ (decode cX3_read 63 = .ok (.iload 5, 2)) ∧ (decode cX3_read 65 = .ok (.isub, 1)) ∧ (decode cX3_read 66 = .ok (.istore_n 3, 1)) ∧ (decode cX3_read 67 = .ok (.iinc 6 1, 3)) := by decide +kernel
theorem dX3_read_56 : decode cX3_read 56 = .ok (.iload_n 3, 1) := dX3_read_56_g.1
theorem dX3_read_57 : decode cX3_read 57 = .ok (.iload 5, 2) := dX3_read_56_g.2.1
theorem dX3_read_59 : decode cX3_read 59 = .ok (.if_icmp .lt 14, 3) := dX3_read_56_g.2.2.1
theorem dX3_read_62 : decode cX3_read 62 = .ok (.iload_n 3, 1) := dX3_read_56_g.2.2.2.1
theorem dX3_read_63 : decode cX3_read 63 = .ok (.iload 5, 2) := dX3_read_56_g.2.2.2.2.1
theorem dX3_read_65 : decode cX3_read 65 = .ok (.isub, 1) := dX3_read_56_g.2.2.2.2.2.1
theorem dX3_read_66 : decode cX3_read 66 = .ok (.istore_n 3, 1) := dX3_read_56_g.2.2.2.2.2.2.1
theorem dX3_read_67 : decode cX3_read 67 = .ok (.iinc 6 1, 3) := dX3_read_56_g.2.2.2.2.2.2.2
theorem dX3_read_70_g : (decode cX3_read 70 = .ok (.goto (-25), 3)) ∧ (decode cX3_read 73 = .ok (.aload_n 0, 1)) ∧ (decode cX3_read 74 = .ok (.getfield 9, 3)) ∧ (decode cX3_read 77 = .ok (.iload 4, 2)) ∧ (decode cX3_read 79 = .ok (.iload 6, 2)) ∧ (decode cX3_read 81 = .ok (.iastore, 1)) ∧ (decode cX3_read 82 = .ok (.aload_n 0, 1)) ∧ (decode cX3_read 83 = .ok (.aload_n 1, 1)) := by decide +kernel
theorem dX3_read_70 : decode cX3_read 70 = .ok (.goto (-25), 3) := dX3_read_70_g.1
theorem dX3_read_73 : decode cX3_read 73 = .ok (.aload_n 0, 1) := dX3_read_70_g.2.1
theorem dX3_read_74 : decode cX3_read 74 = .ok (.getfield 9, 3) := dX3_read_70_g.2.2.1
theorem dX3_read_77 : decode cX3_read 77 = .ok (.iload 4, 2) := dX3_read_70_g.2.2.2.1
theorem dX3_read_79 : decode cX3_read 79 = .ok (.iload 6, 2) := dX3_read_70_g.2.2.2.2.1
theorem dX3_read_81 : decode cX3_read 81 = .ok (.iastore, 1) := dX3_read_70_g.2.2.2.2.2.1
theorem dX3_read_82 : decode cX3_read 82 = .ok (.aload_n 0, 1) := dX3_read_70_g.2.2.2.2.2.2.1
theorem dX3_read_83 : decode cX3_read 83 = .ok (.aload_n 1, 1) := dX3_read_70_g.2.2.2.2.2.2.2
theorem dX3_read_84_g : (decode cX3_read 84 = .ok (.iload 4, 2)) ∧ (decode cX3_read 86 = .ok (.iload 6, 2)) ∧ (decode cX3_read 88 = .ok (.invokevirtual 58, 3)) ∧ (decode cX3_read 91 = .ok (.iinc 4 (-1), 3)) ∧ (decode cX3_read 94 = .ok (.goto (-66), 3)) ∧ (decode cX3_read 97 = .ok (.return_, 1)) := by decide +kernel
theorem dX3_read_84 : decode cX3_read 84 = .ok (.iload 4, 2) := dX3_read_84_g.1
theorem dX3_read_86 : decode cX3_read 86 = .ok (.iload 6, 2) := dX3_read_84_g.2.1
theorem dX3_read_88 : decode cX3_read 88 = .ok (.invokevirtual 58, 3) := dX3_read_84_g.2.2.1
theorem dX3_read_91 : decode cX3_read 91 = .ok (.iinc 4 (-1), 3) := dX3_read_84_g.2.2.2.1
theorem dX3_read_94 : decode cX3_read 94 = .ok (.goto (-66), 3) := dX3_read_84_g.2.2.2.2.1
theorem dX3_read_97 : decode cX3_read 97 = .ok (.return_, 1) := dX3_read_84_g.2.2.2.2.2
theorem dX3_lay_0_g : (decode cX3_lay 0 = .ok (.aload_n 1, 1)) ∧ (decode cX3_lay 1 = .ok (.getfield 62, 3)) ∧ (decode cX3_lay 4 = .ok (.iload_n 2, 1)) ∧ (decode cX3_lay 5 = .ok (.iaload, 1)) ∧ (decode cX3_lay 6 = .ok (.istore 4, 2)) ∧ (decode cX3_lay 8 = .ok (.aload_n 0, 1)) ∧ (decode cX3_lay 9 = .ok (.getfield 15, 3)) ∧ (decode cX3_lay 12 = .ok (.iload_n 3, 1)) := by decide +kernel
theorem dX3_lay_0 : decode cX3_lay 0 = .ok (.aload_n 1, 1) := dX3_lay_0_g.1
theorem dX3_lay_1 : decode cX3_lay 1 = .ok (.getfield 62, 3) := dX3_lay_0_g.2.1
theorem dX3_lay_4 : decode cX3_lay 4 = .ok (.iload_n 2, 1) := dX3_lay_0_g.2.2.1
theorem dX3_lay_5 : decode cX3_lay 5 = .ok (.iaload, 1) := dX3_lay_0_g.2.2.2.1
theorem dX3_lay_6 : decode cX3_lay 6 = .ok (.istore 4, 2) := dX3_lay_0_g.2.2.2.2.1
theorem dX3_lay_8 : decode cX3_lay 8 = .ok (.aload_n 0, 1) := dX3_lay_0_g.2.2.2.2.2.1
theorem dX3_lay_9 : decode cX3_lay 9 = .ok (.getfield 15, 3) := dX3_lay_0_g.2.2.2.2.2.2.1
theorem dX3_lay_12 : decode cX3_lay 12 = .ok (.iload_n 3, 1) := dX3_lay_0_g.2.2.2.2.2.2.2
theorem dX3_lay_13_g : (decode cX3_lay 13 = .ok (.iaload, 1)) ∧ (decode cX3_lay 14 = .ok (.istore 5, 2)) ∧ (decode cX3_lay 16 = .ok (.iload 5, 2)) ∧ (decode cX3_lay 18 = .ok (.iconst (-1), 1)) ∧ (decode cX3_lay 19 = .ok (.if_icmp .ne 7, 3)) ∧ (decode cX3_lay 22 = .ok (.iconst 0, 1)) ∧ (decode cX3_lay 23 = .ok (.goto 10, 3)) ∧ (decode cX3_lay 26 = .ok (.aload_n 1, 1)) := by decide +kernel
theorem dX3_lay_13 : decode cX3_lay 13 = .ok (.iaload, 1) := dX3_lay_13_g.1
theorem dX3_lay_14 : decode cX3_lay 14 = .ok (.istore 5, 2) := dX3_lay_13_g.2.1
theorem dX3_lay_16 : decode cX3_lay 16 = .ok (.iload 5, 2) := dX3_lay_13_g.2.2.1
theorem dX3_lay_18 : decode cX3_lay 18 = .ok (.iconst (-1), 1) := dX3_lay_13_g.2.2.2.1
theorem dX3_lay_19 : decode cX3_lay 19 = .ok (.if_icmp .ne 7, 3) := dX3_lay_13_g.2.2.2.2.1
theorem dX3_lay_22 : decode cX3_lay 22 = .ok (.iconst 0, 1) := dX3_lay_13_g.2.2.2.2.2.1
theorem dX3_lay_23 : decode cX3_lay 23 = .ok (.goto 10, 3) := dX3_lay_13_g.2.2.2.2.2.2.1
theorem dX3_lay_26 : decode cX3_lay 26 = .ok (.aload_n 1, 1) := dX3_lay_13_g.2.2.2.2.2.2.2
theorem dX3_lay_27_g : (decode cX3_lay 27 = .ok (.getfield 62, 3)) ∧ (decode cX3_lay 30 = .ok (.iload 5, 2)) ∧ (decode cX3_lay 32 = .ok (.iaload, 1)) ∧ (decode cX3_lay 33 = .ok (.istore 6, 2)) ∧ (decode cX3_lay 35 = .ok (.iload 5, 2)) ∧ (decode cX3_lay 37 = .ok (.iload_n 2, 1)) ∧ (decode cX3_lay 38 = .ok (.iconst 1, 1)) ∧ (decode cX3_lay 39 = .ok (.iadd, 1)) := by decide +kernel
theorem dX3_lay_27 : decode cX3_lay 27 = .ok (.getfield 62, 3) := dX3_lay_27_g.1
theorem dX3_lay_30 : decode cX3_lay 30 = .ok (.iload 5, 2) := dX3_lay_27_g.2.1
theorem dX3_lay_32 : decode cX3_lay 32 = .ok (.iaload, 1) := dX3_lay_27_g.2.2.1
theorem dX3_lay_33 : decode cX3_lay 33 = .ok (.istore 6, 2) := dX3_lay_27_g.2.2.2.1
theorem dX3_lay_35 : decode cX3_lay 35 = .ok (.iload 5, 2) := dX3_lay_27_g.2.2.2.2.1
theorem dX3_lay_37 : decode cX3_lay 37 = .ok (.iload_n 2, 1) := dX3_lay_27_g.2.2.2.2.2.1
theorem dX3_lay_38 : decode cX3_lay 38 = .ok (.iconst 1, 1) := dX3_lay_27_g.2.2.2.2.2.2.1
theorem dX3_lay_39 : decode cX3_lay 39 = .ok (.iadd, 1) := dX3_lay_27_g.2.2.2.2.2.2.2
theorem dX3_lay_40_g : (decode cX3_lay 40 = .ok (.if_icmp .ne 33, 3)) ∧ (decode cX3_lay 43 = .ok (.iload 4, 2)) ∧ (decode cX3_lay 45 = .ok (.iconst 3, 1)) ∧ (decode cX3_lay 46 = .ok (.if_icmp .ne 27, 3)) ∧ (decode cX3_lay 49 = .ok (.iload 6, 2)) ∧ (decode cX3_lay 51 = .ok (.iconst 3, 1)) ∧ (decode cX3_lay 52 = .ok (.if_icmp .ne 21, 3)) ∧ (decode cX3_lay 55 = .ok (.aload_n 0, 1)) := by decide +kernel
theorem dX3_lay_40 : decode cX3_lay 40 = .ok (.if_icmp .ne 33, 3) := dX3_lay_40_g.1
theorem dX3_lay_43 : decode cX3_lay 43 = .ok (.iload 4, 2) := dX3_lay_40_g.2.1
theorem dX3_lay_45 : decode cX3_lay 45 = .ok (.iconst 3, 1) := dX3_lay_40_g.2.2.1
theorem dX3_lay_46 : decode cX3_lay 46 = .ok (.if_icmp .ne 27, 3) := dX3_lay_40_g.2.2.2.1
theorem dX3_lay_49 : decode cX3_lay 49 = .ok (.iload 6, 2) := dX3_lay_40_g.2.2.2.2.1
theorem dX3_lay_51 : decode cX3_lay 51 = .ok (.iconst 3, 1) := dX3_lay_40_g.2.2.2.2.2.1
theorem dX3_lay_52 : decode cX3_lay 52 = .ok (.if_icmp .ne 21, 3) := dX3_lay_40_g.2.2.2.2.2.2.1
theorem dX3_lay_55 : decode cX3_lay 55 = .ok (.aload_n 0, 1) := dX3_lay_40_g.2.2.2.2.2.2.2
theorem dX3_lay_56_g : (decode cX3_lay 56 = .ok (.getfield 21, 3)) ∧ (decode cX3_lay 59 = .ok (.iload_n 3, 1)) ∧ (decode cX3_lay 60 = .ok (.dup2, 1)) ∧ (decode cX3_lay 61 = .ok (.iaload, 1)) ∧ (decode cX3_lay 62 = .ok (.aload_n 1, 1)) ∧ (decode cX3_lay 63 = .ok (.getfield 52, 3)) ∧ (decode cX3_lay 66 = .ok (.iload_n 2, 1)) ∧ (decode cX3_lay 67 = .ok (.iaload, 1)) := by decide +kernel
theorem dX3_lay_56 : decode cX3_lay 56 = .ok (.getfield 21, 3) := dX3_lay_56_g.1
theorem dX3_lay_59 : decode cX3_lay 59 = .ok (.iload_n 3, 1) := dX3_lay_56_g.2.1
theorem dX3_lay_60 : decode cX3_lay 60 = .ok (.dup2, 1) := dX3_lay_56_g.2.2.1
theorem dX3_lay_61 : decode cX3_lay 61 = .ok (.iaload, 1) := dX3_lay_56_g.2.2.2.1
theorem dX3_lay_62 : decode cX3_lay 62 = .ok (.aload_n 1, 1) := dX3_lay_56_g.2.2.2.2.1
theorem dX3_lay_63 : decode cX3_lay 63 = .ok (.getfield 52, 3) := dX3_lay_56_g.2.2.2.2.2.1
theorem dX3_lay_66 : decode cX3_lay 66 = .ok (.iload_n 2, 1) := dX3_lay_56_g.2.2.2.2.2.2.1
theorem dX3_lay_67 : decode cX3_lay 67 = .ok (.iaload, 1) := dX3_lay_56_g.2.2.2.2.2.2.2
theorem dX3_lay_68_g : (decode cX3_lay 68 = .ok (.iadd, 1)) ∧ (decode cX3_lay 69 = .ok (.iastore, 1)) ∧ (decode cX3_lay 70 = .ok (.goto 22, 3)) ∧ (decode cX3_lay 73 = .ok (.aload_n 0, 1)) ∧ (decode cX3_lay 74 = .ok (.getfield 18, 3)) ∧ (decode cX3_lay 77 = .ok (.iload_n 3, 1)) ∧ (decode cX3_lay 78 = .ok (.iload_n 2, 1)) ∧ (decode cX3_lay 79 = .ok (.iastore, 1)) := by decide +kernel
theorem dX3_lay_68 : decode cX3_lay 68 = .ok (.iadd, 1) := dX3_lay_68_g.1
theorem dX3_lay_69 : decode cX3_lay 69 = .ok (.iastore, 1) := dX3_lay_68_g.2.1
theorem dX3_lay_70 : decode cX3_lay 70 = .ok (.goto 22, 3) := dX3_lay_68_g.2.2.1
theorem dX3_lay_73 : decode cX3_lay 73 = .ok (.aload_n 0, 1) := dX3_lay_68_g.2.2.2.1
theorem dX3_lay_74 : decode cX3_lay 74 = .ok (.getfield 18, 3) := dX3_lay_68_g.2.2.2.2.1
theorem dX3_lay_77 : decode cX3_lay 77 = .ok (.iload_n 3, 1) := dX3_lay_68_g.2.2.2.2.2.1
theorem dX3_lay_78 : decode cX3_lay 78 = .ok (.iload_n 2, 1) := dX3_lay_68_g.2.2.2.2.2.2.1
theorem dX3_lay_79 : decode cX3_lay 79 = .ok (.iastore, 1) := dX3_lay_68_g.2.2.2.2.2.2.2
theorem dX3_lay_80_g : (decode cX3_lay 80 = .ok (.aload_n 0, 1)) ∧ (decode cX3_lay 81 = .ok (.getfield 21, 3)) ∧ (decode cX3_lay 84 = .ok (.iload_n 3, 1)) ∧ (decode cX3_lay 85 = .ok (.aload_n 1, 1)) ∧ (decode cX3_lay 86 = .ok (.getfield 52, 3)) ∧ (decode cX3_lay 89 = .ok (.iload_n 2, 1)) ∧ (decode cX3_lay 90 = .ok (.iaload, 1)) ∧ (decode cX3_lay 91 = .ok (.iastore, 1)) := by decide +kernel
theorem dX3_lay_80 : decode cX3_lay 80 = .ok (.aload_n 0, 1) := dX3_lay_80_g.1
theorem dX3_lay_81 : decode cX3_lay 81 = .ok (.getfield 21, 3) := dX3_lay_80_g.2.1
theorem dX3_lay_84 : decode cX3_lay 84 = .ok (.iload_n 3, 1) := dX3_lay_80_g.2.2.1
theorem dX3_lay_85 : decode cX3_lay 85 = .ok (.aload_n 1, 1) := dX3_lay_80_g.2.2.2.1
theorem dX3_lay_86 : decode cX3_lay 86 = .ok (.getfield 52, 3) := dX3_lay_80_g.2.2.2.2.1
theorem dX3_lay_89 : decode cX3_lay 89 = .ok (.iload_n 2, 1) := dX3_lay_80_g.2.2.2.2.2.1
theorem dX3_lay_90 : decode cX3_lay 90 = .ok (.iaload, 1) := dX3_lay_80_g.2.2.2.2.2.2.1
theorem dX3_lay_91 : decode cX3_lay 91 = .ok (.iastore, 1) := dX3_lay_80_g.2.2.2.2.2.2.2
theorem dX3_lay_92_g : (decode cX3_lay 92 = .ok (.iload 6, 2)) ∧ (decode cX3_lay 94 = .ok (.iconst 2, 1)) ∧ (decode cX3_lay 95 = .ok (.if_icmp .ne 14, 3)) ∧ (decode cX3_lay 98 = .ok (.iload 4, 2)) ∧ (decode cX3_lay 100 = .ok (.iconst 2, 1)) ∧ (decode cX3_lay 101 = .ok (.if_icmp .eq 8, 3)) ∧ (decode cX3_lay 104 = .ok (.aload_n 0, 1)) ∧ (decode cX3_lay 105 = .ok (.iconst 0, 1)) := by decide +kernel
theorem dX3_lay_92 : decode cX3_lay 92 = .ok (.iload 6, 2) := dX3_lay_92_g.1
theorem dX3_lay_94 : decode cX3_lay 94 = .ok (.iconst 2, 1) := dX3_lay_92_g.2.1
theorem dX3_lay_95 : decode cX3_lay 95 = .ok (.if_icmp .ne 14, 3) := dX3_lay_92_g.2.2.1
theorem dX3_lay_98 : decode cX3_lay 98 = .ok (.iload 4, 2) := dX3_lay_92_g.2.2.2.1
theorem dX3_lay_100 : decode cX3_lay 100 = .ok (.iconst 2, 1) := dX3_lay_92_g.2.2.2.2.1
theorem dX3_lay_101 : decode cX3_lay 101 = .ok (.if_icmp .eq 8, 3) := dX3_lay_92_g.2.2.2.2.2.1
theorem dX3_lay_104 : decode cX3_lay 104 = .ok (.aload_n 0, 1) := dX3_lay_92_g.2.2.2.2.2.2.1
theorem dX3_lay_105 : decode cX3_lay 105 = .ok (.iconst 0, 1) := dX3_lay_92_g.2.2.2.2.2.2.2
theorem dX3_lay_106_g : (decode cX3_lay 106 = .ok (.putfield 37, 3)) ∧ (decode cX3_lay 109 = .ok (.aload_n 0, 1)) ∧ (decode cX3_lay 110 = .ok (.getfield 15, 3)) ∧ (decode cX3_lay 113 = .ok (.iload_n 3, 1)) ∧ (decode cX3_lay 114 = .ok (.iload_n 2, 1)) ∧ (decode cX3_lay 115 = .ok (.iastore, 1)) ∧ (decode cX3_lay 116 = .ok (.return_, 1)) := by decide +kernel
theorem dX3_lay_106 : decode cX3_lay 106 = .ok (.putfield 37, 3) := dX3_lay_106_g.1
theorem dX3_lay_109 : decode cX3_lay 109 = .ok (.aload_n 0, 1) := dX3_lay_106_g.2.1
theorem dX3_lay_110 : decode cX3_lay 110 = .ok (.getfield 15, 3) := dX3_lay_106_g.2.2.1
theorem dX3_lay_113 : decode cX3_lay 113 = .ok (.iload_n 3, 1) := dX3_lay_106_g.2.2.2.1
theorem dX3_lay_114 : decode cX3_lay 114 = .ok (.iload_n 2, 1) := dX3_lay_106_g.2.2.2.2.1
theorem dX3_lay_115 : decode cX3_lay 115 = .ok (.iastore, 1) := dX3_lay_106_g.2.2.2.2.2.1
theorem dX3_lay_116 : decode cX3_lay 116 = .ok (.return_, 1) := dX3_lay_106_g.2.2.2.2.2.2
theorem dX3_hindrance_0_g : (decode cX3_hindrance 0 = .ok (.aload_n 1, 1)) ∧ (decode cX3_hindrance 1 = .ok (.getfield 65, 3)) ∧ (decode cX3_hindrance 4 = .ok (.iload_n 2, 1)) ∧ (decode cX3_hindrance 5 = .ok (.iconst 5, 1)) ∧ (decode cX3_hindrance 6 = .ok (.imul, 1)) ∧ (decode cX3_hindrance 7 = .ok (.iload_n 3, 1)) ∧ (decode cX3_hindrance 8 = .ok (.iadd, 1)) ∧ (decode cX3_hindrance 9 = .ok (.iaload, 1)) := by decide +kernel
theorem dX3_hindrance_0 : decode cX3_hindrance 0 = .ok (.aload_n 1, 1) := dX3_hindrance_0_g.1
theorem dX3_hindrance_1 : decode cX3_hindrance 1 = .ok (.getfield 65, 3) := dX3_hindrance_0_g.2.1
theorem dX3_hindrance_4 : decode cX3_hindrance 4 = .ok (.iload_n 2, 1) := dX3_hindrance_0_g.2.2.1
theorem dX3_hindrance_5 : decode cX3_hindrance 5 = .ok (.iconst 5, 1) := dX3_hindrance_0_g.2.2.2.1
theorem dX3_hindrance_6 : decode cX3_hindrance 6 = .ok (.imul, 1) := dX3_hindrance_0_g.2.2.2.2.1
theorem dX3_hindrance_7 : decode cX3_hindrance 7 = .ok (.iload_n 3, 1) := dX3_hindrance_0_g.2.2.2.2.2.1
theorem dX3_hindrance_8 : decode cX3_hindrance 8 = .ok (.iadd, 1) := dX3_hindrance_0_g.2.2.2.2.2.2.1
theorem dX3_hindrance_9 : decode cX3_hindrance 9 = .ok (.iaload, 1) := dX3_hindrance_0_g.2.2.2.2.2.2.2
theorem dX3_hindrance_10_g : (decode cX3_hindrance 10 = .ok (.ifCond .ne 5, 3)) ∧ (decode cX3_hindrance 13 = .ok (.iconst 1, 1)) ∧ (decode cX3_hindrance 14 = .ok (.ireturn, 1)) ∧ (decode cX3_hindrance 15 = .ok (.aload_n 0, 1)) ∧ (decode cX3_hindrance 16 = .ok (.getfield 15, 3)) ∧ (decode cX3_hindrance 19 = .ok (.iload_n 2, 1)) ∧ (decode cX3_hindrance 20 = .ok (.iaload, 1)) ∧ (decode cX3_hindrance 21 = .ok (.iconst (-1), 1)) := by decide +kernel
theorem dX3_hindrance_10 : decode cX3_hindrance 10 = .ok (.ifCond .ne 5, 3) := dX3_hindrance_10_g.1
theorem dX3_hindrance_13 : decode cX3_hindrance 13 = .ok (.iconst 1, 1) := dX3_hindrance_10_g.2.1
theorem dX3_hindrance_14 : decode cX3_hindrance 14 = .ok (.ireturn, 1) := dX3_hindrance_10_g.2.2.1
theorem dX3_hindrance_15 : decode cX3_hindrance 15 = .ok (.aload_n 0, 1) := dX3_hindrance_10_g.2.2.2.1
theorem dX3_hindrance_16 : decode cX3_hindrance 16 = .ok (.getfield 15, 3) := dX3_hindrance_10_g.2.2.2.2.1
theorem dX3_hindrance_19 : decode cX3_hindrance 19 = .ok (.iload_n 2, 1) := dX3_hindrance_10_g.2.2.2.2.2.1
theorem dX3_hindrance_20 : decode cX3_hindrance 20 = .ok (.iaload, 1) := dX3_hindrance_10_g.2.2.2.2.2.2.1
theorem dX3_hindrance_21 : decode cX3_hindrance 21 = .ok (.iconst (-1), 1) := dX3_hindrance_10_g.2.2.2.2.2.2.2
theorem dX3_hindrance_22_g : (decode cX3_hindrance 22 = .ok (.if_icmp .ne 5, 3)) ∧ (decode cX3_hindrance 25 = .ok (.iconst 2, 1)) ∧ (decode cX3_hindrance 26 = .ok (.ireturn, 1)) ∧ (decode cX3_hindrance 27 = .ok (.aload_n 1, 1)) ∧ (decode cX3_hindrance 28 = .ok (.getfield 62, 3)) ∧ (decode cX3_hindrance 31 = .ok (.aload_n 0, 1)) ∧ (decode cX3_hindrance 32 = .ok (.getfield 18, 3)) ∧ (decode cX3_hindrance 35 = .ok (.iload_n 2, 1)) := by decide +kernel
theorem dX3_hindrance_22 : decode cX3_hindrance 22 = .ok (.if_icmp .ne 5, 3) := dX3_hindrance_22_g.1
theorem dX3_hindrance_25 : decode cX3_hindrance 25 = .ok (.iconst 2, 1) := dX3_hindrance_22_g.2.1
theorem dX3_hindrance_26 : decode cX3_hindrance 26 = .ok (.ireturn, 1) := dX3_hindrance_22_g.2.2.1
theorem dX3_hindrance_27 : decode cX3_hindrance 27 = .ok (.aload_n 1, 1) := dX3_hindrance_22_g.2.2.2.1
theorem dX3_hindrance_28 : decode cX3_hindrance 28 = .ok (.getfield 62, 3) := dX3_hindrance_22_g.2.2.2.2.1
theorem dX3_hindrance_31 : decode cX3_hindrance 31 = .ok (.aload_n 0, 1) := dX3_hindrance_22_g.2.2.2.2.2.1
theorem dX3_hindrance_32 : decode cX3_hindrance 32 = .ok (.getfield 18, 3) := dX3_hindrance_22_g.2.2.2.2.2.2.1
theorem dX3_hindrance_35 : decode cX3_hindrance 35 = .ok (.iload_n 2, 1) := dX3_hindrance_22_g.2.2.2.2.2.2.2
theorem dX3_hindrance_36_g : (decode cX3_hindrance 36 = .ok (.iaload, 1)) ∧ (decode cX3_hindrance 37 = .ok (.iaload, 1)) ∧ (decode cX3_hindrance 38 = .ok (.istore 4, 2)) ∧ (decode cX3_hindrance 40 = .ok (.iload 4, 2)) ∧ (decode cX3_hindrance 42 = .ok (.iconst 1, 1)) ∧ (decode cX3_hindrance 43 = .ok (.if_icmp .eq 9, 3)) ∧ (decode cX3_hindrance 46 = .ok (.iload 4, 2)) ∧ (decode cX3_hindrance 48 = .ok (.iconst 2, 1)) := by decide +kernel
theorem dX3_hindrance_36 : decode cX3_hindrance 36 = .ok (.iaload, 1) := dX3_hindrance_36_g.1
theorem dX3_hindrance_37 : decode cX3_hindrance 37 = .ok (.iaload, 1) := dX3_hindrance_36_g.2.1
theorem dX3_hindrance_38 : decode cX3_hindrance 38 = .ok (.istore 4, 2) := dX3_hindrance_36_g.2.2.1
theorem dX3_hindrance_40 : decode cX3_hindrance 40 = .ok (.iload 4, 2) := dX3_hindrance_36_g.2.2.2.1
theorem dX3_hindrance_42 : decode cX3_hindrance 42 = .ok (.iconst 1, 1) := dX3_hindrance_36_g.2.2.2.2.1
theorem dX3_hindrance_43 : decode cX3_hindrance 43 = .ok (.if_icmp .eq 9, 3) := dX3_hindrance_36_g.2.2.2.2.2.1
theorem dX3_hindrance_46 : decode cX3_hindrance 46 = .ok (.iload 4, 2) := dX3_hindrance_36_g.2.2.2.2.2.2.1
theorem dX3_hindrance_48 : decode cX3_hindrance 48 = .ok (.iconst 2, 1) := dX3_hindrance_36_g.2.2.2.2.2.2.2
theorem dX3_hindrance_49_g : (decode cX3_hindrance 49 = .ok (.if_icmp .ne 18, 3)) ∧ (decode cX3_hindrance 52 = .ok (.aload_n 1, 1)) ∧ (decode cX3_hindrance 53 = .ok (.getfield 68, 3)) ∧ (decode cX3_hindrance 56 = .ok (.iload_n 2, 1)) ∧ (decode cX3_hindrance 57 = .ok (.iconst 5, 1)) ∧ (decode cX3_hindrance 58 = .ok (.imul, 1)) ∧ (decode cX3_hindrance 59 = .ok (.iload_n 3, 1)) ∧ (decode cX3_hindrance 60 = .ok (.iadd, 1)) := by decide +kernel
theorem dX3_hindrance_49 : decode cX3_hindrance 49 = .ok (.if_icmp .ne 18, 3) := dX3_hindrance_49_g.1
theorem dX3_hindrance_52 : decode cX3_hindrance 52 = .ok (.aload_n 1, 1) := dX3_hindrance_49_g.2.1
theorem dX3_hindrance_53 : decode cX3_hindrance 53 = .ok (.getfield 68, 3) := dX3_hindrance_49_g.2.2.1
theorem dX3_hindrance_56 : decode cX3_hindrance 56 = .ok (.iload_n 2, 1) := dX3_hindrance_49_g.2.2.2.1
theorem dX3_hindrance_57 : decode cX3_hindrance 57 = .ok (.iconst 5, 1) := dX3_hindrance_49_g.2.2.2.2.1
theorem dX3_hindrance_58 : decode cX3_hindrance 58 = .ok (.imul, 1) := dX3_hindrance_49_g.2.2.2.2.2.1
theorem dX3_hindrance_59 : decode cX3_hindrance 59 = .ok (.iload_n 3, 1) := dX3_hindrance_49_g.2.2.2.2.2.2.1
theorem dX3_hindrance_60 : decode cX3_hindrance 60 = .ok (.iadd, 1) := dX3_hindrance_49_g.2.2.2.2.2.2.2
theorem dX3_hindrance_61_g : (decode cX3_hindrance 61 = .ok (.baload, 1)) ∧ (decode cX3_hindrance 62 = .ok (.ifCond .ne 5, 3)) ∧ (decode cX3_hindrance 65 = .ok (.iconst 3, 1)) ∧ (decode cX3_hindrance 66 = .ok (.ireturn, 1)) ∧ (decode cX3_hindrance 67 = .ok (.aload_n 0, 1)) ∧ (decode cX3_hindrance 68 = .ok (.getfield 15, 3)) ∧ (decode cX3_hindrance 71 = .ok (.iload_n 3, 1)) ∧ (decode cX3_hindrance 72 = .ok (.iaload, 1)) := by decide +kernel
theorem dX3_hindrance_61 : decode cX3_hindrance 61 = .ok (.baload, 1) := dX3_hindrance_61_g.1
theorem dX3_hindrance_62 : decode cX3_hindrance 62 = .ok (.ifCond .ne 5, 3) := dX3_hindrance_61_g.2.1
theorem dX3_hindrance_65 : decode cX3_hindrance 65 = .ok (.iconst 3, 1) := dX3_hindrance_61_g.2.2.1
theorem dX3_hindrance_66 : decode cX3_hindrance 66 = .ok (.ireturn, 1) := dX3_hindrance_61_g.2.2.2.1
theorem dX3_hindrance_67 : decode cX3_hindrance 67 = .ok (.aload_n 0, 1) := dX3_hindrance_61_g.2.2.2.2.1
theorem dX3_hindrance_68 : decode cX3_hindrance 68 = .ok (.getfield 15, 3) := dX3_hindrance_61_g.2.2.2.2.2.1
theorem dX3_hindrance_71 : decode cX3_hindrance 71 = .ok (.iload_n 3, 1) := dX3_hindrance_61_g.2.2.2.2.2.2.1
theorem dX3_hindrance_72 : decode cX3_hindrance 72 = .ok (.iaload, 1) := dX3_hindrance_61_g.2.2.2.2.2.2.2
theorem dX3_hindrance_73_g : (decode cX3_hindrance 73 = .ok (.istore 5, 2)) ∧ (decode cX3_hindrance 75 = .ok (.iload 5, 2)) ∧ (decode cX3_hindrance 77 = .ok (.iconst (-1), 1)) ∧ (decode cX3_hindrance 78 = .ok (.if_icmp .ne 5, 3)) ∧ (decode cX3_hindrance 81 = .ok (.iconst 0, 1)) ∧ (decode cX3_hindrance 82 = .ok (.ireturn, 1)) ∧ (decode cX3_hindrance 83 = .ok (.iload 5, 2)) ∧ (decode cX3_hindrance 85 = .ok (.aload_n 0, 1)) := by decide +kernel
theorem dX3_hindrance_73 : decode cX3_hindrance 73 = .ok (.istore 5, 2) := dX3_hindrance_73_g.1
theorem dX3_hindrance_75 : decode cX3_hindrance 75 = .ok (.iload 5, 2) := dX3_hindrance_73_g.2.1
theorem dX3_hindrance_77 : decode cX3_hindrance 77 = .ok (.iconst (-1), 1) := dX3_hindrance_73_g.2.2.1
theorem dX3_hindrance_78 : decode cX3_hindrance 78 = .ok (.if_icmp .ne 5, 3) := dX3_hindrance_73_g.2.2.2.1
theorem dX3_hindrance_81 : decode cX3_hindrance 81 = .ok (.iconst 0, 1) := dX3_hindrance_73_g.2.2.2.2.1
theorem dX3_hindrance_82 : decode cX3_hindrance 82 = .ok (.ireturn, 1) := dX3_hindrance_73_g.2.2.2.2.2.1
theorem dX3_hindrance_83 : decode cX3_hindrance 83 = .ok (.iload 5, 2) := dX3_hindrance_73_g.2.2.2.2.2.2.1
theorem dX3_hindrance_85 : decode cX3_hindrance 85 = .ok (.aload_n 0, 1) := dX3_hindrance_73_g.2.2.2.2.2.2.2
theorem dX3_hindrance_86_g : (decode cX3_hindrance 86 = .ok (.getfield 18, 3)) ∧ (decode cX3_hindrance 89 = .ok (.iload_n 2, 1)) ∧ (decode cX3_hindrance 90 = .ok (.iaload, 1)) ∧ (decode cX3_hindrance 91 = .ok (.if_icmp .ge 5, 3)) ∧ (decode cX3_hindrance 94 = .ok (.iconst 4, 1)) ∧ (decode cX3_hindrance 95 = .ok (.ireturn, 1)) ∧ (decode cX3_hindrance 96 = .ok (.aload_n 1, 1)) ∧ (decode cX3_hindrance 97 = .ok (.getfield 62, 3)) := by decide +kernel
theorem dX3_hindrance_86 : decode cX3_hindrance 86 = .ok (.getfield 18, 3) := dX3_hindrance_86_g.1
theorem dX3_hindrance_89 : decode cX3_hindrance 89 = .ok (.iload_n 2, 1) := dX3_hindrance_86_g.2.1
theorem dX3_hindrance_90 : decode cX3_hindrance 90 = .ok (.iaload, 1) := dX3_hindrance_86_g.2.2.1
theorem dX3_hindrance_91 : decode cX3_hindrance 91 = .ok (.if_icmp .ge 5, 3) := dX3_hindrance_86_g.2.2.2.1
theorem dX3_hindrance_94 : decode cX3_hindrance 94 = .ok (.iconst 4, 1) := dX3_hindrance_86_g.2.2.2.2.1
theorem dX3_hindrance_95 : decode cX3_hindrance 95 = .ok (.ireturn, 1) := dX3_hindrance_86_g.2.2.2.2.2.1
theorem dX3_hindrance_96 : decode cX3_hindrance 96 = .ok (.aload_n 1, 1) := dX3_hindrance_86_g.2.2.2.2.2.2.1
theorem dX3_hindrance_97 : decode cX3_hindrance 97 = .ok (.getfield 62, 3) := dX3_hindrance_86_g.2.2.2.2.2.2.2
theorem dX3_hindrance_100_g : (decode cX3_hindrance 100 = .ok (.iload 5, 2)) ∧ (decode cX3_hindrance 102 = .ok (.iaload, 1)) ∧ (decode cX3_hindrance 103 = .ok (.iconst 2, 1)) ∧ (decode cX3_hindrance 104 = .ok (.if_icmp .ne 13, 3)) ∧ (decode cX3_hindrance 107 = .ok (.iload 4, 2)) ∧ (decode cX3_hindrance 109 = .ok (.iconst 2, 1)) ∧ (decode cX3_hindrance 110 = .ok (.if_icmp .eq 7, 3)) ∧ (decode cX3_hindrance 113 = .ok (.iconst 5, 1)) := by decide +kernel
theorem dX3_hindrance_100 : decode cX3_hindrance 100 = .ok (.iload 5, 2) := dX3_hindrance_100_g.1
theorem dX3_hindrance_102 : decode cX3_hindrance 102 = .ok (.iaload, 1) := dX3_hindrance_100_g.2.1
theorem dX3_hindrance_103 : decode cX3_hindrance 103 = .ok (.iconst 2, 1) := dX3_hindrance_100_g.2.2.1
theorem dX3_hindrance_104 : decode cX3_hindrance 104 = .ok (.if_icmp .ne 13, 3) := dX3_hindrance_100_g.2.2.2.1
theorem dX3_hindrance_107 : decode cX3_hindrance 107 = .ok (.iload 4, 2) := dX3_hindrance_100_g.2.2.2.2.1
theorem dX3_hindrance_109 : decode cX3_hindrance 109 = .ok (.iconst 2, 1) := dX3_hindrance_100_g.2.2.2.2.2.1
theorem dX3_hindrance_110 : decode cX3_hindrance 110 = .ok (.if_icmp .eq 7, 3) := dX3_hindrance_100_g.2.2.2.2.2.2.1
theorem dX3_hindrance_113 : decode cX3_hindrance 113 = .ok (.iconst 5, 1) := dX3_hindrance_100_g.2.2.2.2.2.2.2
theorem dX3_hindrance_114_g : (decode cX3_hindrance 114 = .ok (.goto 4, 3)) ∧ (decode cX3_hindrance 117 = .ok (.iconst 0, 1)) ∧ (decode cX3_hindrance 118 = .ok (.ireturn, 1)) := by decide +kernel
theorem dX3_hindrance_114 : decode cX3_hindrance 114 = .ok (.goto 4, 3) := dX3_hindrance_114_g.1
theorem dX3_hindrance_117 : decode cX3_hindrance 117 = .ok (.iconst 0, 1) := dX3_hindrance_114_g.2.1
theorem dX3_hindrance_118 : decode cX3_hindrance 118 = .ok (.ireturn, 1) := dX3_hindrance_114_g.2.2
theorem dX3_landing_0_g : (decode cX3_landing 0 = .ok (.aload_n 0, 1)) ∧ (decode cX3_landing 1 = .ok (.getfield 33, 3)) ∧ (decode cX3_landing 4 = .ok (.iload_n 2, 1)) ∧ (decode cX3_landing 5 = .ok (.iload_n 1, 1)) ∧ (decode cX3_landing 6 = .ok (.isub, 1)) ∧ (decode cX3_landing 7 = .ok (.aload_n 0, 1)) ∧ (decode cX3_landing 8 = .ok (.getfield 21, 3)) ∧ (decode cX3_landing 11 = .ok (.iload_n 1, 1)) := by decide +kernel
theorem dX3_landing_0 : decode cX3_landing 0 = .ok (.aload_n 0, 1) := dX3_landing_0_g.1
theorem dX3_landing_1 : decode cX3_landing 1 = .ok (.getfield 33, 3) := dX3_landing_0_g.2.1
theorem dX3_landing_4 : decode cX3_landing 4 = .ok (.iload_n 2, 1) := dX3_landing_0_g.2.2.1
theorem dX3_landing_5 : decode cX3_landing 5 = .ok (.iload_n 1, 1) := dX3_landing_0_g.2.2.2.1
theorem dX3_landing_6 : decode cX3_landing 6 = .ok (.isub, 1) := dX3_landing_0_g.2.2.2.2.1
theorem dX3_landing_7 : decode cX3_landing 7 = .ok (.aload_n 0, 1) := dX3_landing_0_g.2.2.2.2.2.1
theorem dX3_landing_8 : decode cX3_landing 8 = .ok (.getfield 21, 3) := dX3_landing_0_g.2.2.2.2.2.2.1
theorem dX3_landing_11 : decode cX3_landing 11 = .ok (.iload_n 1, 1) := dX3_landing_0_g.2.2.2.2.2.2.2
theorem dX3_landing_12_g : (decode cX3_landing 12 = .ok (.iaload, 1)) ∧ (decode cX3_landing 13 = .ok (.imul, 1)) ∧ (decode cX3_landing 14 = .ok (.iadd, 1)) ∧ (decode cX3_landing 15 = .ok (.ireturn, 1)) := by decide +kernel
theorem dX3_landing_12 : decode cX3_landing 12 = .ok (.iaload, 1) := dX3_landing_12_g.1
theorem dX3_landing_13 : decode cX3_landing 13 = .ok (.imul, 1) := dX3_landing_12_g.2.1
theorem dX3_landing_14 : decode cX3_landing 14 = .ok (.iadd, 1) := dX3_landing_12_g.2.2.1
theorem dX3_landing_15 : decode cX3_landing 15 = .ok (.ireturn, 1) := dX3_landing_12_g.2.2.2
theorem dX3_packSize_0_g : (decode cX3_packSize 0 = .ok (.aload_n 0, 1)) ∧ (decode cX3_packSize 1 = .ok (.getfield 18, 3)) ∧ (decode cX3_packSize 4 = .ok (.iload_n 1, 1)) ∧ (decode cX3_packSize 5 = .ok (.iaload, 1)) ∧ (decode cX3_packSize 6 = .ok (.aload_n 0, 1)) ∧ (decode cX3_packSize 7 = .ok (.getfield 15, 3)) ∧ (decode cX3_packSize 10 = .ok (.iload_n 1, 1)) ∧ (decode cX3_packSize 11 = .ok (.iaload, 1)) := by decide +kernel
theorem dX3_packSize_0 : decode cX3_packSize 0 = .ok (.aload_n 0, 1) := dX3_packSize_0_g.1
theorem dX3_packSize_1 : decode cX3_packSize 1 = .ok (.getfield 18, 3) := dX3_packSize_0_g.2.1
theorem dX3_packSize_4 : decode cX3_packSize 4 = .ok (.iload_n 1, 1) := dX3_packSize_0_g.2.2.1
theorem dX3_packSize_5 : decode cX3_packSize 5 = .ok (.iaload, 1) := dX3_packSize_0_g.2.2.2.1
theorem dX3_packSize_6 : decode cX3_packSize 6 = .ok (.aload_n 0, 1) := dX3_packSize_0_g.2.2.2.2.1
theorem dX3_packSize_7 : decode cX3_packSize 7 = .ok (.getfield 15, 3) := dX3_packSize_0_g.2.2.2.2.2.1
theorem dX3_packSize_10 : decode cX3_packSize 10 = .ok (.iload_n 1, 1) := dX3_packSize_0_g.2.2.2.2.2.2.1
theorem dX3_packSize_11 : decode cX3_packSize 11 = .ok (.iaload, 1) := dX3_packSize_0_g.2.2.2.2.2.2.2
theorem dX3_packSize_12_g : (decode cX3_packSize 12 = .ok (.isub, 1)) ∧ (decode cX3_packSize 13 = .ok (.iconst 1, 1)) ∧ (decode cX3_packSize 14 = .ok (.iadd, 1)) ∧ (decode cX3_packSize 15 = .ok (.ireturn, 1)) := by decide +kernel
theorem dX3_packSize_12 : decode cX3_packSize 12 = .ok (.isub, 1) := dX3_packSize_12_g.1
theorem dX3_packSize_13 : decode cX3_packSize 13 = .ok (.iconst 1, 1) := dX3_packSize_12_g.2.1
theorem dX3_packSize_14 : decode cX3_packSize 14 = .ok (.iadd, 1) := dX3_packSize_12_g.2.2.1
theorem dX3_packSize_15 : decode cX3_packSize 15 = .ok (.ireturn, 1) := dX3_packSize_12_g.2.2.2
theorem dX3_spread_0_g : (decode cX3_spread 0 = .ok (.aload_n 0, 1)) ∧ (decode cX3_spread 1 = .ok (.iconst 0, 1)) ∧ (decode cX3_spread 2 = .ok (.putfield 72, 3)) ∧ (decode cX3_spread 5 = .ok (.iconst 0, 1)) ∧ (decode cX3_spread 6 = .ok (.istore_n 2, 1)) ∧ (decode cX3_spread 7 = .ok (.iload_n 2, 1)) ∧ (decode cX3_spread 8 = .ok (.aload_n 1, 1)) ∧ (decode cX3_spread 9 = .ok (.getfield 55, 3)) := by decide +kernel
theorem dX3_spread_0 : decode cX3_spread 0 = .ok (.aload_n 0, 1) := dX3_spread_0_g.1
theorem dX3_spread_1 : decode cX3_spread 1 = .ok (.iconst 0, 1) := dX3_spread_0_g.2.1
theorem dX3_spread_2 : decode cX3_spread 2 = .ok (.putfield 72, 3) := dX3_spread_0_g.2.2.1
theorem dX3_spread_5 : decode cX3_spread 5 = .ok (.iconst 0, 1) := dX3_spread_0_g.2.2.2.1
theorem dX3_spread_6 : decode cX3_spread 6 = .ok (.istore_n 2, 1) := dX3_spread_0_g.2.2.2.2.1
theorem dX3_spread_7 : decode cX3_spread 7 = .ok (.iload_n 2, 1) := dX3_spread_0_g.2.2.2.2.2.1
theorem dX3_spread_8 : decode cX3_spread 8 = .ok (.aload_n 1, 1) := dX3_spread_0_g.2.2.2.2.2.2.1
theorem dX3_spread_9 : decode cX3_spread 9 = .ok (.getfield 55, 3) := dX3_spread_0_g.2.2.2.2.2.2.2
theorem dX3_spread_12_g : (decode cX3_spread 12 = .ok (.if_icmp .ge 107, 3)) ∧ (decode cX3_spread 15 = .ok (.aload_n 0, 1)) ∧ (decode cX3_spread 16 = .ok (.getfield 15, 3)) ∧ (decode cX3_spread 19 = .ok (.iload_n 2, 1)) ∧ (decode cX3_spread 20 = .ok (.iaload, 1)) ∧ (decode cX3_spread 21 = .ok (.iconst (-1), 1)) ∧ (decode cX3_spread 22 = .ok (.if_icmp .ne 6, 3)) ∧ (decode cX3_spread 25 = .ok (.goto 88, 3)) := by decide +kernel
theorem dX3_spread_12 : decode cX3_spread 12 = .ok (.if_icmp .ge 107, 3) := dX3_spread_12_g.1
theorem dX3_spread_15 : decode cX3_spread 15 = .ok (.aload_n 0, 1) := dX3_spread_12_g.2.1
theorem dX3_spread_16 : decode cX3_spread 16 = .ok (.getfield 15, 3) := dX3_spread_12_g.2.2.1
theorem dX3_spread_19 : decode cX3_spread 19 = .ok (.iload_n 2, 1) := dX3_spread_12_g.2.2.2.1
theorem dX3_spread_20 : decode cX3_spread 20 = .ok (.iaload, 1) := dX3_spread_12_g.2.2.2.2.1
theorem dX3_spread_21 : decode cX3_spread 21 = .ok (.iconst (-1), 1) := dX3_spread_12_g.2.2.2.2.2.1
theorem dX3_spread_22 : decode cX3_spread 22 = .ok (.if_icmp .ne 6, 3) := dX3_spread_12_g.2.2.2.2.2.2.1
theorem dX3_spread_25 : decode cX3_spread 25 = .ok (.goto 88, 3) := dX3_spread_12_g.2.2.2.2.2.2.2
theorem dX3_spread_28_g : (decode cX3_spread 28 = .ok (.iconst 0, 1)) ∧ (decode cX3_spread 29 = .ok (.istore_n 3, 1)) ∧ (decode cX3_spread 30 = .ok (.iload_n 3, 1)) ∧ (decode cX3_spread 31 = .ok (.aload_n 1, 1)) ∧ (decode cX3_spread 32 = .ok (.getfield 55, 3)) ∧ (decode cX3_spread 35 = .ok (.if_icmp .ge 78, 3)) ∧ (decode cX3_spread 38 = .ok (.aload_n 0, 1)) ∧ (decode cX3_spread 39 = .ok (.aload_n 1, 1)) := by decide +kernel
theorem dX3_spread_28 : decode cX3_spread 28 = .ok (.iconst 0, 1) := dX3_spread_28_g.1
theorem dX3_spread_29 : decode cX3_spread 29 = .ok (.istore_n 3, 1) := dX3_spread_28_g.2.1
theorem dX3_spread_30 : decode cX3_spread 30 = .ok (.iload_n 3, 1) := dX3_spread_28_g.2.2.1
theorem dX3_spread_31 : decode cX3_spread 31 = .ok (.aload_n 1, 1) := dX3_spread_28_g.2.2.2.1
theorem dX3_spread_32 : decode cX3_spread 32 = .ok (.getfield 55, 3) := dX3_spread_28_g.2.2.2.2.1
theorem dX3_spread_35 : decode cX3_spread 35 = .ok (.if_icmp .ge 78, 3) := dX3_spread_28_g.2.2.2.2.2.1
theorem dX3_spread_38 : decode cX3_spread 38 = .ok (.aload_n 0, 1) := dX3_spread_28_g.2.2.2.2.2.2.1
theorem dX3_spread_39 : decode cX3_spread 39 = .ok (.aload_n 1, 1) := dX3_spread_28_g.2.2.2.2.2.2.2
theorem dX3_spread_40_g : (decode cX3_spread 40 = .ok (.iload_n 2, 1)) ∧ (decode cX3_spread 41 = .ok (.iload_n 3, 1)) ∧ (decode cX3_spread 42 = .ok (.invokevirtual 75, 3)) ∧ (decode cX3_spread 45 = .ok (.ifCond .ne 62, 3)) ∧ (decode cX3_spread 48 = .ok (.aload_n 0, 1)) ∧ (decode cX3_spread 49 = .ok (.getfield 24, 3)) ∧ (decode cX3_spread 52 = .ok (.aload_n 0, 1)) ∧ (decode cX3_spread 53 = .ok (.getfield 72, 3)) := by decide +kernel
theorem dX3_spread_40 : decode cX3_spread 40 = .ok (.iload_n 2, 1) := dX3_spread_40_g.1
theorem dX3_spread_41 : decode cX3_spread 41 = .ok (.iload_n 3, 1) := dX3_spread_40_g.2.1
theorem dX3_spread_42 : decode cX3_spread 42 = .ok (.invokevirtual 75, 3) := dX3_spread_40_g.2.2.1
theorem dX3_spread_45 : decode cX3_spread 45 = .ok (.ifCond .ne 62, 3) := dX3_spread_40_g.2.2.2.1
theorem dX3_spread_48 : decode cX3_spread 48 = .ok (.aload_n 0, 1) := dX3_spread_40_g.2.2.2.2.1
theorem dX3_spread_49 : decode cX3_spread 49 = .ok (.getfield 24, 3) := dX3_spread_40_g.2.2.2.2.2.1
theorem dX3_spread_52 : decode cX3_spread 52 = .ok (.aload_n 0, 1) := dX3_spread_40_g.2.2.2.2.2.2.1
theorem dX3_spread_53 : decode cX3_spread 53 = .ok (.getfield 72, 3) := dX3_spread_40_g.2.2.2.2.2.2.2
theorem dX3_spread_56_g : (decode cX3_spread 56 = .ok (.bipush 10, 2)) ∧ (decode cX3_spread 58 = .ok (.iload_n 2, 1)) ∧ (decode cX3_spread 59 = .ok (.imul, 1)) ∧ (decode cX3_spread 60 = .ok (.iload_n 3, 1)) ∧ (decode cX3_spread 61 = .ok (.iadd, 1)) ∧ (decode cX3_spread 62 = .ok (.iastore, 1)) ∧ (decode cX3_spread 63 = .ok (.aload_n 0, 1)) ∧ (decode cX3_spread 64 = .ok (.getfield 27, 3)) := by decide +kernel
theorem dX3_spread_56 : decode cX3_spread 56 = .ok (.bipush 10, 2) := dX3_spread_56_g.1
theorem dX3_spread_58 : decode cX3_spread 58 = .ok (.iload_n 2, 1) := dX3_spread_56_g.2.1
theorem dX3_spread_59 : decode cX3_spread 59 = .ok (.imul, 1) := dX3_spread_56_g.2.2.1
theorem dX3_spread_60 : decode cX3_spread 60 = .ok (.iload_n 3, 1) := dX3_spread_56_g.2.2.2.1
theorem dX3_spread_61 : decode cX3_spread 61 = .ok (.iadd, 1) := dX3_spread_56_g.2.2.2.2.1
theorem dX3_spread_62 : decode cX3_spread 62 = .ok (.iastore, 1) := dX3_spread_56_g.2.2.2.2.2.1
theorem dX3_spread_63 : decode cX3_spread 63 = .ok (.aload_n 0, 1) := dX3_spread_56_g.2.2.2.2.2.2.1
theorem dX3_spread_64 : decode cX3_spread 64 = .ok (.getfield 27, 3) := dX3_spread_56_g.2.2.2.2.2.2.2
theorem dX3_spread_67_g : (decode cX3_spread 67 = .ok (.aload_n 0, 1)) ∧ (decode cX3_spread 68 = .ok (.getfield 72, 3)) ∧ (decode cX3_spread 71 = .ok (.aload_n 0, 1)) ∧ (decode cX3_spread 72 = .ok (.iload_n 2, 1)) ∧ (decode cX3_spread 73 = .ok (.iload_n 3, 1)) ∧ (decode cX3_spread 74 = .ok (.invokevirtual 79, 3)) ∧ (decode cX3_spread 77 = .ok (.iastore, 1)) ∧ (decode cX3_spread 78 = .ok (.aload_n 0, 1)) := by decide +kernel
theorem dX3_spread_67 : decode cX3_spread 67 = .ok (.aload_n 0, 1) := dX3_spread_67_g.1
theorem dX3_spread_68 : decode cX3_spread 68 = .ok (.getfield 72, 3) := dX3_spread_67_g.2.1
theorem dX3_spread_71 : decode cX3_spread 71 = .ok (.aload_n 0, 1) := dX3_spread_67_g.2.2.1
theorem dX3_spread_72 : decode cX3_spread 72 = .ok (.iload_n 2, 1) := dX3_spread_67_g.2.2.2.1
theorem dX3_spread_73 : decode cX3_spread 73 = .ok (.iload_n 3, 1) := dX3_spread_67_g.2.2.2.2.1
theorem dX3_spread_74 : decode cX3_spread 74 = .ok (.invokevirtual 79, 3) := dX3_spread_67_g.2.2.2.2.2.1
theorem dX3_spread_77 : decode cX3_spread 77 = .ok (.iastore, 1) := dX3_spread_67_g.2.2.2.2.2.2.1
theorem dX3_spread_78 : decode cX3_spread 78 = .ok (.aload_n 0, 1) := dX3_spread_67_g.2.2.2.2.2.2.2
theorem dX3_spread_79_g : (decode cX3_spread 79 = .ok (.getfield 30, 3)) ∧ (decode cX3_spread 82 = .ok (.aload_n 0, 1)) ∧ (decode cX3_spread 83 = .ok (.getfield 72, 3)) ∧ (decode cX3_spread 86 = .ok (.aload_n 1, 1)) ∧ (decode cX3_spread 87 = .ok (.getfield 65, 3)) ∧ (decode cX3_spread 90 = .ok (.iload_n 2, 1)) ∧ (decode cX3_spread 91 = .ok (.iconst 5, 1)) ∧ (decode cX3_spread 92 = .ok (.imul, 1)) := by decide +kernel
theorem dX3_spread_79 : decode cX3_spread 79 = .ok (.getfield 30, 3) := dX3_spread_79_g.1
theorem dX3_spread_82 : decode cX3_spread 82 = .ok (.aload_n 0, 1) := dX3_spread_79_g.2.1
theorem dX3_spread_83 : decode cX3_spread 83 = .ok (.getfield 72, 3) := dX3_spread_79_g.2.2.1
theorem dX3_spread_86 : decode cX3_spread 86 = .ok (.aload_n 1, 1) := dX3_spread_79_g.2.2.2.1
theorem dX3_spread_87 : decode cX3_spread 87 = .ok (.getfield 65, 3) := dX3_spread_79_g.2.2.2.2.1
theorem dX3_spread_90 : decode cX3_spread 90 = .ok (.iload_n 2, 1) := dX3_spread_79_g.2.2.2.2.2.1
theorem dX3_spread_91 : decode cX3_spread 91 = .ok (.iconst 5, 1) := dX3_spread_79_g.2.2.2.2.2.2.1
theorem dX3_spread_92 : decode cX3_spread 92 = .ok (.imul, 1) := dX3_spread_79_g.2.2.2.2.2.2.2
theorem dX3_spread_93_g : (decode cX3_spread 93 = .ok (.iload_n 3, 1)) ∧ (decode cX3_spread 94 = .ok (.iadd, 1)) ∧ (decode cX3_spread 95 = .ok (.iaload, 1)) ∧ (decode cX3_spread 96 = .ok (.iastore, 1)) ∧ (decode cX3_spread 97 = .ok (.aload_n 0, 1)) ∧ (decode cX3_spread 98 = .ok (.dup, 1)) ∧ (decode cX3_spread 99 = .ok (.getfield 72, 3)) ∧ (decode cX3_spread 102 = .ok (.iconst 1, 1)) := by decide +kernel
theorem dX3_spread_93 : decode cX3_spread 93 = .ok (.iload_n 3, 1) := dX3_spread_93_g.1
theorem dX3_spread_94 : decode cX3_spread 94 = .ok (.iadd, 1) := dX3_spread_93_g.2.1
theorem dX3_spread_95 : decode cX3_spread 95 = .ok (.iaload, 1) := dX3_spread_93_g.2.2.1
theorem dX3_spread_96 : decode cX3_spread 96 = .ok (.iastore, 1) := dX3_spread_93_g.2.2.2.1
theorem dX3_spread_97 : decode cX3_spread 97 = .ok (.aload_n 0, 1) := dX3_spread_93_g.2.2.2.2.1
theorem dX3_spread_98 : decode cX3_spread 98 = .ok (.dup, 1) := dX3_spread_93_g.2.2.2.2.2.1
theorem dX3_spread_99 : decode cX3_spread 99 = .ok (.getfield 72, 3) := dX3_spread_93_g.2.2.2.2.2.2.1
theorem dX3_spread_102 : decode cX3_spread 102 = .ok (.iconst 1, 1) := dX3_spread_93_g.2.2.2.2.2.2.2
theorem dX3_spread_103_g : (decode cX3_spread 103 = .ok (.iadd, 1)) ∧ (decode cX3_spread 104 = .ok (.putfield 72, 3)) ∧ (decode cX3_spread 107 = .ok (.iinc 3 1, 3)) ∧ (decode cX3_spread 110 = .ok (.goto (-80), 3)) ∧ (decode cX3_spread 113 = .ok (.iinc 2 1, 3)) ∧ (decode cX3_spread 116 = .ok (.goto (-109), 3)) ∧ (decode cX3_spread 119 = .ok (.return_, 1)) := by decide +kernel
theorem dX3_spread_103 : decode cX3_spread 103 = .ok (.iadd, 1) := dX3_spread_103_g.1
theorem dX3_spread_104 : decode cX3_spread 104 = .ok (.putfield 72, 3) := dX3_spread_103_g.2.1
theorem dX3_spread_107 : decode cX3_spread 107 = .ok (.iinc 3 1, 3) := dX3_spread_103_g.2.2.1
theorem dX3_spread_110 : decode cX3_spread 110 = .ok (.goto (-80), 3) := dX3_spread_103_g.2.2.2.1
theorem dX3_spread_113 : decode cX3_spread 113 = .ok (.iinc 2 1, 3) := dX3_spread_103_g.2.2.2.2.1
theorem dX3_spread_116 : decode cX3_spread 116 = .ok (.goto (-109), 3) := dX3_spread_103_g.2.2.2.2.2.1
theorem dX3_spread_119 : decode cX3_spread 119 = .ok (.return_, 1) := dX3_spread_103_g.2.2.2.2.2.2
theorem dX4_init_0_g : (decode cX4_init 0 = .ok (.aload_n 0, 1)) ∧ (decode cX4_init 1 = .ok (.invokespecial 3, 3)) ∧ (decode cX4_init 4 = .ok (.aload_n 0, 1)) ∧ (decode cX4_init 5 = .ok (.sipush 200, 3)) ∧ (decode cX4_init 8 = .ok (.newarray .int, 2)) ∧ (decode cX4_init 10 = .ok (.putfield 9, 3)) ∧ (decode cX4_init 13 = .ok (.aload_n 0, 1)) ∧ (decode cX4_init 14 = .ok (.sipush 200, 3)) := by decide +kernel
theorem dX4_init_0 : decode cX4_init 0 = .ok (.aload_n 0, 1) := dX4_init_0_g.1
theorem dX4_init_1 : decode cX4_init 1 = .ok (.invokespecial 3, 3) := dX4_init_0_g.2.1
theorem dX4_init_4 : decode cX4_init 4 = .ok (.aload_n 0, 1) := dX4_init_0_g.2.2.1
theorem dX4_init_5 : decode cX4_init 5 = .ok (.sipush 200, 3) := dX4_init_0_g.2.2.2.1
theorem dX4_init_8 : decode cX4_init 8 = .ok (.newarray .int, 2) := dX4_init_0_g.2.2.2.2.1
theorem dX4_init_10 : decode cX4_init 10 = .ok (.putfield 9, 3) := dX4_init_0_g.2.2.2.2.2.1
theorem dX4_init_13 : decode cX4_init 13 = .ok (.aload_n 0, 1) := dX4_init_0_g.2.2.2.2.2.2.1
theorem dX4_init_14 : decode cX4_init 14 = .ok (.sipush 200, 3) := dX4_init_0_g.2.2.2.2.2.2.2
theorem dX4_init_17_g : (decode cX4_init 17 = .ok (.newarray .int, 2)) ∧ (decode cX4_init 19 = .ok (.putfield 15, 3)) ∧ (decode cX4_init 22 = .ok (.return_, 1)) := by decide +kernel
theorem dX4_init_17 : decode cX4_init 17 = .ok (.newarray .int, 2) := dX4_init_17_g.1
theorem dX4_init_19 : decode cX4_init 19 = .ok (.putfield 15, 3) := dX4_init_17_g.2.1
theorem dX4_init_22 : decode cX4_init 22 = .ok (.return_, 1) := dX4_init_17_g.2.2
theorem dX4_forget_0_g : (decode cX4_forget 0 = .ok (.aload_n 0, 1)) ∧ (decode cX4_forget 1 = .ok (.iconst 0, 1)) ∧ (decode cX4_forget 2 = .ok (.putfield 18, 3)) ∧ (decode cX4_forget 5 = .ok (.aload_n 0, 1)) ∧ (decode cX4_forget 6 = .ok (.iconst 0, 1)) ∧ (decode cX4_forget 7 = .ok (.putfield 22, 3)) ∧ (decode cX4_forget 10 = .ok (.return_, 1)) := by decide +kernel
theorem dX4_forget_0 : decode cX4_forget 0 = .ok (.aload_n 0, 1) := dX4_forget_0_g.1
theorem dX4_forget_1 : decode cX4_forget 1 = .ok (.iconst 0, 1) := dX4_forget_0_g.2.1
theorem dX4_forget_2 : decode cX4_forget 2 = .ok (.putfield 18, 3) := dX4_forget_0_g.2.2.1
theorem dX4_forget_5 : decode cX4_forget 5 = .ok (.aload_n 0, 1) := dX4_forget_0_g.2.2.2.1
theorem dX4_forget_6 : decode cX4_forget 6 = .ok (.iconst 0, 1) := dX4_forget_0_g.2.2.2.2.1
theorem dX4_forget_7 : decode cX4_forget 7 = .ok (.putfield 22, 3) := dX4_forget_0_g.2.2.2.2.2.1
theorem dX4_forget_10 : decode cX4_forget 10 = .ok (.return_, 1) := dX4_forget_0_g.2.2.2.2.2.2
theorem dX4_keep_0_g : (decode cX4_keep 0 = .ok (.aload_n 0, 1)) ∧ (decode cX4_keep 1 = .ok (.getfield 18, 3)) ∧ (decode cX4_keep 4 = .ok (.sipush 200, 3)) ∧ (decode cX4_keep 7 = .ok (.if_icmp .ne 29, 3)) ∧ (decode cX4_keep 10 = .ok (.aload_n 0, 1)) ∧ (decode cX4_keep 11 = .ok (.getfield 9, 3)) ∧ (decode cX4_keep 14 = .ok (.iconst 1, 1)) ∧ (decode cX4_keep 15 = .ok (.aload_n 0, 1)) := by decide +kernel
theorem dX4_keep_0 : decode cX4_keep 0 = .ok (.aload_n 0, 1) := dX4_keep_0_g.1
theorem dX4_keep_1 : decode cX4_keep 1 = .ok (.getfield 18, 3) := dX4_keep_0_g.2.1
theorem dX4_keep_4 : decode cX4_keep 4 = .ok (.sipush 200, 3) := dX4_keep_0_g.2.2.1
theorem dX4_keep_7 : decode cX4_keep 7 = .ok (.if_icmp .ne 29, 3) := dX4_keep_0_g.2.2.2.1
theorem dX4_keep_10 : decode cX4_keep 10 = .ok (.aload_n 0, 1) := dX4_keep_0_g.2.2.2.2.1
theorem dX4_keep_11 : decode cX4_keep 11 = .ok (.getfield 9, 3) := dX4_keep_0_g.2.2.2.2.2.1
theorem dX4_keep_14 : decode cX4_keep 14 = .ok (.iconst 1, 1) := dX4_keep_0_g.2.2.2.2.2.2.1
theorem dX4_keep_15 : decode cX4_keep 15 = .ok (.aload_n 0, 1) := dX4_keep_0_g.2.2.2.2.2.2.2
theorem dX4_keep_16_g : (decode cX4_keep 16 = .ok (.getfield 9, 3)) ∧ (decode cX4_keep 19 = .ok (.iconst 0, 1)) ∧ (decode cX4_keep 20 = .ok (.sipush 199, 3)) ∧ (decode cX4_keep 23 = .ok (.invokestatic 25, 3)) ∧ (decode cX4_keep 26 = .ok (.aload_n 0, 1)) ∧ (decode cX4_keep 27 = .ok (.dup, 1)) ∧ (decode cX4_keep 28 = .ok (.getfield 18, 3)) ∧ (decode cX4_keep 31 = .ok (.iconst 1, 1)) := by decide +kernel
theorem dX4_keep_16 : decode cX4_keep 16 = .ok (.getfield 9, 3) := dX4_keep_16_g.1
theorem dX4_keep_19 : decode cX4_keep 19 = .ok (.iconst 0, 1) := dX4_keep_16_g.2.1
theorem dX4_keep_20 : decode cX4_keep 20 = .ok (.sipush 199, 3) := dX4_keep_16_g.2.2.1
theorem dX4_keep_23 : decode cX4_keep 23 = .ok (.invokestatic 25, 3) := dX4_keep_16_g.2.2.2.1
theorem dX4_keep_26 : decode cX4_keep 26 = .ok (.aload_n 0, 1) := dX4_keep_16_g.2.2.2.2.1
theorem dX4_keep_27 : decode cX4_keep 27 = .ok (.dup, 1) := dX4_keep_16_g.2.2.2.2.2.1
theorem dX4_keep_28 : decode cX4_keep 28 = .ok (.getfield 18, 3) := dX4_keep_16_g.2.2.2.2.2.2.1
theorem dX4_keep_31 : decode cX4_keep 31 = .ok (.iconst 1, 1) := dX4_keep_16_g.2.2.2.2.2.2.2
theorem dX4_keep_32_g : (decode cX4_keep 32 = .ok (.isub, 1)) ∧ (decode cX4_keep 33 = .ok (.putfield 18, 3)) ∧ (decode cX4_keep 36 = .ok (.aload_n 0, 1)) ∧ (decode cX4_keep 37 = .ok (.getfield 9, 3)) ∧ (decode cX4_keep 40 = .ok (.aload_n 0, 1)) ∧ (decode cX4_keep 41 = .ok (.getfield 18, 3)) ∧ (decode cX4_keep 44 = .ok (.iload_n 1, 1)) ∧ (decode cX4_keep 45 = .ok (.iastore, 1)) := by decide +kernel
theorem dX4_keep_32 : decode cX4_keep 32 = .ok (.isub, 1) := dX4_keep_32_g.1
theorem dX4_keep_33 : decode cX4_keep 33 = .ok (.putfield 18, 3) := dX4_keep_32_g.2.1
theorem dX4_keep_36 : decode cX4_keep 36 = .ok (.aload_n 0, 1) := dX4_keep_32_g.2.2.1
theorem dX4_keep_37 : decode cX4_keep 37 = .ok (.getfield 9, 3) := dX4_keep_32_g.2.2.2.1
theorem dX4_keep_40 : decode cX4_keep 40 = .ok (.aload_n 0, 1) := dX4_keep_32_g.2.2.2.2.1
theorem dX4_keep_41 : decode cX4_keep 41 = .ok (.getfield 18, 3) := dX4_keep_32_g.2.2.2.2.2.1
theorem dX4_keep_44 : decode cX4_keep 44 = .ok (.iload_n 1, 1) := dX4_keep_32_g.2.2.2.2.2.2.1
theorem dX4_keep_45 : decode cX4_keep 45 = .ok (.iastore, 1) := dX4_keep_32_g.2.2.2.2.2.2.2
theorem dX4_keep_46_g : (decode cX4_keep 46 = .ok (.aload_n 0, 1)) ∧ (decode cX4_keep 47 = .ok (.dup, 1)) ∧ (decode cX4_keep 48 = .ok (.getfield 18, 3)) ∧ (decode cX4_keep 51 = .ok (.iconst 1, 1)) ∧ (decode cX4_keep 52 = .ok (.iadd, 1)) ∧ (decode cX4_keep 53 = .ok (.putfield 18, 3)) ∧ (decode cX4_keep 56 = .ok (.aload_n 0, 1)) ∧ (decode cX4_keep 57 = .ok (.iconst 0, 1)) := by decide +kernel
theorem dX4_keep_46 : decode cX4_keep 46 = .ok (.aload_n 0, 1) := dX4_keep_46_g.1
theorem dX4_keep_47 : decode cX4_keep 47 = .ok (.dup, 1) := dX4_keep_46_g.2.1
theorem dX4_keep_48 : decode cX4_keep 48 = .ok (.getfield 18, 3) := dX4_keep_46_g.2.2.1
theorem dX4_keep_51 : decode cX4_keep 51 = .ok (.iconst 1, 1) := dX4_keep_46_g.2.2.2.1
theorem dX4_keep_52 : decode cX4_keep 52 = .ok (.iadd, 1) := dX4_keep_46_g.2.2.2.2.1
theorem dX4_keep_53 : decode cX4_keep 53 = .ok (.putfield 18, 3) := dX4_keep_46_g.2.2.2.2.2.1
theorem dX4_keep_56 : decode cX4_keep 56 = .ok (.aload_n 0, 1) := dX4_keep_46_g.2.2.2.2.2.2.1
theorem dX4_keep_57 : decode cX4_keep 57 = .ok (.iconst 0, 1) := dX4_keep_46_g.2.2.2.2.2.2.2
theorem dX4_keep_58_g : (decode cX4_keep 58 = .ok (.putfield 22, 3)) ∧ (decode cX4_keep 61 = .ok (.return_, 1)) := by decide +kernel
theorem dX4_keep_58 : decode cX4_keep 58 = .ok (.putfield 22, 3) := dX4_keep_58_g.1
theorem dX4_keep_61 : decode cX4_keep 61 = .ok (.return_, 1) := dX4_keep_58_g.2
theorem dX4_stepBack_0_g : (decode cX4_stepBack 0 = .ok (.aload_n 0, 1)) ∧ (decode cX4_stepBack 1 = .ok (.getfield 18, 3)) ∧ (decode cX4_stepBack 4 = .ok (.ifCond .eq 13, 3)) ∧ (decode cX4_stepBack 7 = .ok (.aload_n 0, 1)) ∧ (decode cX4_stepBack 8 = .ok (.getfield 22, 3)) ∧ (decode cX4_stepBack 11 = .ok (.sipush 200, 3)) ∧ (decode cX4_stepBack 14 = .ok (.if_icmp .ne 5, 3)) ∧ (decode cX4_stepBack 17 = .ok (.iload_n 1, 1)) := by decide +kernel
theorem dX4_stepBack_0 : decode cX4_stepBack 0 = .ok (.aload_n 0, 1) := dX4_stepBack_0_g.1
theorem dX4_stepBack_1 : decode cX4_stepBack 1 = .ok (.getfield 18, 3) := dX4_stepBack_0_g.2.1
theorem dX4_stepBack_4 : decode cX4_stepBack 4 = .ok (.ifCond .eq 13, 3) := dX4_stepBack_0_g.2.2.1
theorem dX4_stepBack_7 : decode cX4_stepBack 7 = .ok (.aload_n 0, 1) := dX4_stepBack_0_g.2.2.2.1
theorem dX4_stepBack_8 : decode cX4_stepBack 8 = .ok (.getfield 22, 3) := dX4_stepBack_0_g.2.2.2.2.1
theorem dX4_stepBack_11 : decode cX4_stepBack 11 = .ok (.sipush 200, 3) := dX4_stepBack_0_g.2.2.2.2.2.1
theorem dX4_stepBack_14 : decode cX4_stepBack 14 = .ok (.if_icmp .ne 5, 3) := dX4_stepBack_0_g.2.2.2.2.2.2.1
theorem dX4_stepBack_17 : decode cX4_stepBack 17 = .ok (.iload_n 1, 1) := dX4_stepBack_0_g.2.2.2.2.2.2.2
theorem dX4_stepBack_18_g : (decode cX4_stepBack 18 = .ok (.ireturn, 1)) ∧ (decode cX4_stepBack 19 = .ok (.aload_n 0, 1)) ∧ (decode cX4_stepBack 20 = .ok (.getfield 15, 3)) ∧ (decode cX4_stepBack 23 = .ok (.aload_n 0, 1)) ∧ (decode cX4_stepBack 24 = .ok (.getfield 22, 3)) ∧ (decode cX4_stepBack 27 = .ok (.iload_n 1, 1)) ∧ (decode cX4_stepBack 28 = .ok (.iastore, 1)) ∧ (decode cX4_stepBack 29 = .ok (.aload_n 0, 1)) := by decide +kernel
theorem dX4_stepBack_18 : decode cX4_stepBack 18 = .ok (.ireturn, 1) := dX4_stepBack_18_g.1
theorem dX4_stepBack_19 : decode cX4_stepBack 19 = .ok (.aload_n 0, 1) := dX4_stepBack_18_g.2.1
theorem dX4_stepBack_20 : decode cX4_stepBack 20 = .ok (.getfield 15, 3) := dX4_stepBack_18_g.2.2.1
theorem dX4_stepBack_23 : decode cX4_stepBack 23 = .ok (.aload_n 0, 1) := dX4_stepBack_18_g.2.2.2.1
theorem dX4_stepBack_24 : decode cX4_stepBack 24 = .ok (.getfield 22, 3) := dX4_stepBack_18_g.2.2.2.2.1
theorem dX4_stepBack_27 : decode cX4_stepBack 27 = .ok (.iload_n 1, 1) := dX4_stepBack_18_g.2.2.2.2.2.1
theorem dX4_stepBack_28 : decode cX4_stepBack 28 = .ok (.iastore, 1) := dX4_stepBack_18_g.2.2.2.2.2.2.1
theorem dX4_stepBack_29 : decode cX4_stepBack 29 = .ok (.aload_n 0, 1) := dX4_stepBack_18_g.2.2.2.2.2.2.2
theorem dX4_stepBack_30_g : (decode cX4_stepBack 30 = .ok (.dup, 1)) ∧ (decode cX4_stepBack 31 = .ok (.getfield 22, 3)) ∧ (decode cX4_stepBack 34 = .ok (.iconst 1, 1)) ∧ (decode cX4_stepBack 35 = .ok (.iadd, 1)) ∧ (decode cX4_stepBack 36 = .ok (.putfield 22, 3)) ∧ (decode cX4_stepBack 39 = .ok (.aload_n 0, 1)) ∧ (decode cX4_stepBack 40 = .ok (.dup, 1)) ∧ (decode cX4_stepBack 41 = .ok (.getfield 18, 3)) := by decide +kernel
theorem dX4_stepBack_30 : decode cX4_stepBack 30 = .ok (.dup, 1) := dX4_stepBack_30_g.1
theorem dX4_stepBack_31 : decode cX4_stepBack 31 = .ok (.getfield 22, 3) := dX4_stepBack_30_g.2.1
theorem dX4_stepBack_34 : decode cX4_stepBack 34 = .ok (.iconst 1, 1) := dX4_stepBack_30_g.2.2.1
theorem dX4_stepBack_35 : decode cX4_stepBack 35 = .ok (.iadd, 1) := dX4_stepBack_30_g.2.2.2.1
theorem dX4_stepBack_36 : decode cX4_stepBack 36 = .ok (.putfield 22, 3) := dX4_stepBack_30_g.2.2.2.2.1
theorem dX4_stepBack_39 : decode cX4_stepBack 39 = .ok (.aload_n 0, 1) := dX4_stepBack_30_g.2.2.2.2.2.1
theorem dX4_stepBack_40 : decode cX4_stepBack 40 = .ok (.dup, 1) := dX4_stepBack_30_g.2.2.2.2.2.2.1
theorem dX4_stepBack_41 : decode cX4_stepBack 41 = .ok (.getfield 18, 3) := dX4_stepBack_30_g.2.2.2.2.2.2.2
theorem dX4_stepBack_44_g : (decode cX4_stepBack 44 = .ok (.iconst 1, 1)) ∧ (decode cX4_stepBack 45 = .ok (.isub, 1)) ∧ (decode cX4_stepBack 46 = .ok (.putfield 18, 3)) ∧ (decode cX4_stepBack 49 = .ok (.aload_n 0, 1)) ∧ (decode cX4_stepBack 50 = .ok (.getfield 9, 3)) ∧ (decode cX4_stepBack 53 = .ok (.aload_n 0, 1)) ∧ (decode cX4_stepBack 54 = .ok (.getfield 18, 3)) ∧ (decode cX4_stepBack 57 = .ok (.iaload, 1)) := by decide +kernel
theorem dX4_stepBack_44 : decode cX4_stepBack 44 = .ok (.iconst 1, 1) := dX4_stepBack_44_g.1
theorem dX4_stepBack_45 : decode cX4_stepBack 45 = .ok (.isub, 1) := dX4_stepBack_44_g.2.1
theorem dX4_stepBack_46 : decode cX4_stepBack 46 = .ok (.putfield 18, 3) := dX4_stepBack_44_g.2.2.1
theorem dX4_stepBack_49 : decode cX4_stepBack 49 = .ok (.aload_n 0, 1) := dX4_stepBack_44_g.2.2.2.1
theorem dX4_stepBack_50 : decode cX4_stepBack 50 = .ok (.getfield 9, 3) := dX4_stepBack_44_g.2.2.2.2.1
theorem dX4_stepBack_53 : decode cX4_stepBack 53 = .ok (.aload_n 0, 1) := dX4_stepBack_44_g.2.2.2.2.2.1
theorem dX4_stepBack_54 : decode cX4_stepBack 54 = .ok (.getfield 18, 3) := dX4_stepBack_44_g.2.2.2.2.2.2.1
theorem dX4_stepBack_57 : decode cX4_stepBack 57 = .ok (.iaload, 1) := dX4_stepBack_44_g.2.2.2.2.2.2.2
theorem dX4_stepBack_58 : decode cX4_stepBack 58 = .ok (.ireturn, 1) := by decide +kernel
theorem dX4_stepOn_0_g : (decode cX4_stepOn 0 = .ok (.aload_n 0, 1)) ∧ (decode cX4_stepOn 1 = .ok (.getfield 22, 3)) ∧ (decode cX4_stepOn 4 = .ok (.ifCond .eq 13, 3)) ∧ (decode cX4_stepOn 7 = .ok (.aload_n 0, 1)) ∧ (decode cX4_stepOn 8 = .ok (.getfield 18, 3)) ∧ (decode cX4_stepOn 11 = .ok (.sipush 200, 3)) ∧ (decode cX4_stepOn 14 = .ok (.if_icmp .ne 5, 3)) ∧ (decode cX4_stepOn 17 = .ok (.iload_n 1, 1)) := by decide +kernel
theorem dX4_stepOn_0 : decode cX4_stepOn 0 = .ok (.aload_n 0, 1) := dX4_stepOn_0_g.1
theorem dX4_stepOn_1 : decode cX4_stepOn 1 = .ok (.getfield 22, 3) := dX4_stepOn_0_g.2.1
theorem dX4_stepOn_4 : decode cX4_stepOn 4 = .ok (.ifCond .eq 13, 3) := dX4_stepOn_0_g.2.2.1
theorem dX4_stepOn_7 : decode cX4_stepOn 7 = .ok (.aload_n 0, 1) := dX4_stepOn_0_g.2.2.2.1
theorem dX4_stepOn_8 : decode cX4_stepOn 8 = .ok (.getfield 18, 3) := dX4_stepOn_0_g.2.2.2.2.1
theorem dX4_stepOn_11 : decode cX4_stepOn 11 = .ok (.sipush 200, 3) := dX4_stepOn_0_g.2.2.2.2.2.1
theorem dX4_stepOn_14 : decode cX4_stepOn 14 = .ok (.if_icmp .ne 5, 3) := dX4_stepOn_0_g.2.2.2.2.2.2.1
theorem dX4_stepOn_17 : decode cX4_stepOn 17 = .ok (.iload_n 1, 1) := dX4_stepOn_0_g.2.2.2.2.2.2.2
theorem dX4_stepOn_18_g : (decode cX4_stepOn 18 = .ok (.ireturn, 1)) ∧ (decode cX4_stepOn 19 = .ok (.aload_n 0, 1)) ∧ (decode cX4_stepOn 20 = .ok (.getfield 9, 3)) ∧ (decode cX4_stepOn 23 = .ok (.aload_n 0, 1)) ∧ (decode cX4_stepOn 24 = .ok (.getfield 18, 3)) ∧ (decode cX4_stepOn 27 = .ok (.iload_n 1, 1)) ∧ (decode cX4_stepOn 28 = .ok (.iastore, 1)) ∧ (decode cX4_stepOn 29 = .ok (.aload_n 0, 1)) := by decide +kernel
theorem dX4_stepOn_18 : decode cX4_stepOn 18 = .ok (.ireturn, 1) := dX4_stepOn_18_g.1
theorem dX4_stepOn_19 : decode cX4_stepOn 19 = .ok (.aload_n 0, 1) := dX4_stepOn_18_g.2.1
theorem dX4_stepOn_20 : decode cX4_stepOn 20 = .ok (.getfield 9, 3) := dX4_stepOn_18_g.2.2.1
theorem dX4_stepOn_23 : decode cX4_stepOn 23 = .ok (.aload_n 0, 1) := dX4_stepOn_18_g.2.2.2.1
theorem dX4_stepOn_24 : decode cX4_stepOn 24 = .ok (.getfield 18, 3) := dX4_stepOn_18_g.2.2.2.2.1
theorem dX4_stepOn_27 : decode cX4_stepOn 27 = .ok (.iload_n 1, 1) := dX4_stepOn_18_g.2.2.2.2.2.1
theorem dX4_stepOn_28 : decode cX4_stepOn 28 = .ok (.iastore, 1) := dX4_stepOn_18_g.2.2.2.2.2.2.1
theorem dX4_stepOn_29 : decode cX4_stepOn 29 = .ok (.aload_n 0, 1) := dX4_stepOn_18_g.2.2.2.2.2.2.2
theorem dX4_stepOn_30_g : (decode cX4_stepOn 30 = .ok (.dup, 1)) ∧ (decode cX4_stepOn 31 = .ok (.getfield 18, 3)) ∧ (decode cX4_stepOn 34 = .ok (.iconst 1, 1)) ∧ (decode cX4_stepOn 35 = .ok (.iadd, 1)) ∧ (decode cX4_stepOn 36 = .ok (.putfield 18, 3)) ∧ (decode cX4_stepOn 39 = .ok (.aload_n 0, 1)) ∧ (decode cX4_stepOn 40 = .ok (.dup, 1)) ∧ (decode cX4_stepOn 41 = .ok (.getfield 22, 3)) := by decide +kernel
theorem dX4_stepOn_30 : decode cX4_stepOn 30 = .ok (.dup, 1) := dX4_stepOn_30_g.1
theorem dX4_stepOn_31 : decode cX4_stepOn 31 = .ok (.getfield 18, 3) := dX4_stepOn_30_g.2.1
theorem dX4_stepOn_34 : decode cX4_stepOn 34 = .ok (.iconst 1, 1) := dX4_stepOn_30_g.2.2.1
theorem dX4_stepOn_35 : decode cX4_stepOn 35 = .ok (.iadd, 1) := dX4_stepOn_30_g.2.2.2.1
theorem dX4_stepOn_36 : decode cX4_stepOn 36 = .ok (.putfield 18, 3) := dX4_stepOn_30_g.2.2.2.2.1
theorem dX4_stepOn_39 : decode cX4_stepOn 39 = .ok (.aload_n 0, 1) := dX4_stepOn_30_g.2.2.2.2.2.1
theorem dX4_stepOn_40 : decode cX4_stepOn 40 = .ok (.dup, 1) := dX4_stepOn_30_g.2.2.2.2.2.2.1
theorem dX4_stepOn_41 : decode cX4_stepOn 41 = .ok (.getfield 22, 3) := dX4_stepOn_30_g.2.2.2.2.2.2.2
theorem dX4_stepOn_44_g : (decode cX4_stepOn 44 = .ok (.iconst 1, 1)) ∧ (decode cX4_stepOn 45 = .ok (.isub, 1)) ∧ (decode cX4_stepOn 46 = .ok (.putfield 22, 3)) ∧ (decode cX4_stepOn 49 = .ok (.aload_n 0, 1)) ∧ (decode cX4_stepOn 50 = .ok (.getfield 15, 3)) ∧ (decode cX4_stepOn 53 = .ok (.aload_n 0, 1)) ∧ (decode cX4_stepOn 54 = .ok (.getfield 22, 3)) ∧ (decode cX4_stepOn 57 = .ok (.iaload, 1)) := by decide +kernel
theorem dX4_stepOn_44 : decode cX4_stepOn 44 = .ok (.iconst 1, 1) := dX4_stepOn_44_g.1
theorem dX4_stepOn_45 : decode cX4_stepOn 45 = .ok (.isub, 1) := dX4_stepOn_44_g.2.1
theorem dX4_stepOn_46 : decode cX4_stepOn 46 = .ok (.putfield 22, 3) := dX4_stepOn_44_g.2.2.1
theorem dX4_stepOn_49 : decode cX4_stepOn 49 = .ok (.aload_n 0, 1) := dX4_stepOn_44_g.2.2.2.1
theorem dX4_stepOn_50 : decode cX4_stepOn 50 = .ok (.getfield 15, 3) := dX4_stepOn_44_g.2.2.2.2.1
theorem dX4_stepOn_53 : decode cX4_stepOn 53 = .ok (.aload_n 0, 1) := dX4_stepOn_44_g.2.2.2.2.2.1
theorem dX4_stepOn_54 : decode cX4_stepOn 54 = .ok (.getfield 22, 3) := dX4_stepOn_44_g.2.2.2.2.2.2.1
theorem dX4_stepOn_57 : decode cX4_stepOn 57 = .ok (.iaload, 1) := dX4_stepOn_44_g.2.2.2.2.2.2.2
theorem dX4_stepOn_58 : decode cX4_stepOn 58 = .ok (.ireturn, 1) := by decide +kernel
theorem dX5_init_0_g : (decode cX5_init 0 = .ok (.aload_n 0, 1)) ∧ (decode cX5_init 1 = .ok (.invokespecial 1, 3)) ∧ (decode cX5_init 4 = .ok (.aload_n 0, 1)) ∧ (decode cX5_init 5 = .ok (.bipush 16, 2)) ∧ (decode cX5_init 7 = .ok (.newarray .int, 2)) ∧ (decode cX5_init 9 = .ok (.putfield 7, 3)) ∧ (decode cX5_init 12 = .ok (.return_, 1)) := by decide +kernel
theorem dX5_init_0 : decode cX5_init 0 = .ok (.aload_n 0, 1) := dX5_init_0_g.1
theorem dX5_init_1 : decode cX5_init 1 = .ok (.invokespecial 1, 3) := dX5_init_0_g.2.1
theorem dX5_init_4 : decode cX5_init 4 = .ok (.aload_n 0, 1) := dX5_init_0_g.2.2.1
theorem dX5_init_5 : decode cX5_init 5 = .ok (.bipush 16, 2) := dX5_init_0_g.2.2.2.1
theorem dX5_init_7 : decode cX5_init 7 = .ok (.newarray .int, 2) := dX5_init_0_g.2.2.2.2.1
theorem dX5_init_9 : decode cX5_init 9 = .ok (.putfield 7, 3) := dX5_init_0_g.2.2.2.2.2.1
theorem dX5_init_12 : decode cX5_init 12 = .ok (.return_, 1) := dX5_init_0_g.2.2.2.2.2.2
theorem dX5_add_0_g : (decode cX5_add 0 = .ok (.aload_n 0, 1)) ∧ (decode cX5_add 1 = .ok (.getfield 13, 3)) ∧ (decode cX5_add 4 = .ok (.aload_n 0, 1)) ∧ (decode cX5_add 5 = .ok (.getfield 7, 3)) ∧ (decode cX5_add 8 = .ok (.arraylength, 1)) ∧ (decode cX5_add 9 = .ok (.if_icmp .ne 20, 3)) ∧ (decode cX5_add 12 = .ok (.aload_n 0, 1)) ∧ (decode cX5_add 13 = .ok (.aload_n 0, 1)) := by decide +kernel
theorem dX5_add_0 : decode cX5_add 0 = .ok (.aload_n 0, 1) := dX5_add_0_g.1
theorem dX5_add_1 : decode cX5_add 1 = .ok (.getfield 13, 3) := dX5_add_0_g.2.1
theorem dX5_add_4 : decode cX5_add 4 = .ok (.aload_n 0, 1) := dX5_add_0_g.2.2.1
theorem dX5_add_5 : decode cX5_add 5 = .ok (.getfield 7, 3) := dX5_add_0_g.2.2.2.1
theorem dX5_add_8 : decode cX5_add 8 = .ok (.arraylength, 1) := dX5_add_0_g.2.2.2.2.1
theorem dX5_add_9 : decode cX5_add 9 = .ok (.if_icmp .ne 20, 3) := dX5_add_0_g.2.2.2.2.2.1
theorem dX5_add_12 : decode cX5_add 12 = .ok (.aload_n 0, 1) := dX5_add_0_g.2.2.2.2.2.2.1
theorem dX5_add_13 : decode cX5_add 13 = .ok (.aload_n 0, 1) := dX5_add_0_g.2.2.2.2.2.2.2
theorem dX5_add_14_g : (decode cX5_add 14 = .ok (.getfield 7, 3)) ∧ (decode cX5_add 17 = .ok (.iconst 2, 1)) ∧ (decode cX5_add 18 = .ok (.aload_n 0, 1)) ∧ (decode cX5_add 19 = .ok (.getfield 13, 3)) ∧ (decode cX5_add 22 = .ok (.imul, 1)) ∧ (decode cX5_add 23 = .ok (.invokestatic 17, 3)) ∧ (decode cX5_add 26 = .ok (.putfield 7, 3)) ∧ (decode cX5_add 29 = .ok (.aload_n 0, 1)) := by decide +kernel
theorem dX5_add_14 : decode cX5_add 14 = .ok (.getfield 7, 3) := dX5_add_14_g.1
theorem dX5_add_17 : decode cX5_add 17 = .ok (.iconst 2, 1) := dX5_add_14_g.2.1
theorem dX5_add_18 : decode cX5_add 18 = .ok (.aload_n 0, 1) := dX5_add_14_g.2.2.1
theorem dX5_add_19 : decode cX5_add 19 = .ok (.getfield 13, 3) := dX5_add_14_g.2.2.2.1
theorem dX5_add_22 : decode cX5_add 22 = .ok (.imul, 1) := dX5_add_14_g.2.2.2.2.1
theorem dX5_add_23 : decode cX5_add 23 = .ok (.invokestatic 17, 3) := dX5_add_14_g.2.2.2.2.2.1
theorem dX5_add_26 : decode cX5_add 26 = .ok (.putfield 7, 3) := dX5_add_14_g.2.2.2.2.2.2.1
theorem dX5_add_29 : decode cX5_add 29 = .ok (.aload_n 0, 1) := dX5_add_14_g.2.2.2.2.2.2.2
theorem dX5_add_30_g : (decode cX5_add 30 = .ok (.getfield 7, 3)) ∧ (decode cX5_add 33 = .ok (.aload_n 0, 1)) ∧ (decode cX5_add 34 = .ok (.getfield 13, 3)) ∧ (decode cX5_add 37 = .ok (.iload_n 1, 1)) ∧ (decode cX5_add 38 = .ok (.iastore, 1)) ∧ (decode cX5_add 39 = .ok (.aload_n 0, 1)) ∧ (decode cX5_add 40 = .ok (.dup, 1)) ∧ (decode cX5_add 41 = .ok (.getfield 13, 3)) := by decide +kernel
theorem dX5_add_30 : decode cX5_add 30 = .ok (.getfield 7, 3) := dX5_add_30_g.1
theorem dX5_add_33 : decode cX5_add 33 = .ok (.aload_n 0, 1) := dX5_add_30_g.2.1
theorem dX5_add_34 : decode cX5_add 34 = .ok (.getfield 13, 3) := dX5_add_30_g.2.2.1
theorem dX5_add_37 : decode cX5_add 37 = .ok (.iload_n 1, 1) := dX5_add_30_g.2.2.2.1
theorem dX5_add_38 : decode cX5_add 38 = .ok (.iastore, 1) := dX5_add_30_g.2.2.2.2.1
theorem dX5_add_39 : decode cX5_add 39 = .ok (.aload_n 0, 1) := dX5_add_30_g.2.2.2.2.2.1
theorem dX5_add_40 : decode cX5_add 40 = .ok (.dup, 1) := dX5_add_30_g.2.2.2.2.2.2.1
theorem dX5_add_41 : decode cX5_add 41 = .ok (.getfield 13, 3) := dX5_add_30_g.2.2.2.2.2.2.2
theorem dX5_add_44_g : (decode cX5_add 44 = .ok (.iconst 1, 1)) ∧ (decode cX5_add 45 = .ok (.iadd, 1)) ∧ (decode cX5_add 46 = .ok (.putfield 13, 3)) ∧ (decode cX5_add 49 = .ok (.return_, 1)) := by decide +kernel
theorem dX5_add_44 : decode cX5_add 44 = .ok (.iconst 1, 1) := dX5_add_44_g.1
theorem dX5_add_45 : decode cX5_add 45 = .ok (.iadd, 1) := dX5_add_44_g.2.1
theorem dX5_add_46 : decode cX5_add 46 = .ok (.putfield 13, 3) := dX5_add_44_g.2.2.1
theorem dX5_add_49 : decode cX5_add 49 = .ok (.return_, 1) := dX5_add_44_g.2.2.2
theorem dX6_init_0_g : (decode cX6_init 0 = .ok (.aload_n 0, 1)) ∧ (decode cX6_init 1 = .ok (.invokespecial 3, 3)) ∧ (decode cX6_init 4 = .ok (.aload_n 0, 1)) ∧ (decode cX6_init 5 = .ok (.sipush 128, 3)) ∧ (decode cX6_init 8 = .ok (.newarray .int, 2)) ∧ (decode cX6_init 10 = .ok (.putfield 11, 3)) ∧ (decode cX6_init 13 = .ok (.aload_n 0, 1)) ∧ (decode cX6_init 14 = .ok (.iconst 0, 1)) := by decide +kernel
theorem dX6_init_0 : decode cX6_init 0 = .ok (.aload_n 0, 1) := dX6_init_0_g.1
theorem dX6_init_1 : decode cX6_init 1 = .ok (.invokespecial 3, 3) := dX6_init_0_g.2.1
theorem dX6_init_4 : decode cX6_init 4 = .ok (.aload_n 0, 1) := dX6_init_0_g.2.2.1
theorem dX6_init_5 : decode cX6_init 5 = .ok (.sipush 128, 3) := dX6_init_0_g.2.2.2.1
theorem dX6_init_8 : decode cX6_init 8 = .ok (.newarray .int, 2) := dX6_init_0_g.2.2.2.2.1
theorem dX6_init_10 : decode cX6_init 10 = .ok (.putfield 11, 3) := dX6_init_0_g.2.2.2.2.2.1
theorem dX6_init_13 : decode cX6_init 13 = .ok (.aload_n 0, 1) := dX6_init_0_g.2.2.2.2.2.2.1
theorem dX6_init_14 : decode cX6_init 14 = .ok (.iconst 0, 1) := dX6_init_0_g.2.2.2.2.2.2.2
theorem dX6_init_15_g : (decode cX6_init 15 = .ok (.newarray .int, 2)) ∧ (decode cX6_init 17 = .ok (.putfield 15, 3)) ∧ (decode cX6_init 20 = .ok (.aload_n 0, 1)) ∧ (decode cX6_init 21 = .ok (.iconst 0, 1)) ∧ (decode cX6_init 22 = .ok (.newarray .long, 2)) ∧ (decode cX6_init 24 = .ok (.putfield 18, 3)) ∧ (decode cX6_init 27 = .ok (.aload_n 0, 1)) ∧ (decode cX6_init 28 = .ok (.iconst 0, 1)) := by decide +kernel
theorem dX6_init_15 : decode cX6_init 15 = .ok (.newarray .int, 2) := dX6_init_15_g.1
theorem dX6_init_17 : decode cX6_init 17 = .ok (.putfield 15, 3) := dX6_init_15_g.2.1
theorem dX6_init_20 : decode cX6_init 20 = .ok (.aload_n 0, 1) := dX6_init_15_g.2.2.1
theorem dX6_init_21 : decode cX6_init 21 = .ok (.iconst 0, 1) := dX6_init_15_g.2.2.2.1
theorem dX6_init_22 : decode cX6_init 22 = .ok (.newarray .long, 2) := dX6_init_15_g.2.2.2.2.1
theorem dX6_init_24 : decode cX6_init 24 = .ok (.putfield 18, 3) := dX6_init_15_g.2.2.2.2.2.1
theorem dX6_init_27 : decode cX6_init 27 = .ok (.aload_n 0, 1) := dX6_init_15_g.2.2.2.2.2.2.1
theorem dX6_init_28 : decode cX6_init 28 = .ok (.iconst 0, 1) := dX6_init_15_g.2.2.2.2.2.2.2
theorem dX6_init_29_g : (decode cX6_init 29 = .ok (.newarray .int, 2)) ∧ (decode cX6_init 31 = .ok (.putfield 22, 3)) ∧ (decode cX6_init 34 = .ok (.aload_n 0, 1)) ∧ (decode cX6_init 35 = .ok (.iconst 0, 1)) ∧ (decode cX6_init 36 = .ok (.newarray .int, 2)) ∧ (decode cX6_init 38 = .ok (.putfield 25, 3)) ∧ (decode cX6_init 41 = .ok (.aload_n 0, 1)) ∧ (decode cX6_init 42 = .ok (.iconst 0, 1)) := by decide +kernel
theorem dX6_init_29 : decode cX6_init 29 = .ok (.newarray .int, 2) := dX6_init_29_g.1
theorem dX6_init_31 : decode cX6_init 31 = .ok (.putfield 22, 3) := dX6_init_29_g.2.1
theorem dX6_init_34 : decode cX6_init 34 = .ok (.aload_n 0, 1) := dX6_init_29_g.2.2.1
theorem dX6_init_35 : decode cX6_init 35 = .ok (.iconst 0, 1) := dX6_init_29_g.2.2.2.1
theorem dX6_init_36 : decode cX6_init 36 = .ok (.newarray .int, 2) := dX6_init_29_g.2.2.2.2.1
theorem dX6_init_38 : decode cX6_init 38 = .ok (.putfield 25, 3) := dX6_init_29_g.2.2.2.2.2.1
theorem dX6_init_41 : decode cX6_init 41 = .ok (.aload_n 0, 1) := dX6_init_29_g.2.2.2.2.2.2.1
theorem dX6_init_42 : decode cX6_init 42 = .ok (.iconst 0, 1) := dX6_init_29_g.2.2.2.2.2.2.2
theorem dX6_init_43_g : (decode cX6_init 43 = .ok (.newarray .int, 2)) ∧ (decode cX6_init 45 = .ok (.putfield 28, 3)) ∧ (decode cX6_init 48 = .ok (.aload_n 0, 1)) ∧ (decode cX6_init 49 = .ok (.iconst 0, 1)) ∧ (decode cX6_init 50 = .ok (.newarray .int, 2)) ∧ (decode cX6_init 52 = .ok (.putfield 31, 3)) ∧ (decode cX6_init 55 = .ok (.aload_n 0, 1)) ∧ (decode cX6_init 56 = .ok (.iconst (-1), 1)) := by decide +kernel
theorem dX6_init_43 : decode cX6_init 43 = .ok (.newarray .int, 2) := dX6_init_43_g.1
theorem dX6_init_45 : decode cX6_init 45 = .ok (.putfield 28, 3) := dX6_init_43_g.2.1
theorem dX6_init_48 : decode cX6_init 48 = .ok (.aload_n 0, 1) := dX6_init_43_g.2.2.1
theorem dX6_init_49 : decode cX6_init 49 = .ok (.iconst 0, 1) := dX6_init_43_g.2.2.2.1
theorem dX6_init_50 : decode cX6_init 50 = .ok (.newarray .int, 2) := dX6_init_43_g.2.2.2.2.1
theorem dX6_init_52 : decode cX6_init 52 = .ok (.putfield 31, 3) := dX6_init_43_g.2.2.2.2.2.1
theorem dX6_init_55 : decode cX6_init 55 = .ok (.aload_n 0, 1) := dX6_init_43_g.2.2.2.2.2.2.1
theorem dX6_init_56 : decode cX6_init 56 = .ok (.iconst (-1), 1) := dX6_init_43_g.2.2.2.2.2.2.2
theorem dX6_init_57_g : (decode cX6_init 57 = .ok (.putfield 34, 3)) ∧ (decode cX6_init 60 = .ok (.return_, 1)) := by decide +kernel
theorem dX6_init_57 : decode cX6_init 57 = .ok (.putfield 34, 3) := dX6_init_57_g.1
theorem dX6_init_60 : decode cX6_init 60 = .ok (.return_, 1) := dX6_init_57_g.2
theorem dX6_forget_0_g : (decode cX6_forget 0 = .ok (.aload_n 0, 1)) ∧ (decode cX6_forget 1 = .ok (.iconst (-1), 1)) ∧ (decode cX6_forget 2 = .ok (.putfield 34, 3)) ∧ (decode cX6_forget 5 = .ok (.return_, 1)) := by decide +kernel
theorem dX6_forget_0 : decode cX6_forget 0 = .ok (.aload_n 0, 1) := dX6_forget_0_g.1
theorem dX6_forget_1 : decode cX6_forget 1 = .ok (.iconst (-1), 1) := dX6_forget_0_g.2.1
theorem dX6_forget_2 : decode cX6_forget 2 = .ok (.putfield 34, 3) := dX6_forget_0_g.2.2.1
theorem dX6_forget_5 : decode cX6_forget 5 = .ok (.return_, 1) := dX6_forget_0_g.2.2.2
theorem dX6_from_0_g : (decode cX6_from 0 = .ok (.aload_n 0, 1)) ∧ (decode cX6_from 1 = .ok (.getfield 34, 3)) ∧ (decode cX6_from 4 = .ok (.iload_n 3, 1)) ∧ (decode cX6_from 5 = .ok (.if_icmp .ne 4, 3)) ∧ (decode cX6_from 8 = .ok (.return_, 1)) ∧ (decode cX6_from 9 = .ok (.aload_n 0, 1)) ∧ (decode cX6_from 10 = .ok (.iload_n 3, 1)) ∧ (decode cX6_from 11 = .ok (.putfield 34, 3)) := by decide +kernel
theorem dX6_from_0 : decode cX6_from 0 = .ok (.aload_n 0, 1) := dX6_from_0_g.1
theorem dX6_from_1 : decode cX6_from 1 = .ok (.getfield 34, 3) := dX6_from_0_g.2.1
theorem dX6_from_4 : decode cX6_from 4 = .ok (.iload_n 3, 1) := dX6_from_0_g.2.2.1
theorem dX6_from_5 : decode cX6_from 5 = .ok (.if_icmp .ne 4, 3) := dX6_from_0_g.2.2.2.1
theorem dX6_from_8 : decode cX6_from 8 = .ok (.return_, 1) := dX6_from_0_g.2.2.2.2.1
theorem dX6_from_9 : decode cX6_from 9 = .ok (.aload_n 0, 1) := dX6_from_0_g.2.2.2.2.2.1
theorem dX6_from_10 : decode cX6_from 10 = .ok (.iload_n 3, 1) := dX6_from_0_g.2.2.2.2.2.2.1
theorem dX6_from_11 : decode cX6_from 11 = .ok (.putfield 34, 3) := dX6_from_0_g.2.2.2.2.2.2.2
theorem dX6_from_14_g : (decode cX6_from 14 = .ok (.aload_n 0, 1)) ∧ (decode cX6_from 15 = .ok (.aload_n 1, 1)) ∧ (decode cX6_from 16 = .ok (.getfield 38, 3)) ∧ (decode cX6_from 19 = .ok (.invokevirtual 43, 3)) ∧ (decode cX6_from 22 = .ok (.aload_n 0, 1)) ∧ (decode cX6_from 23 = .ok (.iload_n 3, 1)) ∧ (decode cX6_from 24 = .ok (.iconst 0, 1)) ∧ (decode cX6_from 25 = .ok (.lconst 1, 1)) := by decide +kernel
theorem dX6_from_14 : decode cX6_from 14 = .ok (.aload_n 0, 1) := dX6_from_14_g.1
theorem dX6_from_15 : decode cX6_from 15 = .ok (.aload_n 1, 1) := dX6_from_14_g.2.1
theorem dX6_from_16 : decode cX6_from 16 = .ok (.getfield 38, 3) := dX6_from_14_g.2.2.1
theorem dX6_from_19 : decode cX6_from 19 = .ok (.invokevirtual 43, 3) := dX6_from_14_g.2.2.2.1
theorem dX6_from_22 : decode cX6_from 22 = .ok (.aload_n 0, 1) := dX6_from_14_g.2.2.2.2.1
theorem dX6_from_23 : decode cX6_from 23 = .ok (.iload_n 3, 1) := dX6_from_14_g.2.2.2.2.2.1
theorem dX6_from_24 : decode cX6_from 24 = .ok (.iconst 0, 1) := dX6_from_14_g.2.2.2.2.2.2.1
theorem dX6_from_25 : decode cX6_from 25 = .ok (.lconst 1, 1) := dX6_from_14_g.2.2.2.2.2.2.2
theorem dX6_from_26_g : (decode cX6_from 26 = .ok (.invokevirtual 47, 3)) ∧ (decode cX6_from 29 = .ok (.iconst 0, 1)) ∧ (decode cX6_from 30 = .ok (.istore 4, 2)) ∧ (decode cX6_from 32 = .ok (.iconst 0, 1)) ∧ (decode cX6_from 33 = .ok (.istore 5, 2)) ∧ (decode cX6_from 35 = .ok (.iload 5, 2)) ∧ (decode cX6_from 37 = .ok (.aload_n 1, 1)) ∧ (decode cX6_from 38 = .ok (.getfield 38, 3)) := by decide +kernel
theorem dX6_from_26 : decode cX6_from 26 = .ok (.invokevirtual 47, 3) := dX6_from_26_g.1
theorem dX6_from_29 : decode cX6_from 29 = .ok (.iconst 0, 1) := dX6_from_26_g.2.1
theorem dX6_from_30 : decode cX6_from 30 = .ok (.istore 4, 2) := dX6_from_26_g.2.2.1
theorem dX6_from_32 : decode cX6_from 32 = .ok (.iconst 0, 1) := dX6_from_26_g.2.2.2.1
theorem dX6_from_33 : decode cX6_from 33 = .ok (.istore 5, 2) := dX6_from_26_g.2.2.2.2.1
theorem dX6_from_35 : decode cX6_from 35 = .ok (.iload 5, 2) := dX6_from_26_g.2.2.2.2.2.1
theorem dX6_from_37 : decode cX6_from 37 = .ok (.aload_n 1, 1) := dX6_from_26_g.2.2.2.2.2.2.1
theorem dX6_from_38 : decode cX6_from 38 = .ok (.getfield 38, 3) := dX6_from_26_g.2.2.2.2.2.2.2
theorem dX6_from_41_g : (decode cX6_from 41 = .ok (.if_icmp .ge 129, 3)) ∧ (decode cX6_from 44 = .ok (.aload_n 0, 1)) ∧ (decode cX6_from 45 = .ok (.iload 4, 2)) ∧ (decode cX6_from 47 = .ok (.invokevirtual 51, 3)) ∧ (decode cX6_from 50 = .ok (.istore 6, 2)) ∧ (decode cX6_from 52 = .ok (.iload 6, 2)) ∧ (decode cX6_from 54 = .ok (.iconst (-1), 1)) ∧ (decode cX6_from 55 = .ok (.if_icmp .ne 6, 3)) := by decide +kernel
theorem dX6_from_41 : decode cX6_from 41 = .ok (.if_icmp .ge 129, 3) := dX6_from_41_g.1
theorem dX6_from_44 : decode cX6_from 44 = .ok (.aload_n 0, 1) := dX6_from_41_g.2.1
theorem dX6_from_45 : decode cX6_from 45 = .ok (.iload 4, 2) := dX6_from_41_g.2.2.1
theorem dX6_from_47 : decode cX6_from 47 = .ok (.invokevirtual 51, 3) := dX6_from_41_g.2.2.2.1
theorem dX6_from_50 : decode cX6_from 50 = .ok (.istore 6, 2) := dX6_from_41_g.2.2.2.2.1
theorem dX6_from_52 : decode cX6_from 52 = .ok (.iload 6, 2) := dX6_from_41_g.2.2.2.2.2.1
theorem dX6_from_54 : decode cX6_from 54 = .ok (.iconst (-1), 1) := dX6_from_41_g.2.2.2.2.2.2.1
theorem dX6_from_55 : decode cX6_from 55 = .ok (.if_icmp .ne 6, 3) := dX6_from_41_g.2.2.2.2.2.2.2
theorem dX6_from_58_g : (decode cX6_from 58 = .ok (.goto 112, 3)) ∧ (decode cX6_from 61 = .ok (.aload_n 0, 1)) ∧ (decode cX6_from 62 = .ok (.getfield 11, 3)) ∧ (decode cX6_from 65 = .ok (.iload 6, 2)) ∧ (decode cX6_from 67 = .ok (.iaload, 1)) ∧ (decode cX6_from 68 = .ok (.istore 7, 2)) ∧ (decode cX6_from 70 = .ok (.aload_n 0, 1)) ∧ (decode cX6_from 71 = .ok (.iload 7, 2)) := by decide +kernel
theorem dX6_from_58 : decode cX6_from 58 = .ok (.goto 112, 3) := dX6_from_58_g.1
theorem dX6_from_61 : decode cX6_from 61 = .ok (.aload_n 0, 1) := dX6_from_58_g.2.1
theorem dX6_from_62 : decode cX6_from 62 = .ok (.getfield 11, 3) := dX6_from_58_g.2.2.1
theorem dX6_from_65 : decode cX6_from 65 = .ok (.iload 6, 2) := dX6_from_58_g.2.2.2.1
theorem dX6_from_67 : decode cX6_from 67 = .ok (.iaload, 1) := dX6_from_58_g.2.2.2.2.1
theorem dX6_from_68 : decode cX6_from 68 = .ok (.istore 7, 2) := dX6_from_58_g.2.2.2.2.2.1
theorem dX6_from_70 : decode cX6_from 70 = .ok (.aload_n 0, 1) := dX6_from_58_g.2.2.2.2.2.2.1
theorem dX6_from_71 : decode cX6_from 71 = .ok (.iload 7, 2) := dX6_from_58_g.2.2.2.2.2.2.2
theorem dX6_from_73_g : (decode cX6_from 73 = .ok (.invokevirtual 55, 3)) ∧ (decode cX6_from 76 = .ok (.aload_n 0, 1)) ∧ (decode cX6_from 77 = .ok (.getfield 15, 3)) ∧ (decode cX6_from 80 = .ok (.iload 7, 2)) ∧ (decode cX6_from 82 = .ok (.iaload, 1)) ∧ (decode cX6_from 83 = .ok (.istore 4, 2)) ∧ (decode cX6_from 85 = .ok (.aload_n 0, 1)) ∧ (decode cX6_from 86 = .ok (.getfield 22, 3)) := by decide +kernel
theorem dX6_from_73 : decode cX6_from 73 = .ok (.invokevirtual 55, 3) := dX6_from_73_g.1
theorem dX6_from_76 : decode cX6_from 76 = .ok (.aload_n 0, 1) := dX6_from_73_g.2.1
theorem dX6_from_77 : decode cX6_from 77 = .ok (.getfield 15, 3) := dX6_from_73_g.2.2.1
theorem dX6_from_80 : decode cX6_from 80 = .ok (.iload 7, 2) := dX6_from_73_g.2.2.2.1
theorem dX6_from_82 : decode cX6_from 82 = .ok (.iaload, 1) := dX6_from_73_g.2.2.2.2.1
theorem dX6_from_83 : decode cX6_from 83 = .ok (.istore 4, 2) := dX6_from_73_g.2.2.2.2.2.1
theorem dX6_from_85 : decode cX6_from 85 = .ok (.aload_n 0, 1) := dX6_from_73_g.2.2.2.2.2.2.1
theorem dX6_from_86 : decode cX6_from 86 = .ok (.getfield 22, 3) := dX6_from_73_g.2.2.2.2.2.2.2
theorem dX6_from_89_g : (decode cX6_from 89 = .ok (.aload_n 0, 1)) ∧ (decode cX6_from 90 = .ok (.getfield 58, 3)) ∧ (decode cX6_from 93 = .ok (.iload 7, 2)) ∧ (decode cX6_from 95 = .ok (.iastore, 1)) ∧ (decode cX6_from 96 = .ok (.aload_n 0, 1)) ∧ (decode cX6_from 97 = .ok (.dup, 1)) ∧ (decode cX6_from 98 = .ok (.getfield 58, 3)) ∧ (decode cX6_from 101 = .ok (.iconst 1, 1)) := by decide +kernel
theorem dX6_from_89 : decode cX6_from 89 = .ok (.aload_n 0, 1) := dX6_from_89_g.1
theorem dX6_from_90 : decode cX6_from 90 = .ok (.getfield 58, 3) := dX6_from_89_g.2.1
theorem dX6_from_93 : decode cX6_from 93 = .ok (.iload 7, 2) := dX6_from_89_g.2.2.1
theorem dX6_from_95 : decode cX6_from 95 = .ok (.iastore, 1) := dX6_from_89_g.2.2.2.1
theorem dX6_from_96 : decode cX6_from 96 = .ok (.aload_n 0, 1) := dX6_from_89_g.2.2.2.2.1
theorem dX6_from_97 : decode cX6_from 97 = .ok (.dup, 1) := dX6_from_89_g.2.2.2.2.2.1
theorem dX6_from_98 : decode cX6_from 98 = .ok (.getfield 58, 3) := dX6_from_89_g.2.2.2.2.2.2.1
theorem dX6_from_101 : decode cX6_from 101 = .ok (.iconst 1, 1) := dX6_from_89_g.2.2.2.2.2.2.2
theorem dX6_from_102_g : (decode cX6_from 102 = .ok (.iadd, 1)) ∧ (decode cX6_from 103 = .ok (.putfield 58, 3)) ∧ (decode cX6_from 106 = .ok (.aload_n 2, 1)) ∧ (decode cX6_from 107 = .ok (.aload_n 1, 1)) ∧ (decode cX6_from 108 = .ok (.iload 7, 2)) ∧ (decode cX6_from 110 = .ok (.invokevirtual 61, 3)) ∧ (decode cX6_from 113 = .ok (.aload_n 2, 1)) ∧ (decode cX6_from 114 = .ok (.aload_n 1, 1)) := by decide +kernel
theorem dX6_from_102 : decode cX6_from 102 = .ok (.iadd, 1) := dX6_from_102_g.1
theorem dX6_from_103 : decode cX6_from 103 = .ok (.putfield 58, 3) := dX6_from_102_g.2.1
theorem dX6_from_106 : decode cX6_from 106 = .ok (.aload_n 2, 1) := dX6_from_102_g.2.2.1
theorem dX6_from_107 : decode cX6_from 107 = .ok (.aload_n 1, 1) := dX6_from_102_g.2.2.2.1
theorem dX6_from_108 : decode cX6_from 108 = .ok (.iload 7, 2) := dX6_from_102_g.2.2.2.2.1
theorem dX6_from_110 : decode cX6_from 110 = .ok (.invokevirtual 61, 3) := dX6_from_102_g.2.2.2.2.2.1
theorem dX6_from_113 : decode cX6_from 113 = .ok (.aload_n 2, 1) := dX6_from_102_g.2.2.2.2.2.2.1
theorem dX6_from_114 : decode cX6_from 114 = .ok (.aload_n 1, 1) := dX6_from_102_g.2.2.2.2.2.2.2
theorem dX6_from_115_g : (decode cX6_from 115 = .ok (.invokevirtual 67, 3)) ∧ (decode cX6_from 118 = .ok (.iconst 0, 1)) ∧ (decode cX6_from 119 = .ok (.istore 8, 2)) ∧ (decode cX6_from 121 = .ok (.iload 8, 2)) ∧ (decode cX6_from 123 = .ok (.aload_n 2, 1)) ∧ (decode cX6_from 124 = .ok (.getfield 71, 3)) ∧ (decode cX6_from 127 = .ok (.if_icmp .ge 37, 3)) ∧ (decode cX6_from 130 = .ok (.aload_n 0, 1)) := by decide +kernel
theorem dX6_from_115 : decode cX6_from 115 = .ok (.invokevirtual 67, 3) := dX6_from_115_g.1
theorem dX6_from_118 : decode cX6_from 118 = .ok (.iconst 0, 1) := dX6_from_115_g.2.1
theorem dX6_from_119 : decode cX6_from 119 = .ok (.istore 8, 2) := dX6_from_115_g.2.2.1
theorem dX6_from_121 : decode cX6_from 121 = .ok (.iload 8, 2) := dX6_from_115_g.2.2.2.1
theorem dX6_from_123 : decode cX6_from 123 = .ok (.aload_n 2, 1) := dX6_from_115_g.2.2.2.2.1
theorem dX6_from_124 : decode cX6_from 124 = .ok (.getfield 71, 3) := dX6_from_115_g.2.2.2.2.2.1
theorem dX6_from_127 : decode cX6_from 127 = .ok (.if_icmp .ge 37, 3) := dX6_from_115_g.2.2.2.2.2.2.1
theorem dX6_from_130 : decode cX6_from 130 = .ok (.aload_n 0, 1) := dX6_from_115_g.2.2.2.2.2.2.2
theorem dX6_from_131_g : (decode cX6_from 131 = .ok (.aload_n 2, 1)) ∧ (decode cX6_from 132 = .ok (.getfield 74, 3)) ∧ (decode cX6_from 135 = .ok (.iload 8, 2)) ∧ (decode cX6_from 137 = .ok (.iaload, 1)) ∧ (decode cX6_from 138 = .ok (.iload 4, 2)) ∧ (decode cX6_from 140 = .ok (.aload_n 2, 1)) ∧ (decode cX6_from 141 = .ok (.getfield 77, 3)) ∧ (decode cX6_from 144 = .ok (.iload 8, 2)) := by decide +kernel
theorem dX6_from_131 : decode cX6_from 131 = .ok (.aload_n 2, 1) := dX6_from_131_g.1
theorem dX6_from_132 : decode cX6_from 132 = .ok (.getfield 74, 3) := dX6_from_131_g.2.1
theorem dX6_from_135 : decode cX6_from 135 = .ok (.iload 8, 2) := dX6_from_131_g.2.2.1
theorem dX6_from_137 : decode cX6_from 137 = .ok (.iaload, 1) := dX6_from_131_g.2.2.2.1
theorem dX6_from_138 : decode cX6_from 138 = .ok (.iload 4, 2) := dX6_from_131_g.2.2.2.2.1
theorem dX6_from_140 : decode cX6_from 140 = .ok (.aload_n 2, 1) := dX6_from_131_g.2.2.2.2.2.1
theorem dX6_from_141 : decode cX6_from 141 = .ok (.getfield 77, 3) := dX6_from_131_g.2.2.2.2.2.2.1
theorem dX6_from_144 : decode cX6_from 144 = .ok (.iload 8, 2) := dX6_from_131_g.2.2.2.2.2.2.2
theorem dX6_from_146_g : (decode cX6_from 146 = .ok (.iaload, 1)) ∧ (decode cX6_from 147 = .ok (.iadd, 1)) ∧ (decode cX6_from 148 = .ok (.aload_n 0, 1)) ∧ (decode cX6_from 149 = .ok (.getfield 18, 3)) ∧ (decode cX6_from 152 = .ok (.iload 7, 2)) ∧ (decode cX6_from 154 = .ok (.laload, 1)) ∧ (decode cX6_from 155 = .ok (.invokevirtual 47, 3)) ∧ (decode cX6_from 158 = .ok (.iinc 8 1, 3)) := by decide +kernel
theorem dX6_from_146 : decode cX6_from 146 = .ok (.iaload, 1) := dX6_from_146_g.1
theorem dX6_from_147 : decode cX6_from 147 = .ok (.iadd, 1) := dX6_from_146_g.2.1
theorem dX6_from_148 : decode cX6_from 148 = .ok (.aload_n 0, 1) := dX6_from_146_g.2.2.1
theorem dX6_from_149 : decode cX6_from 149 = .ok (.getfield 18, 3) := dX6_from_146_g.2.2.2.1
theorem dX6_from_152 : decode cX6_from 152 = .ok (.iload 7, 2) := dX6_from_146_g.2.2.2.2.1
theorem dX6_from_154 : decode cX6_from 154 = .ok (.laload, 1) := dX6_from_146_g.2.2.2.2.2.1
theorem dX6_from_155 : decode cX6_from 155 = .ok (.invokevirtual 47, 3) := dX6_from_146_g.2.2.2.2.2.2.1
theorem dX6_from_158 : decode cX6_from 158 = .ok (.iinc 8 1, 3) := dX6_from_146_g.2.2.2.2.2.2.2
theorem dX6_from_161_g : (decode cX6_from 161 = .ok (.goto (-40), 3)) ∧ (decode cX6_from 164 = .ok (.iinc 5 1, 3)) ∧ (decode cX6_from 167 = .ok (.goto (-132), 3)) ∧ (decode cX6_from 170 = .ok (.return_, 1)) := by decide +kernel
theorem dX6_from_161 : decode cX6_from 161 = .ok (.goto (-40), 3) := dX6_from_161_g.1
theorem dX6_from_164 : decode cX6_from 164 = .ok (.iinc 5 1, 3) := dX6_from_161_g.2.1
theorem dX6_from_167 : decode cX6_from 167 = .ok (.goto (-132), 3) := dX6_from_161_g.2.2.1
theorem dX6_from_170 : decode cX6_from 170 = .ok (.return_, 1) := dX6_from_161_g.2.2.2
theorem dX6_prepare_0_g : (decode cX6_prepare 0 = .ok (.aload_n 0, 1)) ∧ (decode cX6_prepare 1 = .ok (.getfield 15, 3)) ∧ (decode cX6_prepare 4 = .ok (.arraylength, 1)) ∧ (decode cX6_prepare 5 = .ok (.iload_n 1, 1)) ∧ (decode cX6_prepare 6 = .ok (.if_icmp .ge 45, 3)) ∧ (decode cX6_prepare 9 = .ok (.aload_n 0, 1)) ∧ (decode cX6_prepare 10 = .ok (.iload_n 1, 1)) ∧ (decode cX6_prepare 11 = .ok (.newarray .int, 2)) := by decide +kernel
theorem dX6_prepare_0 : decode cX6_prepare 0 = .ok (.aload_n 0, 1) := dX6_prepare_0_g.1
theorem dX6_prepare_1 : decode cX6_prepare 1 = .ok (.getfield 15, 3) := dX6_prepare_0_g.2.1
theorem dX6_prepare_4 : decode cX6_prepare 4 = .ok (.arraylength, 1) := dX6_prepare_0_g.2.2.1
theorem dX6_prepare_5 : decode cX6_prepare 5 = .ok (.iload_n 1, 1) := dX6_prepare_0_g.2.2.2.1
theorem dX6_prepare_6 : decode cX6_prepare 6 = .ok (.if_icmp .ge 45, 3) := dX6_prepare_0_g.2.2.2.2.1
theorem dX6_prepare_9 : decode cX6_prepare 9 = .ok (.aload_n 0, 1) := dX6_prepare_0_g.2.2.2.2.2.1
theorem dX6_prepare_10 : decode cX6_prepare 10 = .ok (.iload_n 1, 1) := dX6_prepare_0_g.2.2.2.2.2.2.1
theorem dX6_prepare_11 : decode cX6_prepare 11 = .ok (.newarray .int, 2) := dX6_prepare_0_g.2.2.2.2.2.2.2
theorem dX6_prepare_13_g : (decode cX6_prepare 13 = .ok (.putfield 15, 3)) ∧ (decode cX6_prepare 16 = .ok (.aload_n 0, 1)) ∧ (decode cX6_prepare 17 = .ok (.iload_n 1, 1)) ∧ (decode cX6_prepare 18 = .ok (.newarray .long, 2)) ∧ (decode cX6_prepare 20 = .ok (.putfield 18, 3)) ∧ (decode cX6_prepare 23 = .ok (.aload_n 0, 1)) ∧ (decode cX6_prepare 24 = .ok (.iload_n 1, 1)) ∧ (decode cX6_prepare 25 = .ok (.newarray .int, 2)) := by decide +kernel
theorem dX6_prepare_13 : decode cX6_prepare 13 = .ok (.putfield 15, 3) := dX6_prepare_13_g.1
theorem dX6_prepare_16 : decode cX6_prepare 16 = .ok (.aload_n 0, 1) := dX6_prepare_13_g.2.1
theorem dX6_prepare_17 : decode cX6_prepare 17 = .ok (.iload_n 1, 1) := dX6_prepare_13_g.2.2.1
theorem dX6_prepare_18 : decode cX6_prepare 18 = .ok (.newarray .long, 2) := dX6_prepare_13_g.2.2.2.1
theorem dX6_prepare_20 : decode cX6_prepare 20 = .ok (.putfield 18, 3) := dX6_prepare_13_g.2.2.2.2.1
theorem dX6_prepare_23 : decode cX6_prepare 23 = .ok (.aload_n 0, 1) := dX6_prepare_13_g.2.2.2.2.2.1
theorem dX6_prepare_24 : decode cX6_prepare 24 = .ok (.iload_n 1, 1) := dX6_prepare_13_g.2.2.2.2.2.2.1
theorem dX6_prepare_25 : decode cX6_prepare 25 = .ok (.newarray .int, 2) := dX6_prepare_13_g.2.2.2.2.2.2.2
theorem dX6_prepare_27_g : (decode cX6_prepare 27 = .ok (.putfield 22, 3)) ∧ (decode cX6_prepare 30 = .ok (.aload_n 0, 1)) ∧ (decode cX6_prepare 31 = .ok (.iload_n 1, 1)) ∧ (decode cX6_prepare 32 = .ok (.newarray .int, 2)) ∧ (decode cX6_prepare 34 = .ok (.putfield 25, 3)) ∧ (decode cX6_prepare 37 = .ok (.aload_n 0, 1)) ∧ (decode cX6_prepare 38 = .ok (.iload_n 1, 1)) ∧ (decode cX6_prepare 39 = .ok (.newarray .int, 2)) := by decide +kernel
theorem dX6_prepare_27 : decode cX6_prepare 27 = .ok (.putfield 22, 3) := dX6_prepare_27_g.1
theorem dX6_prepare_30 : decode cX6_prepare 30 = .ok (.aload_n 0, 1) := dX6_prepare_27_g.2.1
theorem dX6_prepare_31 : decode cX6_prepare 31 = .ok (.iload_n 1, 1) := dX6_prepare_27_g.2.2.1
theorem dX6_prepare_32 : decode cX6_prepare 32 = .ok (.newarray .int, 2) := dX6_prepare_27_g.2.2.2.1
theorem dX6_prepare_34 : decode cX6_prepare 34 = .ok (.putfield 25, 3) := dX6_prepare_27_g.2.2.2.2.1
theorem dX6_prepare_37 : decode cX6_prepare 37 = .ok (.aload_n 0, 1) := dX6_prepare_27_g.2.2.2.2.2.1
theorem dX6_prepare_38 : decode cX6_prepare 38 = .ok (.iload_n 1, 1) := dX6_prepare_27_g.2.2.2.2.2.2.1
theorem dX6_prepare_39 : decode cX6_prepare 39 = .ok (.newarray .int, 2) := dX6_prepare_27_g.2.2.2.2.2.2.2
theorem dX6_prepare_41_g : (decode cX6_prepare 41 = .ok (.putfield 28, 3)) ∧ (decode cX6_prepare 44 = .ok (.aload_n 0, 1)) ∧ (decode cX6_prepare 45 = .ok (.iload_n 1, 1)) ∧ (decode cX6_prepare 46 = .ok (.newarray .int, 2)) ∧ (decode cX6_prepare 48 = .ok (.putfield 31, 3)) ∧ (decode cX6_prepare 51 = .ok (.aload_n 0, 1)) ∧ (decode cX6_prepare 52 = .ok (.getfield 15, 3)) ∧ (decode cX6_prepare 55 = .ok (.iconst (-1), 1)) := by decide +kernel
theorem dX6_prepare_41 : decode cX6_prepare 41 = .ok (.putfield 28, 3) := dX6_prepare_41_g.1
theorem dX6_prepare_44 : decode cX6_prepare 44 = .ok (.aload_n 0, 1) := dX6_prepare_41_g.2.1
theorem dX6_prepare_45 : decode cX6_prepare 45 = .ok (.iload_n 1, 1) := dX6_prepare_41_g.2.2.1
theorem dX6_prepare_46 : decode cX6_prepare 46 = .ok (.newarray .int, 2) := dX6_prepare_41_g.2.2.2.1
theorem dX6_prepare_48 : decode cX6_prepare 48 = .ok (.putfield 31, 3) := dX6_prepare_41_g.2.2.2.2.1
theorem dX6_prepare_51 : decode cX6_prepare 51 = .ok (.aload_n 0, 1) := dX6_prepare_41_g.2.2.2.2.2.1
theorem dX6_prepare_52 : decode cX6_prepare 52 = .ok (.getfield 15, 3) := dX6_prepare_41_g.2.2.2.2.2.2.1
theorem dX6_prepare_55 : decode cX6_prepare 55 = .ok (.iconst (-1), 1) := dX6_prepare_41_g.2.2.2.2.2.2.2
theorem dX6_prepare_56_g : (decode cX6_prepare 56 = .ok (.invokestatic 80, 3)) ∧ (decode cX6_prepare 59 = .ok (.aload_n 0, 1)) ∧ (decode cX6_prepare 60 = .ok (.getfield 11, 3)) ∧ (decode cX6_prepare 63 = .ok (.iconst (-1), 1)) ∧ (decode cX6_prepare 64 = .ok (.invokestatic 80, 3)) ∧ (decode cX6_prepare 67 = .ok (.aload_n 0, 1)) ∧ (decode cX6_prepare 68 = .ok (.getfield 18, 3)) ∧ (decode cX6_prepare 71 = .ok (.lconst 0, 1)) := by decide +kernel
theorem dX6_prepare_56 : decode cX6_prepare 56 = .ok (.invokestatic 80, 3) := dX6_prepare_56_g.1
theorem dX6_prepare_59 : decode cX6_prepare 59 = .ok (.aload_n 0, 1) := dX6_prepare_56_g.2.1
theorem dX6_prepare_60 : decode cX6_prepare 60 = .ok (.getfield 11, 3) := dX6_prepare_56_g.2.2.1
theorem dX6_prepare_63 : decode cX6_prepare 63 = .ok (.iconst (-1), 1) := dX6_prepare_56_g.2.2.2.1
theorem dX6_prepare_64 : decode cX6_prepare 64 = .ok (.invokestatic 80, 3) := dX6_prepare_56_g.2.2.2.2.1
theorem dX6_prepare_67 : decode cX6_prepare 67 = .ok (.aload_n 0, 1) := dX6_prepare_56_g.2.2.2.2.2.1
theorem dX6_prepare_68 : decode cX6_prepare 68 = .ok (.getfield 18, 3) := dX6_prepare_56_g.2.2.2.2.2.2.1
theorem dX6_prepare_71 : decode cX6_prepare 71 = .ok (.lconst 0, 1) := dX6_prepare_56_g.2.2.2.2.2.2.2
theorem dX6_prepare_72_g : (decode cX6_prepare 72 = .ok (.invokestatic 86, 3)) ∧ (decode cX6_prepare 75 = .ok (.aload_n 0, 1)) ∧ (decode cX6_prepare 76 = .ok (.iconst 0, 1)) ∧ (decode cX6_prepare 77 = .ok (.putfield 58, 3)) ∧ (decode cX6_prepare 80 = .ok (.return_, 1)) := by decide +kernel
theorem dX6_prepare_72 : decode cX6_prepare 72 = .ok (.invokestatic 86, 3) := dX6_prepare_72_g.1
theorem dX6_prepare_75 : decode cX6_prepare 75 = .ok (.aload_n 0, 1) := dX6_prepare_72_g.2.1
theorem dX6_prepare_76 : decode cX6_prepare 76 = .ok (.iconst 0, 1) := dX6_prepare_72_g.2.2.1
theorem dX6_prepare_77 : decode cX6_prepare 77 = .ok (.putfield 58, 3) := dX6_prepare_72_g.2.2.2.1
theorem dX6_prepare_80 : decode cX6_prepare 80 = .ok (.return_, 1) := dX6_prepare_72_g.2.2.2.2
theorem dX6_slotFrom_0_g : (decode cX6_slotFrom 0 = .ok (.iconst 0, 1)) ∧ (decode cX6_slotFrom 1 = .ok (.istore_n 2, 1)) ∧ (decode cX6_slotFrom 2 = .ok (.iload_n 2, 1)) ∧ (decode cX6_slotFrom 3 = .ok (.sipush 128, 3)) ∧ (decode cX6_slotFrom 6 = .ok (.if_icmp .ge 28, 3)) ∧ (decode cX6_slotFrom 9 = .ok (.iload_n 1, 1)) ∧ (decode cX6_slotFrom 10 = .ok (.iload_n 2, 1)) ∧ (decode cX6_slotFrom 11 = .ok (.iadd, 1)) := by decide +kernel
theorem dX6_slotFrom_0 : decode cX6_slotFrom 0 = .ok (.iconst 0, 1) := dX6_slotFrom_0_g.1
theorem dX6_slotFrom_1 : decode cX6_slotFrom 1 = .ok (.istore_n 2, 1) := dX6_slotFrom_0_g.2.1
theorem dX6_slotFrom_2 : decode cX6_slotFrom 2 = .ok (.iload_n 2, 1) := dX6_slotFrom_0_g.2.2.1
theorem dX6_slotFrom_3 : decode cX6_slotFrom 3 = .ok (.sipush 128, 3) := dX6_slotFrom_0_g.2.2.2.1
theorem dX6_slotFrom_6 : decode cX6_slotFrom 6 = .ok (.if_icmp .ge 28, 3) := dX6_slotFrom_0_g.2.2.2.2.1
theorem dX6_slotFrom_9 : decode cX6_slotFrom 9 = .ok (.iload_n 1, 1) := dX6_slotFrom_0_g.2.2.2.2.2.1
theorem dX6_slotFrom_10 : decode cX6_slotFrom 10 = .ok (.iload_n 2, 1) := dX6_slotFrom_0_g.2.2.2.2.2.2.1
theorem dX6_slotFrom_11 : decode cX6_slotFrom 11 = .ok (.iadd, 1) := dX6_slotFrom_0_g.2.2.2.2.2.2.2
theorem dX6_slotFrom_12_g : (decode cX6_slotFrom 12 = .ok (.bipush 127, 2)) ∧ (decode cX6_slotFrom 14 = .ok (.iand, 1)) ∧ (decode cX6_slotFrom 15 = .ok (.istore_n 3, 1)) ∧ (decode cX6_slotFrom 16 = .ok (.aload_n 0, 1)) ∧ (decode cX6_slotFrom 17 = .ok (.getfield 11, 3)) ∧ (decode cX6_slotFrom 20 = .ok (.iload_n 3, 1)) ∧ (decode cX6_slotFrom 21 = .ok (.iaload, 1)) ∧ (decode cX6_slotFrom 22 = .ok (.iconst (-1), 1)) := by decide +kernel
theorem dX6_slotFrom_12 : decode cX6_slotFrom 12 = .ok (.bipush 127, 2) := dX6_slotFrom_12_g.1
theorem dX6_slotFrom_14 : decode cX6_slotFrom 14 = .ok (.iand, 1) := dX6_slotFrom_12_g.2.1
theorem dX6_slotFrom_15 : decode cX6_slotFrom 15 = .ok (.istore_n 3, 1) := dX6_slotFrom_12_g.2.2.1
theorem dX6_slotFrom_16 : decode cX6_slotFrom 16 = .ok (.aload_n 0, 1) := dX6_slotFrom_12_g.2.2.2.1
theorem dX6_slotFrom_17 : decode cX6_slotFrom 17 = .ok (.getfield 11, 3) := dX6_slotFrom_12_g.2.2.2.2.1
theorem dX6_slotFrom_20 : decode cX6_slotFrom 20 = .ok (.iload_n 3, 1) := dX6_slotFrom_12_g.2.2.2.2.2.1
theorem dX6_slotFrom_21 : decode cX6_slotFrom 21 = .ok (.iaload, 1) := dX6_slotFrom_12_g.2.2.2.2.2.2.1
theorem dX6_slotFrom_22 : decode cX6_slotFrom 22 = .ok (.iconst (-1), 1) := dX6_slotFrom_12_g.2.2.2.2.2.2.2
theorem dX6_slotFrom_23_g : (decode cX6_slotFrom 23 = .ok (.if_icmp .eq 5, 3)) ∧ (decode cX6_slotFrom 26 = .ok (.iload_n 3, 1)) ∧ (decode cX6_slotFrom 27 = .ok (.ireturn, 1)) ∧ (decode cX6_slotFrom 28 = .ok (.iinc 2 1, 3)) ∧ (decode cX6_slotFrom 31 = .ok (.goto (-29), 3)) ∧ (decode cX6_slotFrom 34 = .ok (.iconst (-1), 1)) ∧ (decode cX6_slotFrom 35 = .ok (.ireturn, 1)) := by decide +kernel
theorem dX6_slotFrom_23 : decode cX6_slotFrom 23 = .ok (.if_icmp .eq 5, 3) := dX6_slotFrom_23_g.1
theorem dX6_slotFrom_26 : decode cX6_slotFrom 26 = .ok (.iload_n 3, 1) := dX6_slotFrom_23_g.2.1
theorem dX6_slotFrom_27 : decode cX6_slotFrom 27 = .ok (.ireturn, 1) := dX6_slotFrom_23_g.2.2.1
theorem dX6_slotFrom_28 : decode cX6_slotFrom 28 = .ok (.iinc 2 1, 3) := dX6_slotFrom_23_g.2.2.2.1
theorem dX6_slotFrom_31 : decode cX6_slotFrom 31 = .ok (.goto (-29), 3) := dX6_slotFrom_23_g.2.2.2.2.1
theorem dX6_slotFrom_34 : decode cX6_slotFrom 34 = .ok (.iconst (-1), 1) := dX6_slotFrom_23_g.2.2.2.2.2.1
theorem dX6_slotFrom_35 : decode cX6_slotFrom 35 = .ok (.ireturn, 1) := dX6_slotFrom_23_g.2.2.2.2.2.2
theorem dX6_offer_0_g : (decode cX6_offer 0 = .ok (.aload_n 0, 1)) ∧ (decode cX6_offer 1 = .ok (.getfield 15, 3)) ∧ (decode cX6_offer 4 = .ok (.iload_n 1, 1)) ∧ (decode cX6_offer 5 = .ok (.iaload, 1)) ∧ (decode cX6_offer 6 = .ok (.istore 5, 2)) ∧ (decode cX6_offer 8 = .ok (.iload 5, 2)) ∧ (decode cX6_offer 10 = .ok (.iload_n 2, 1)) ∧ (decode cX6_offer 11 = .ok (.if_icmp .ne 16, 3)) := by decide +kernel
theorem dX6_offer_0 : decode cX6_offer 0 = .ok (.aload_n 0, 1) := dX6_offer_0_g.1
theorem dX6_offer_1 : decode cX6_offer 1 = .ok (.getfield 15, 3) := dX6_offer_0_g.2.1
theorem dX6_offer_4 : decode cX6_offer 4 = .ok (.iload_n 1, 1) := dX6_offer_0_g.2.2.1
theorem dX6_offer_5 : decode cX6_offer 5 = .ok (.iaload, 1) := dX6_offer_0_g.2.2.2.1
theorem dX6_offer_6 : decode cX6_offer 6 = .ok (.istore 5, 2) := dX6_offer_0_g.2.2.2.2.1
theorem dX6_offer_8 : decode cX6_offer 8 = .ok (.iload 5, 2) := dX6_offer_0_g.2.2.2.2.2.1
theorem dX6_offer_10 : decode cX6_offer 10 = .ok (.iload_n 2, 1) := dX6_offer_0_g.2.2.2.2.2.2.1
theorem dX6_offer_11 : decode cX6_offer 11 = .ok (.if_icmp .ne 16, 3) := dX6_offer_0_g.2.2.2.2.2.2.2
theorem dX6_offer_14_g : (decode cX6_offer 14 = .ok (.aload_n 0, 1)) ∧ (decode cX6_offer 15 = .ok (.getfield 18, 3)) ∧ (decode cX6_offer 18 = .ok (.iload_n 1, 1)) ∧ (decode cX6_offer 19 = .ok (.dup2, 1)) ∧ (decode cX6_offer 20 = .ok (.laload, 1)) ∧ (decode cX6_offer 21 = .ok (.lload_n 3, 1)) ∧ (decode cX6_offer 22 = .ok (.ladd, 1)) ∧ (decode cX6_offer 23 = .ok (.lastore, 1)) := by decide +kernel
theorem dX6_offer_14 : decode cX6_offer 14 = .ok (.aload_n 0, 1) := dX6_offer_14_g.1
theorem dX6_offer_15 : decode cX6_offer 15 = .ok (.getfield 18, 3) := dX6_offer_14_g.2.1
theorem dX6_offer_18 : decode cX6_offer 18 = .ok (.iload_n 1, 1) := dX6_offer_14_g.2.2.1
theorem dX6_offer_19 : decode cX6_offer 19 = .ok (.dup2, 1) := dX6_offer_14_g.2.2.2.1
theorem dX6_offer_20 : decode cX6_offer 20 = .ok (.laload, 1) := dX6_offer_14_g.2.2.2.2.1
theorem dX6_offer_21 : decode cX6_offer 21 = .ok (.lload_n 3, 1) := dX6_offer_14_g.2.2.2.2.2.1
theorem dX6_offer_22 : decode cX6_offer 22 = .ok (.ladd, 1) := dX6_offer_14_g.2.2.2.2.2.2.1
theorem dX6_offer_23 : decode cX6_offer 23 = .ok (.lastore, 1) := dX6_offer_14_g.2.2.2.2.2.2.2
theorem dX6_offer_24_g : (decode cX6_offer 24 = .ok (.goto 45, 3)) ∧ (decode cX6_offer 27 = .ok (.iload 5, 2)) ∧ (decode cX6_offer 29 = .ok (.iconst (-1), 1)) ∧ (decode cX6_offer 30 = .ok (.if_icmp .eq 9, 3)) ∧ (decode cX6_offer 33 = .ok (.iload_n 2, 1)) ∧ (decode cX6_offer 34 = .ok (.iload 5, 2)) ∧ (decode cX6_offer 36 = .ok (.if_icmp .ge 33, 3)) ∧ (decode cX6_offer 39 = .ok (.iload 5, 2)) := by decide +kernel
theorem dX6_offer_24 : decode cX6_offer 24 = .ok (.goto 45, 3) := dX6_offer_24_g.1
theorem dX6_offer_27 : decode cX6_offer 27 = .ok (.iload 5, 2) := dX6_offer_24_g.2.1
theorem dX6_offer_29 : decode cX6_offer 29 = .ok (.iconst (-1), 1) := dX6_offer_24_g.2.2.1
theorem dX6_offer_30 : decode cX6_offer 30 = .ok (.if_icmp .eq 9, 3) := dX6_offer_24_g.2.2.2.1
theorem dX6_offer_33 : decode cX6_offer 33 = .ok (.iload_n 2, 1) := dX6_offer_24_g.2.2.2.2.1
theorem dX6_offer_34 : decode cX6_offer 34 = .ok (.iload 5, 2) := dX6_offer_24_g.2.2.2.2.2.1
theorem dX6_offer_36 : decode cX6_offer 36 = .ok (.if_icmp .ge 33, 3) := dX6_offer_24_g.2.2.2.2.2.2.1
theorem dX6_offer_39 : decode cX6_offer 39 = .ok (.iload 5, 2) := dX6_offer_24_g.2.2.2.2.2.2.2
theorem dX6_offer_41_g : (decode cX6_offer 41 = .ok (.iconst (-1), 1)) ∧ (decode cX6_offer 42 = .ok (.if_icmp .eq 8, 3)) ∧ (decode cX6_offer 45 = .ok (.aload_n 0, 1)) ∧ (decode cX6_offer 46 = .ok (.iload_n 1, 1)) ∧ (decode cX6_offer 47 = .ok (.invokevirtual 55, 3)) ∧ (decode cX6_offer 50 = .ok (.aload_n 0, 1)) ∧ (decode cX6_offer 51 = .ok (.getfield 15, 3)) ∧ (decode cX6_offer 54 = .ok (.iload_n 1, 1)) := by decide +kernel
theorem dX6_offer_41 : decode cX6_offer 41 = .ok (.iconst (-1), 1) := dX6_offer_41_g.1
theorem dX6_offer_42 : decode cX6_offer 42 = .ok (.if_icmp .eq 8, 3) := dX6_offer_41_g.2.1
theorem dX6_offer_45 : decode cX6_offer 45 = .ok (.aload_n 0, 1) := dX6_offer_41_g.2.2.1
theorem dX6_offer_46 : decode cX6_offer 46 = .ok (.iload_n 1, 1) := dX6_offer_41_g.2.2.2.1
theorem dX6_offer_47 : decode cX6_offer 47 = .ok (.invokevirtual 55, 3) := dX6_offer_41_g.2.2.2.2.1
theorem dX6_offer_50 : decode cX6_offer 50 = .ok (.aload_n 0, 1) := dX6_offer_41_g.2.2.2.2.2.1
theorem dX6_offer_51 : decode cX6_offer 51 = .ok (.getfield 15, 3) := dX6_offer_41_g.2.2.2.2.2.2.1
theorem dX6_offer_54 : decode cX6_offer 54 = .ok (.iload_n 1, 1) := dX6_offer_41_g.2.2.2.2.2.2.2
theorem dX6_offer_55_g : (decode cX6_offer 55 = .ok (.iload_n 2, 1)) ∧ (decode cX6_offer 56 = .ok (.iastore, 1)) ∧ (decode cX6_offer 57 = .ok (.aload_n 0, 1)) ∧ (decode cX6_offer 58 = .ok (.getfield 18, 3)) ∧ (decode cX6_offer 61 = .ok (.iload_n 1, 1)) ∧ (decode cX6_offer 62 = .ok (.lload_n 3, 1)) ∧ (decode cX6_offer 63 = .ok (.lastore, 1)) ∧ (decode cX6_offer 64 = .ok (.aload_n 0, 1)) := by decide +kernel
theorem dX6_offer_55 : decode cX6_offer 55 = .ok (.iload_n 2, 1) := dX6_offer_55_g.1
theorem dX6_offer_56 : decode cX6_offer 56 = .ok (.iastore, 1) := dX6_offer_55_g.2.1
theorem dX6_offer_57 : decode cX6_offer 57 = .ok (.aload_n 0, 1) := dX6_offer_55_g.2.2.1
theorem dX6_offer_58 : decode cX6_offer 58 = .ok (.getfield 18, 3) := dX6_offer_55_g.2.2.2.1
theorem dX6_offer_61 : decode cX6_offer 61 = .ok (.iload_n 1, 1) := dX6_offer_55_g.2.2.2.2.1
theorem dX6_offer_62 : decode cX6_offer 62 = .ok (.lload_n 3, 1) := dX6_offer_55_g.2.2.2.2.2.1
theorem dX6_offer_63 : decode cX6_offer 63 = .ok (.lastore, 1) := dX6_offer_55_g.2.2.2.2.2.2.1
theorem dX6_offer_64 : decode cX6_offer 64 = .ok (.aload_n 0, 1) := dX6_offer_55_g.2.2.2.2.2.2.2
theorem dX6_offer_65_g : (decode cX6_offer 65 = .ok (.iload_n 1, 1)) ∧ (decode cX6_offer 66 = .ok (.invokevirtual 89, 3)) ∧ (decode cX6_offer 69 = .ok (.return_, 1)) := by decide +kernel
theorem dX6_offer_65 : decode cX6_offer 65 = .ok (.iload_n 1, 1) := dX6_offer_65_g.1
theorem dX6_offer_66 : decode cX6_offer 66 = .ok (.invokevirtual 89, 3) := dX6_offer_65_g.2.1
theorem dX6_offer_69 : decode cX6_offer 69 = .ok (.return_, 1) := dX6_offer_65_g.2.2
theorem dX6_putIn_0_g : (decode cX6_putIn 0 = .ok (.aload_n 0, 1)) ∧ (decode cX6_putIn 1 = .ok (.getfield 15, 3)) ∧ (decode cX6_putIn 4 = .ok (.iload_n 1, 1)) ∧ (decode cX6_putIn 5 = .ok (.iaload, 1)) ∧ (decode cX6_putIn 6 = .ok (.bipush 127, 2)) ∧ (decode cX6_putIn 8 = .ok (.iand, 1)) ∧ (decode cX6_putIn 9 = .ok (.istore_n 2, 1)) ∧ (decode cX6_putIn 10 = .ok (.aload_n 0, 1)) := by decide +kernel
theorem dX6_putIn_0 : decode cX6_putIn 0 = .ok (.aload_n 0, 1) := dX6_putIn_0_g.1
theorem dX6_putIn_1 : decode cX6_putIn 1 = .ok (.getfield 15, 3) := dX6_putIn_0_g.2.1
theorem dX6_putIn_4 : decode cX6_putIn 4 = .ok (.iload_n 1, 1) := dX6_putIn_0_g.2.2.1
theorem dX6_putIn_5 : decode cX6_putIn 5 = .ok (.iaload, 1) := dX6_putIn_0_g.2.2.2.1
theorem dX6_putIn_6 : decode cX6_putIn 6 = .ok (.bipush 127, 2) := dX6_putIn_0_g.2.2.2.2.1
theorem dX6_putIn_8 : decode cX6_putIn 8 = .ok (.iand, 1) := dX6_putIn_0_g.2.2.2.2.2.1
theorem dX6_putIn_9 : decode cX6_putIn 9 = .ok (.istore_n 2, 1) := dX6_putIn_0_g.2.2.2.2.2.2.1
theorem dX6_putIn_10 : decode cX6_putIn 10 = .ok (.aload_n 0, 1) := dX6_putIn_0_g.2.2.2.2.2.2.2
theorem dX6_putIn_11_g : (decode cX6_putIn 11 = .ok (.getfield 11, 3)) ∧ (decode cX6_putIn 14 = .ok (.iload_n 2, 1)) ∧ (decode cX6_putIn 15 = .ok (.iaload, 1)) ∧ (decode cX6_putIn 16 = .ok (.istore_n 3, 1)) ∧ (decode cX6_putIn 17 = .ok (.aload_n 0, 1)) ∧ (decode cX6_putIn 18 = .ok (.getfield 28, 3)) ∧ (decode cX6_putIn 21 = .ok (.iload_n 1, 1)) ∧ (decode cX6_putIn 22 = .ok (.iconst (-1), 1)) := by decide +kernel
theorem dX6_putIn_11 : decode cX6_putIn 11 = .ok (.getfield 11, 3) := dX6_putIn_11_g.1
theorem dX6_putIn_14 : decode cX6_putIn 14 = .ok (.iload_n 2, 1) := dX6_putIn_11_g.2.1
theorem dX6_putIn_15 : decode cX6_putIn 15 = .ok (.iaload, 1) := dX6_putIn_11_g.2.2.1
theorem dX6_putIn_16 : decode cX6_putIn 16 = .ok (.istore_n 3, 1) := dX6_putIn_11_g.2.2.2.1
theorem dX6_putIn_17 : decode cX6_putIn 17 = .ok (.aload_n 0, 1) := dX6_putIn_11_g.2.2.2.2.1
theorem dX6_putIn_18 : decode cX6_putIn 18 = .ok (.getfield 28, 3) := dX6_putIn_11_g.2.2.2.2.2.1
theorem dX6_putIn_21 : decode cX6_putIn 21 = .ok (.iload_n 1, 1) := dX6_putIn_11_g.2.2.2.2.2.2.1
theorem dX6_putIn_22 : decode cX6_putIn 22 = .ok (.iconst (-1), 1) := dX6_putIn_11_g.2.2.2.2.2.2.2
theorem dX6_putIn_23_g : (decode cX6_putIn 23 = .ok (.iastore, 1)) ∧ (decode cX6_putIn 24 = .ok (.aload_n 0, 1)) ∧ (decode cX6_putIn 25 = .ok (.getfield 25, 3)) ∧ (decode cX6_putIn 28 = .ok (.iload_n 1, 1)) ∧ (decode cX6_putIn 29 = .ok (.iload_n 3, 1)) ∧ (decode cX6_putIn 30 = .ok (.iastore, 1)) ∧ (decode cX6_putIn 31 = .ok (.iload_n 3, 1)) ∧ (decode cX6_putIn 32 = .ok (.iconst (-1), 1)) := by decide +kernel
theorem dX6_putIn_23 : decode cX6_putIn 23 = .ok (.iastore, 1) := dX6_putIn_23_g.1
theorem dX6_putIn_24 : decode cX6_putIn 24 = .ok (.aload_n 0, 1) := dX6_putIn_23_g.2.1
theorem dX6_putIn_25 : decode cX6_putIn 25 = .ok (.getfield 25, 3) := dX6_putIn_23_g.2.2.1
theorem dX6_putIn_28 : decode cX6_putIn 28 = .ok (.iload_n 1, 1) := dX6_putIn_23_g.2.2.2.1
theorem dX6_putIn_29 : decode cX6_putIn 29 = .ok (.iload_n 3, 1) := dX6_putIn_23_g.2.2.2.2.1
theorem dX6_putIn_30 : decode cX6_putIn 30 = .ok (.iastore, 1) := dX6_putIn_23_g.2.2.2.2.2.1
theorem dX6_putIn_31 : decode cX6_putIn 31 = .ok (.iload_n 3, 1) := dX6_putIn_23_g.2.2.2.2.2.2.1
theorem dX6_putIn_32 : decode cX6_putIn 32 = .ok (.iconst (-1), 1) := dX6_putIn_23_g.2.2.2.2.2.2.2
theorem dX6_putIn_33_g : (decode cX6_putIn 33 = .ok (.if_icmp .eq 10, 3)) ∧ (decode cX6_putIn 36 = .ok (.aload_n 0, 1)) ∧ (decode cX6_putIn 37 = .ok (.getfield 28, 3)) ∧ (decode cX6_putIn 40 = .ok (.iload_n 3, 1)) ∧ (decode cX6_putIn 41 = .ok (.iload_n 1, 1)) ∧ (decode cX6_putIn 42 = .ok (.iastore, 1)) ∧ (decode cX6_putIn 43 = .ok (.aload_n 0, 1)) ∧ (decode cX6_putIn 44 = .ok (.getfield 11, 3)) := by decide +kernel
theorem dX6_putIn_33 : decode cX6_putIn 33 = .ok (.if_icmp .eq 10, 3) := dX6_putIn_33_g.1
theorem dX6_putIn_36 : decode cX6_putIn 36 = .ok (.aload_n 0, 1) := dX6_putIn_33_g.2.1
theorem dX6_putIn_37 : decode cX6_putIn 37 = .ok (.getfield 28, 3) := dX6_putIn_33_g.2.2.1
theorem dX6_putIn_40 : decode cX6_putIn 40 = .ok (.iload_n 3, 1) := dX6_putIn_33_g.2.2.2.1
theorem dX6_putIn_41 : decode cX6_putIn 41 = .ok (.iload_n 1, 1) := dX6_putIn_33_g.2.2.2.2.1
theorem dX6_putIn_42 : decode cX6_putIn 42 = .ok (.iastore, 1) := dX6_putIn_33_g.2.2.2.2.2.1
theorem dX6_putIn_43 : decode cX6_putIn 43 = .ok (.aload_n 0, 1) := dX6_putIn_33_g.2.2.2.2.2.2.1
theorem dX6_putIn_44 : decode cX6_putIn 44 = .ok (.getfield 11, 3) := dX6_putIn_33_g.2.2.2.2.2.2.2
theorem dX6_putIn_47_g : (decode cX6_putIn 47 = .ok (.iload_n 2, 1)) ∧ (decode cX6_putIn 48 = .ok (.iload_n 1, 1)) ∧ (decode cX6_putIn 49 = .ok (.iastore, 1)) ∧ (decode cX6_putIn 50 = .ok (.return_, 1)) := by decide +kernel
theorem dX6_putIn_47 : decode cX6_putIn 47 = .ok (.iload_n 2, 1) := dX6_putIn_47_g.1
theorem dX6_putIn_48 : decode cX6_putIn 48 = .ok (.iload_n 1, 1) := dX6_putIn_47_g.2.1
theorem dX6_putIn_49 : decode cX6_putIn 49 = .ok (.iastore, 1) := dX6_putIn_47_g.2.2.1
theorem dX6_putIn_50 : decode cX6_putIn 50 = .ok (.return_, 1) := dX6_putIn_47_g.2.2.2
theorem dX6_takeOut_0_g : (decode cX6_takeOut 0 = .ok (.aload_n 0, 1)) ∧ (decode cX6_takeOut 1 = .ok (.getfield 28, 3)) ∧ (decode cX6_takeOut 4 = .ok (.iload_n 1, 1)) ∧ (decode cX6_takeOut 5 = .ok (.iaload, 1)) ∧ (decode cX6_takeOut 6 = .ok (.istore_n 2, 1)) ∧ (decode cX6_takeOut 7 = .ok (.aload_n 0, 1)) ∧ (decode cX6_takeOut 8 = .ok (.getfield 25, 3)) ∧ (decode cX6_takeOut 11 = .ok (.iload_n 1, 1)) := by decide +kernel
theorem dX6_takeOut_0 : decode cX6_takeOut 0 = .ok (.aload_n 0, 1) := dX6_takeOut_0_g.1
theorem dX6_takeOut_1 : decode cX6_takeOut 1 = .ok (.getfield 28, 3) := dX6_takeOut_0_g.2.1
theorem dX6_takeOut_4 : decode cX6_takeOut 4 = .ok (.iload_n 1, 1) := dX6_takeOut_0_g.2.2.1
theorem dX6_takeOut_5 : decode cX6_takeOut 5 = .ok (.iaload, 1) := dX6_takeOut_0_g.2.2.2.1
theorem dX6_takeOut_6 : decode cX6_takeOut 6 = .ok (.istore_n 2, 1) := dX6_takeOut_0_g.2.2.2.2.1
theorem dX6_takeOut_7 : decode cX6_takeOut 7 = .ok (.aload_n 0, 1) := dX6_takeOut_0_g.2.2.2.2.2.1
theorem dX6_takeOut_8 : decode cX6_takeOut 8 = .ok (.getfield 25, 3) := dX6_takeOut_0_g.2.2.2.2.2.2.1
theorem dX6_takeOut_11 : decode cX6_takeOut 11 = .ok (.iload_n 1, 1) := dX6_takeOut_0_g.2.2.2.2.2.2.2
theorem dX6_takeOut_12_g : (decode cX6_takeOut 12 = .ok (.iaload, 1)) ∧ (decode cX6_takeOut 13 = .ok (.istore_n 3, 1)) ∧ (decode cX6_takeOut 14 = .ok (.iload_n 2, 1)) ∧ (decode cX6_takeOut 15 = .ok (.iconst (-1), 1)) ∧ (decode cX6_takeOut 16 = .ok (.if_icmp .ne 21, 3)) ∧ (decode cX6_takeOut 19 = .ok (.aload_n 0, 1)) ∧ (decode cX6_takeOut 20 = .ok (.getfield 11, 3)) ∧ (decode cX6_takeOut 23 = .ok (.aload_n 0, 1)) := by decide +kernel
theorem dX6_takeOut_12 : decode cX6_takeOut 12 = .ok (.iaload, 1) := dX6_takeOut_12_g.1
theorem dX6_takeOut_13 : decode cX6_takeOut 13 = .ok (.istore_n 3, 1) := dX6_takeOut_12_g.2.1
theorem dX6_takeOut_14 : decode cX6_takeOut 14 = .ok (.iload_n 2, 1) := dX6_takeOut_12_g.2.2.1
theorem dX6_takeOut_15 : decode cX6_takeOut 15 = .ok (.iconst (-1), 1) := dX6_takeOut_12_g.2.2.2.1
theorem dX6_takeOut_16 : decode cX6_takeOut 16 = .ok (.if_icmp .ne 21, 3) := dX6_takeOut_12_g.2.2.2.2.1
theorem dX6_takeOut_19 : decode cX6_takeOut 19 = .ok (.aload_n 0, 1) := dX6_takeOut_12_g.2.2.2.2.2.1
theorem dX6_takeOut_20 : decode cX6_takeOut 20 = .ok (.getfield 11, 3) := dX6_takeOut_12_g.2.2.2.2.2.2.1
theorem dX6_takeOut_23 : decode cX6_takeOut 23 = .ok (.aload_n 0, 1) := dX6_takeOut_12_g.2.2.2.2.2.2.2
theorem dX6_takeOut_24_g : (decode cX6_takeOut 24 = .ok (.getfield 15, 3)) ∧ (decode cX6_takeOut 27 = .ok (.iload_n 1, 1)) ∧ (decode cX6_takeOut 28 = .ok (.iaload, 1)) ∧ (decode cX6_takeOut 29 = .ok (.bipush 127, 2)) ∧ (decode cX6_takeOut 31 = .ok (.iand, 1)) ∧ (decode cX6_takeOut 32 = .ok (.iload_n 3, 1)) ∧ (decode cX6_takeOut 33 = .ok (.iastore, 1)) ∧ (decode cX6_takeOut 34 = .ok (.goto 10, 3)) := by decide +kernel
theorem dX6_takeOut_24 : decode cX6_takeOut 24 = .ok (.getfield 15, 3) := dX6_takeOut_24_g.1
theorem dX6_takeOut_27 : decode cX6_takeOut 27 = .ok (.iload_n 1, 1) := dX6_takeOut_24_g.2.1
theorem dX6_takeOut_28 : decode cX6_takeOut 28 = .ok (.iaload, 1) := dX6_takeOut_24_g.2.2.1
theorem dX6_takeOut_29 : decode cX6_takeOut 29 = .ok (.bipush 127, 2) := dX6_takeOut_24_g.2.2.2.1
theorem dX6_takeOut_31 : decode cX6_takeOut 31 = .ok (.iand, 1) := dX6_takeOut_24_g.2.2.2.2.1
theorem dX6_takeOut_32 : decode cX6_takeOut 32 = .ok (.iload_n 3, 1) := dX6_takeOut_24_g.2.2.2.2.2.1
theorem dX6_takeOut_33 : decode cX6_takeOut 33 = .ok (.iastore, 1) := dX6_takeOut_24_g.2.2.2.2.2.2.1
theorem dX6_takeOut_34 : decode cX6_takeOut 34 = .ok (.goto 10, 3) := dX6_takeOut_24_g.2.2.2.2.2.2.2
theorem dX6_takeOut_37_g : (decode cX6_takeOut 37 = .ok (.aload_n 0, 1)) ∧ (decode cX6_takeOut 38 = .ok (.getfield 25, 3)) ∧ (decode cX6_takeOut 41 = .ok (.iload_n 2, 1)) ∧ (decode cX6_takeOut 42 = .ok (.iload_n 3, 1)) ∧ (decode cX6_takeOut 43 = .ok (.iastore, 1)) ∧ (decode cX6_takeOut 44 = .ok (.iload_n 3, 1)) ∧ (decode cX6_takeOut 45 = .ok (.iconst (-1), 1)) ∧ (decode cX6_takeOut 46 = .ok (.if_icmp .eq 10, 3)) := by decide +kernel
theorem dX6_takeOut_37 : decode cX6_takeOut 37 = .ok (.aload_n 0, 1) := dX6_takeOut_37_g.1
theorem dX6_takeOut_38 : decode cX6_takeOut 38 = .ok (.getfield 25, 3) := dX6_takeOut_37_g.2.1
theorem dX6_takeOut_41 : decode cX6_takeOut 41 = .ok (.iload_n 2, 1) := dX6_takeOut_37_g.2.2.1
theorem dX6_takeOut_42 : decode cX6_takeOut 42 = .ok (.iload_n 3, 1) := dX6_takeOut_37_g.2.2.2.1
theorem dX6_takeOut_43 : decode cX6_takeOut 43 = .ok (.iastore, 1) := dX6_takeOut_37_g.2.2.2.2.1
theorem dX6_takeOut_44 : decode cX6_takeOut 44 = .ok (.iload_n 3, 1) := dX6_takeOut_37_g.2.2.2.2.2.1
theorem dX6_takeOut_45 : decode cX6_takeOut 45 = .ok (.iconst (-1), 1) := dX6_takeOut_37_g.2.2.2.2.2.2.1
theorem dX6_takeOut_46 : decode cX6_takeOut 46 = .ok (.if_icmp .eq 10, 3) := dX6_takeOut_37_g.2.2.2.2.2.2.2
theorem dX6_takeOut_49_g : (decode cX6_takeOut 49 = .ok (.aload_n 0, 1)) ∧ (decode cX6_takeOut 50 = .ok (.getfield 28, 3)) ∧ (decode cX6_takeOut 53 = .ok (.iload_n 3, 1)) ∧ (decode cX6_takeOut 54 = .ok (.iload_n 2, 1)) ∧ (decode cX6_takeOut 55 = .ok (.iastore, 1)) ∧ (decode cX6_takeOut 56 = .ok (.return_, 1)) := by decide +kernel
theorem dX6_takeOut_49 : decode cX6_takeOut 49 = .ok (.aload_n 0, 1) := dX6_takeOut_49_g.1
theorem dX6_takeOut_50 : decode cX6_takeOut 50 = .ok (.getfield 28, 3) := dX6_takeOut_49_g.2.1
theorem dX6_takeOut_53 : decode cX6_takeOut 53 = .ok (.iload_n 3, 1) := dX6_takeOut_49_g.2.2.1
theorem dX6_takeOut_54 : decode cX6_takeOut 54 = .ok (.iload_n 2, 1) := dX6_takeOut_49_g.2.2.2.1
theorem dX6_takeOut_55 : decode cX6_takeOut 55 = .ok (.iastore, 1) := dX6_takeOut_49_g.2.2.2.2.1
theorem dX6_takeOut_56 : decode cX6_takeOut 56 = .ok (.return_, 1) := dX6_takeOut_49_g.2.2.2.2.2
theorem dX6_costTo_0_g : (decode cX6_costTo 0 = .ok (.aload_n 0, 1)) ∧ (decode cX6_costTo 1 = .ok (.getfield 15, 3)) ∧ (decode cX6_costTo 4 = .ok (.iload_n 1, 1)) ∧ (decode cX6_costTo 5 = .ok (.iaload, 1)) ∧ (decode cX6_costTo 6 = .ok (.ireturn, 1)) := by decide +kernel
theorem dX6_costTo_0 : decode cX6_costTo 0 = .ok (.aload_n 0, 1) := dX6_costTo_0_g.1
theorem dX6_costTo_1 : decode cX6_costTo 1 = .ok (.getfield 15, 3) := dX6_costTo_0_g.2.1
theorem dX6_costTo_4 : decode cX6_costTo 4 = .ok (.iload_n 1, 1) := dX6_costTo_0_g.2.2.1
theorem dX6_costTo_5 : decode cX6_costTo 5 = .ok (.iaload, 1) := dX6_costTo_0_g.2.2.2.1
theorem dX6_costTo_6 : decode cX6_costTo 6 = .ok (.ireturn, 1) := dX6_costTo_0_g.2.2.2.2
theorem dX6_rowsTo_0_g : (decode cX6_rowsTo 0 = .ok (.aload_n 0, 1)) ∧ (decode cX6_rowsTo 1 = .ok (.getfield 18, 3)) ∧ (decode cX6_rowsTo 4 = .ok (.iload_n 1, 1)) ∧ (decode cX6_rowsTo 5 = .ok (.laload, 1)) ∧ (decode cX6_rowsTo 6 = .ok (.lreturn, 1)) := by decide +kernel
theorem dX6_rowsTo_0 : decode cX6_rowsTo 0 = .ok (.aload_n 0, 1) := dX6_rowsTo_0_g.1
theorem dX6_rowsTo_1 : decode cX6_rowsTo 1 = .ok (.getfield 18, 3) := dX6_rowsTo_0_g.2.1
theorem dX6_rowsTo_4 : decode cX6_rowsTo 4 = .ok (.iload_n 1, 1) := dX6_rowsTo_0_g.2.2.1
theorem dX6_rowsTo_5 : decode cX6_rowsTo 5 = .ok (.laload, 1) := dX6_rowsTo_0_g.2.2.2.1
theorem dX6_rowsTo_6 : decode cX6_rowsTo 6 = .ok (.lreturn, 1) := dX6_rowsTo_0_g.2.2.2.2
theorem dX6_greatestCost_0_g : (decode cX6_greatestCost 0 = .ok (.aload_n 0, 1)) ∧ (decode cX6_greatestCost 1 = .ok (.getfield 58, 3)) ∧ (decode cX6_greatestCost 4 = .ok (.ifCond .ne 7, 3)) ∧ (decode cX6_greatestCost 7 = .ok (.iconst 0, 1)) ∧ (decode cX6_greatestCost 8 = .ok (.goto 19, 3)) ∧ (decode cX6_greatestCost 11 = .ok (.aload_n 0, 1)) ∧ (decode cX6_greatestCost 12 = .ok (.getfield 15, 3)) ∧ (decode cX6_greatestCost 15 = .ok (.aload_n 0, 1)) := by decide +kernel
theorem dX6_greatestCost_0 : decode cX6_greatestCost 0 = .ok (.aload_n 0, 1) := dX6_greatestCost_0_g.1
theorem dX6_greatestCost_1 : decode cX6_greatestCost 1 = .ok (.getfield 58, 3) := dX6_greatestCost_0_g.2.1
theorem dX6_greatestCost_4 : decode cX6_greatestCost 4 = .ok (.ifCond .ne 7, 3) := dX6_greatestCost_0_g.2.2.1
theorem dX6_greatestCost_7 : decode cX6_greatestCost 7 = .ok (.iconst 0, 1) := dX6_greatestCost_0_g.2.2.2.1
theorem dX6_greatestCost_8 : decode cX6_greatestCost 8 = .ok (.goto 19, 3) := dX6_greatestCost_0_g.2.2.2.2.1
theorem dX6_greatestCost_11 : decode cX6_greatestCost 11 = .ok (.aload_n 0, 1) := dX6_greatestCost_0_g.2.2.2.2.2.1
theorem dX6_greatestCost_12 : decode cX6_greatestCost 12 = .ok (.getfield 15, 3) := dX6_greatestCost_0_g.2.2.2.2.2.2.1
theorem dX6_greatestCost_15 : decode cX6_greatestCost 15 = .ok (.aload_n 0, 1) := dX6_greatestCost_0_g.2.2.2.2.2.2.2
theorem dX6_greatestCost_16_g : (decode cX6_greatestCost 16 = .ok (.getfield 22, 3)) ∧ (decode cX6_greatestCost 19 = .ok (.aload_n 0, 1)) ∧ (decode cX6_greatestCost 20 = .ok (.getfield 58, 3)) ∧ (decode cX6_greatestCost 23 = .ok (.iconst 1, 1)) ∧ (decode cX6_greatestCost 24 = .ok (.isub, 1)) ∧ (decode cX6_greatestCost 25 = .ok (.iaload, 1)) ∧ (decode cX6_greatestCost 26 = .ok (.iaload, 1)) ∧ (decode cX6_greatestCost 27 = .ok (.ireturn, 1)) := by decide +kernel
theorem dX6_greatestCost_16 : decode cX6_greatestCost 16 = .ok (.getfield 22, 3) := dX6_greatestCost_16_g.1
theorem dX6_greatestCost_19 : decode cX6_greatestCost 19 = .ok (.aload_n 0, 1) := dX6_greatestCost_16_g.2.1
theorem dX6_greatestCost_20 : decode cX6_greatestCost 20 = .ok (.getfield 58, 3) := dX6_greatestCost_16_g.2.2.1
theorem dX6_greatestCost_23 : decode cX6_greatestCost 23 = .ok (.iconst 1, 1) := dX6_greatestCost_16_g.2.2.2.1
theorem dX6_greatestCost_24 : decode cX6_greatestCost 24 = .ok (.isub, 1) := dX6_greatestCost_16_g.2.2.2.2.1
theorem dX6_greatestCost_25 : decode cX6_greatestCost 25 = .ok (.iaload, 1) := dX6_greatestCost_16_g.2.2.2.2.2.1
theorem dX6_greatestCost_26 : decode cX6_greatestCost 26 = .ok (.iaload, 1) := dX6_greatestCost_16_g.2.2.2.2.2.2.1
theorem dX6_greatestCost_27 : decode cX6_greatestCost 27 = .ok (.ireturn, 1) := dX6_greatestCost_16_g.2.2.2.2.2.2.2
theorem dX6_leastOfFarthest_0_g : (decode cX6_leastOfFarthest 0 = .ok (.aload_n 0, 1)) ∧ (decode cX6_leastOfFarthest 1 = .ok (.invokevirtual 92, 3)) ∧ (decode cX6_leastOfFarthest 4 = .ok (.istore_n 1, 1)) ∧ (decode cX6_leastOfFarthest 5 = .ok (.aload_n 0, 1)) ∧ (decode cX6_leastOfFarthest 6 = .ok (.getfield 34, 3)) ∧ (decode cX6_leastOfFarthest 9 = .ok (.istore_n 2, 1)) ∧ (decode cX6_leastOfFarthest 10 = .ok (.aload_n 0, 1)) ∧ (decode cX6_leastOfFarthest 11 = .ok (.getfield 58, 3)) := by decide +kernel
theorem dX6_leastOfFarthest_0 : decode cX6_leastOfFarthest 0 = .ok (.aload_n 0, 1) := dX6_leastOfFarthest_0_g.1
theorem dX6_leastOfFarthest_1 : decode cX6_leastOfFarthest 1 = .ok (.invokevirtual 92, 3) := dX6_leastOfFarthest_0_g.2.1
theorem dX6_leastOfFarthest_4 : decode cX6_leastOfFarthest 4 = .ok (.istore_n 1, 1) := dX6_leastOfFarthest_0_g.2.2.1
theorem dX6_leastOfFarthest_5 : decode cX6_leastOfFarthest 5 = .ok (.aload_n 0, 1) := dX6_leastOfFarthest_0_g.2.2.2.1
theorem dX6_leastOfFarthest_6 : decode cX6_leastOfFarthest 6 = .ok (.getfield 34, 3) := dX6_leastOfFarthest_0_g.2.2.2.2.1
theorem dX6_leastOfFarthest_9 : decode cX6_leastOfFarthest 9 = .ok (.istore_n 2, 1) := dX6_leastOfFarthest_0_g.2.2.2.2.2.1
theorem dX6_leastOfFarthest_10 : decode cX6_leastOfFarthest 10 = .ok (.aload_n 0, 1) := dX6_leastOfFarthest_0_g.2.2.2.2.2.2.1
theorem dX6_leastOfFarthest_11 : decode cX6_leastOfFarthest 11 = .ok (.getfield 58, 3) := dX6_leastOfFarthest_0_g.2.2.2.2.2.2.2
theorem dX6_leastOfFarthest_14_g : (decode cX6_leastOfFarthest 14 = .ok (.iconst 1, 1)) ∧ (decode cX6_leastOfFarthest 15 = .ok (.isub, 1)) ∧ (decode cX6_leastOfFarthest 16 = .ok (.istore_n 3, 1)) ∧ (decode cX6_leastOfFarthest 17 = .ok (.iload_n 3, 1)) ∧ (decode cX6_leastOfFarthest 18 = .ok (.ifCond .lt 51, 3)) ∧ (decode cX6_leastOfFarthest 21 = .ok (.aload_n 0, 1)) ∧ (decode cX6_leastOfFarthest 22 = .ok (.getfield 15, 3)) ∧ (decode cX6_leastOfFarthest 25 = .ok (.aload_n 0, 1)) := by decide +kernel
theorem dX6_leastOfFarthest_14 : decode cX6_leastOfFarthest 14 = .ok (.iconst 1, 1) := dX6_leastOfFarthest_14_g.1
theorem dX6_leastOfFarthest_15 : decode cX6_leastOfFarthest 15 = .ok (.isub, 1) := dX6_leastOfFarthest_14_g.2.1
theorem dX6_leastOfFarthest_16 : decode cX6_leastOfFarthest 16 = .ok (.istore_n 3, 1) := dX6_leastOfFarthest_14_g.2.2.1
theorem dX6_leastOfFarthest_17 : decode cX6_leastOfFarthest 17 = .ok (.iload_n 3, 1) := dX6_leastOfFarthest_14_g.2.2.2.1
theorem dX6_leastOfFarthest_18 : decode cX6_leastOfFarthest 18 = .ok (.ifCond .lt 51, 3) := dX6_leastOfFarthest_14_g.2.2.2.2.1
theorem dX6_leastOfFarthest_21 : decode cX6_leastOfFarthest 21 = .ok (.aload_n 0, 1) := dX6_leastOfFarthest_14_g.2.2.2.2.2.1
theorem dX6_leastOfFarthest_22 : decode cX6_leastOfFarthest 22 = .ok (.getfield 15, 3) := dX6_leastOfFarthest_14_g.2.2.2.2.2.2.1
theorem dX6_leastOfFarthest_25 : decode cX6_leastOfFarthest 25 = .ok (.aload_n 0, 1) := dX6_leastOfFarthest_14_g.2.2.2.2.2.2.2
theorem dX6_leastOfFarthest_26_g : (decode cX6_leastOfFarthest 26 = .ok (.getfield 22, 3)) ∧ (decode cX6_leastOfFarthest 29 = .ok (.iload_n 3, 1)) ∧ (decode cX6_leastOfFarthest 30 = .ok (.iaload, 1)) ∧ (decode cX6_leastOfFarthest 31 = .ok (.iaload, 1)) ∧ (decode cX6_leastOfFarthest 32 = .ok (.iload_n 1, 1)) ∧ (decode cX6_leastOfFarthest 33 = .ok (.if_icmp .ne 36, 3)) ∧ (decode cX6_leastOfFarthest 36 = .ok (.iload_n 3, 1)) ∧ (decode cX6_leastOfFarthest 37 = .ok (.aload_n 0, 1)) := by decide +kernel
theorem dX6_leastOfFarthest_26 : decode cX6_leastOfFarthest 26 = .ok (.getfield 22, 3) := dX6_leastOfFarthest_26_g.1
theorem dX6_leastOfFarthest_29 : decode cX6_leastOfFarthest 29 = .ok (.iload_n 3, 1) := dX6_leastOfFarthest_26_g.2.1
theorem dX6_leastOfFarthest_30 : decode cX6_leastOfFarthest 30 = .ok (.iaload, 1) := dX6_leastOfFarthest_26_g.2.2.1
theorem dX6_leastOfFarthest_31 : decode cX6_leastOfFarthest 31 = .ok (.iaload, 1) := dX6_leastOfFarthest_26_g.2.2.2.1
theorem dX6_leastOfFarthest_32 : decode cX6_leastOfFarthest 32 = .ok (.iload_n 1, 1) := dX6_leastOfFarthest_26_g.2.2.2.2.1
theorem dX6_leastOfFarthest_33 : decode cX6_leastOfFarthest 33 = .ok (.if_icmp .ne 36, 3) := dX6_leastOfFarthest_26_g.2.2.2.2.2.1
theorem dX6_leastOfFarthest_36 : decode cX6_leastOfFarthest 36 = .ok (.iload_n 3, 1) := dX6_leastOfFarthest_26_g.2.2.2.2.2.2.1
theorem dX6_leastOfFarthest_37 : decode cX6_leastOfFarthest 37 = .ok (.aload_n 0, 1) := dX6_leastOfFarthest_26_g.2.2.2.2.2.2.2
theorem dX6_leastOfFarthest_38_g : (decode cX6_leastOfFarthest 38 = .ok (.getfield 58, 3)) ∧ (decode cX6_leastOfFarthest 41 = .ok (.iconst 1, 1)) ∧ (decode cX6_leastOfFarthest 42 = .ok (.isub, 1)) ∧ (decode cX6_leastOfFarthest 43 = .ok (.if_icmp .eq 13, 3)) ∧ (decode cX6_leastOfFarthest 46 = .ok (.aload_n 0, 1)) ∧ (decode cX6_leastOfFarthest 47 = .ok (.getfield 22, 3)) ∧ (decode cX6_leastOfFarthest 50 = .ok (.iload_n 3, 1)) ∧ (decode cX6_leastOfFarthest 51 = .ok (.iaload, 1)) := by decide +kernel
theorem dX6_leastOfFarthest_38 : decode cX6_leastOfFarthest 38 = .ok (.getfield 58, 3) := dX6_leastOfFarthest_38_g.1
theorem dX6_leastOfFarthest_41 : decode cX6_leastOfFarthest 41 = .ok (.iconst 1, 1) := dX6_leastOfFarthest_38_g.2.1
theorem dX6_leastOfFarthest_42 : decode cX6_leastOfFarthest 42 = .ok (.isub, 1) := dX6_leastOfFarthest_38_g.2.2.1
theorem dX6_leastOfFarthest_43 : decode cX6_leastOfFarthest 43 = .ok (.if_icmp .eq 13, 3) := dX6_leastOfFarthest_38_g.2.2.2.1
theorem dX6_leastOfFarthest_46 : decode cX6_leastOfFarthest 46 = .ok (.aload_n 0, 1) := dX6_leastOfFarthest_38_g.2.2.2.2.1
theorem dX6_leastOfFarthest_47 : decode cX6_leastOfFarthest 47 = .ok (.getfield 22, 3) := dX6_leastOfFarthest_38_g.2.2.2.2.2.1
theorem dX6_leastOfFarthest_50 : decode cX6_leastOfFarthest 50 = .ok (.iload_n 3, 1) := dX6_leastOfFarthest_38_g.2.2.2.2.2.2.1
theorem dX6_leastOfFarthest_51 : decode cX6_leastOfFarthest 51 = .ok (.iaload, 1) := dX6_leastOfFarthest_38_g.2.2.2.2.2.2.2
theorem dX6_leastOfFarthest_52_g : (decode cX6_leastOfFarthest 52 = .ok (.iload_n 2, 1)) ∧ (decode cX6_leastOfFarthest 53 = .ok (.if_icmp .ge 10, 3)) ∧ (decode cX6_leastOfFarthest 56 = .ok (.aload_n 0, 1)) ∧ (decode cX6_leastOfFarthest 57 = .ok (.getfield 22, 3)) ∧ (decode cX6_leastOfFarthest 60 = .ok (.iload_n 3, 1)) ∧ (decode cX6_leastOfFarthest 61 = .ok (.iaload, 1)) ∧ (decode cX6_leastOfFarthest 62 = .ok (.istore_n 2, 1)) ∧ (decode cX6_leastOfFarthest 63 = .ok (.iinc 3 (-1), 3)) := by decide +kernel
theorem dX6_leastOfFarthest_52 : decode cX6_leastOfFarthest 52 = .ok (.iload_n 2, 1) := dX6_leastOfFarthest_52_g.1
theorem dX6_leastOfFarthest_53 : decode cX6_leastOfFarthest 53 = .ok (.if_icmp .ge 10, 3) := dX6_leastOfFarthest_52_g.2.1
theorem dX6_leastOfFarthest_56 : decode cX6_leastOfFarthest 56 = .ok (.aload_n 0, 1) := dX6_leastOfFarthest_52_g.2.2.1
theorem dX6_leastOfFarthest_57 : decode cX6_leastOfFarthest 57 = .ok (.getfield 22, 3) := dX6_leastOfFarthest_52_g.2.2.2.1
theorem dX6_leastOfFarthest_60 : decode cX6_leastOfFarthest 60 = .ok (.iload_n 3, 1) := dX6_leastOfFarthest_52_g.2.2.2.2.1
theorem dX6_leastOfFarthest_61 : decode cX6_leastOfFarthest 61 = .ok (.iaload, 1) := dX6_leastOfFarthest_52_g.2.2.2.2.2.1
theorem dX6_leastOfFarthest_62 : decode cX6_leastOfFarthest 62 = .ok (.istore_n 2, 1) := dX6_leastOfFarthest_52_g.2.2.2.2.2.2.1
theorem dX6_leastOfFarthest_63 : decode cX6_leastOfFarthest 63 = .ok (.iinc 3 (-1), 3) := dX6_leastOfFarthest_52_g.2.2.2.2.2.2.2
theorem dX6_leastOfFarthest_66_g : (decode cX6_leastOfFarthest 66 = .ok (.goto (-49), 3)) ∧ (decode cX6_leastOfFarthest 69 = .ok (.iload_n 2, 1)) ∧ (decode cX6_leastOfFarthest 70 = .ok (.ireturn, 1)) := by decide +kernel
theorem dX6_leastOfFarthest_66 : decode cX6_leastOfFarthest 66 = .ok (.goto (-49), 3) := dX6_leastOfFarthest_66_g.1
theorem dX6_leastOfFarthest_69 : decode cX6_leastOfFarthest 69 = .ok (.iload_n 2, 1) := dX6_leastOfFarthest_66_g.2.1
theorem dX6_leastOfFarthest_70 : decode cX6_leastOfFarthest 70 = .ok (.ireturn, 1) := dX6_leastOfFarthest_66_g.2.2
theorem dX6_writePlan_0_g : (decode cX6_writePlan 0 = .ok (.aload_n 0, 1)) ∧ (decode cX6_writePlan 1 = .ok (.aload_n 1, 1)) ∧ (decode cX6_writePlan 2 = .ok (.aload_n 2, 1)) ∧ (decode cX6_writePlan 3 = .ok (.iload_n 3, 1)) ∧ (decode cX6_writePlan 4 = .ok (.invokevirtual 96, 3)) ∧ (decode cX6_writePlan 7 = .ok (.aload 4, 2)) ∧ (decode cX6_writePlan 9 = .ok (.iconst 0, 1)) ∧ (decode cX6_writePlan 10 = .ok (.putfield 100, 3)) := by decide +kernel
theorem dX6_writePlan_0 : decode cX6_writePlan 0 = .ok (.aload_n 0, 1) := dX6_writePlan_0_g.1
theorem dX6_writePlan_1 : decode cX6_writePlan 1 = .ok (.aload_n 1, 1) := dX6_writePlan_0_g.2.1
theorem dX6_writePlan_2 : decode cX6_writePlan 2 = .ok (.aload_n 2, 1) := dX6_writePlan_0_g.2.2.1
theorem dX6_writePlan_3 : decode cX6_writePlan 3 = .ok (.iload_n 3, 1) := dX6_writePlan_0_g.2.2.2.1
theorem dX6_writePlan_4 : decode cX6_writePlan 4 = .ok (.invokevirtual 96, 3) := dX6_writePlan_0_g.2.2.2.2.1
theorem dX6_writePlan_7 : decode cX6_writePlan 7 = .ok (.aload 4, 2) := dX6_writePlan_0_g.2.2.2.2.2.1
theorem dX6_writePlan_9 : decode cX6_writePlan 9 = .ok (.iconst 0, 1) := dX6_writePlan_0_g.2.2.2.2.2.2.1
theorem dX6_writePlan_10 : decode cX6_writePlan 10 = .ok (.putfield 100, 3) := dX6_writePlan_0_g.2.2.2.2.2.2.2
theorem dX6_writePlan_13_g : (decode cX6_writePlan 13 = .ok (.aload_n 0, 1)) ∧ (decode cX6_writePlan 14 = .ok (.getfield 34, 3)) ∧ (decode cX6_writePlan 17 = .ok (.istore 5, 2)) ∧ (decode cX6_writePlan 19 = .ok (.iconst 0, 1)) ∧ (decode cX6_writePlan 20 = .ok (.istore 6, 2)) ∧ (decode cX6_writePlan 22 = .ok (.iload 6, 2)) ∧ (decode cX6_writePlan 24 = .ok (.aload_n 1, 1)) ∧ (decode cX6_writePlan 25 = .ok (.getfield 38, 3)) := by decide +kernel
theorem dX6_writePlan_13 : decode cX6_writePlan 13 = .ok (.aload_n 0, 1) := dX6_writePlan_13_g.1
theorem dX6_writePlan_14 : decode cX6_writePlan 14 = .ok (.getfield 34, 3) := dX6_writePlan_13_g.2.1
theorem dX6_writePlan_17 : decode cX6_writePlan 17 = .ok (.istore 5, 2) := dX6_writePlan_13_g.2.2.1
theorem dX6_writePlan_19 : decode cX6_writePlan 19 = .ok (.iconst 0, 1) := dX6_writePlan_13_g.2.2.2.1
theorem dX6_writePlan_20 : decode cX6_writePlan 20 = .ok (.istore 6, 2) := dX6_writePlan_13_g.2.2.2.2.1
theorem dX6_writePlan_22 : decode cX6_writePlan 22 = .ok (.iload 6, 2) := dX6_writePlan_13_g.2.2.2.2.2.1
theorem dX6_writePlan_24 : decode cX6_writePlan 24 = .ok (.aload_n 1, 1) := dX6_writePlan_13_g.2.2.2.2.2.2.1
theorem dX6_writePlan_25 : decode cX6_writePlan 25 = .ok (.getfield 38, 3) := dX6_writePlan_13_g.2.2.2.2.2.2.2
theorem dX6_writePlan_28_g : (decode cX6_writePlan 28 = .ok (.if_icmp .ge 55, 3)) ∧ (decode cX6_writePlan 31 = .ok (.iload 5, 2)) ∧ (decode cX6_writePlan 33 = .ok (.iload_n 3, 1)) ∧ (decode cX6_writePlan 34 = .ok (.if_icmp .eq 49, 3)) ∧ (decode cX6_writePlan 37 = .ok (.aload_n 0, 1)) ∧ (decode cX6_writePlan 38 = .ok (.aload_n 1, 1)) ∧ (decode cX6_writePlan 39 = .ok (.aload_n 2, 1)) ∧ (decode cX6_writePlan 40 = .ok (.iload 5, 2)) := by decide +kernel
theorem dX6_writePlan_28 : decode cX6_writePlan 28 = .ok (.if_icmp .ge 55, 3) := dX6_writePlan_28_g.1
theorem dX6_writePlan_31 : decode cX6_writePlan 31 = .ok (.iload 5, 2) := dX6_writePlan_28_g.2.1
theorem dX6_writePlan_33 : decode cX6_writePlan 33 = .ok (.iload_n 3, 1) := dX6_writePlan_28_g.2.2.1
theorem dX6_writePlan_34 : decode cX6_writePlan 34 = .ok (.if_icmp .eq 49, 3) := dX6_writePlan_28_g.2.2.2.1
theorem dX6_writePlan_37 : decode cX6_writePlan 37 = .ok (.aload_n 0, 1) := dX6_writePlan_28_g.2.2.2.2.1
theorem dX6_writePlan_38 : decode cX6_writePlan 38 = .ok (.aload_n 1, 1) := dX6_writePlan_28_g.2.2.2.2.2.1
theorem dX6_writePlan_39 : decode cX6_writePlan 39 = .ok (.aload_n 2, 1) := dX6_writePlan_28_g.2.2.2.2.2.2.1
theorem dX6_writePlan_40 : decode cX6_writePlan 40 = .ok (.iload 5, 2) := dX6_writePlan_28_g.2.2.2.2.2.2.2
theorem dX6_writePlan_42_g : (decode cX6_writePlan 42 = .ok (.invokevirtual 105, 3)) ∧ (decode cX6_writePlan 45 = .ok (.istore 7, 2)) ∧ (decode cX6_writePlan 47 = .ok (.iload 7, 2)) ∧ (decode cX6_writePlan 49 = .ok (.iconst (-1), 1)) ∧ (decode cX6_writePlan 50 = .ok (.if_icmp .ne 6, 3)) ∧ (decode cX6_writePlan 53 = .ok (.goto 30, 3)) ∧ (decode cX6_writePlan 56 = .ok (.aload 4, 2)) ∧ (decode cX6_writePlan 58 = .ok (.aload_n 2, 1)) := by decide +kernel
theorem dX6_writePlan_42 : decode cX6_writePlan 42 = .ok (.invokevirtual 105, 3) := dX6_writePlan_42_g.1
theorem dX6_writePlan_45 : decode cX6_writePlan 45 = .ok (.istore 7, 2) := dX6_writePlan_42_g.2.1
theorem dX6_writePlan_47 : decode cX6_writePlan 47 = .ok (.iload 7, 2) := dX6_writePlan_42_g.2.2.1
theorem dX6_writePlan_49 : decode cX6_writePlan 49 = .ok (.iconst (-1), 1) := dX6_writePlan_42_g.2.2.2.1
theorem dX6_writePlan_50 : decode cX6_writePlan 50 = .ok (.if_icmp .ne 6, 3) := dX6_writePlan_42_g.2.2.2.2.1
theorem dX6_writePlan_53 : decode cX6_writePlan 53 = .ok (.goto 30, 3) := dX6_writePlan_42_g.2.2.2.2.2.1
theorem dX6_writePlan_56 : decode cX6_writePlan 56 = .ok (.aload 4, 2) := dX6_writePlan_42_g.2.2.2.2.2.2.1
theorem dX6_writePlan_58 : decode cX6_writePlan 58 = .ok (.aload_n 2, 1) := dX6_writePlan_42_g.2.2.2.2.2.2.2
theorem dX6_writePlan_59_g : (decode cX6_writePlan 59 = .ok (.getfield 109, 3)) ∧ (decode cX6_writePlan 62 = .ok (.iload 7, 2)) ∧ (decode cX6_writePlan 64 = .ok (.iaload, 1)) ∧ (decode cX6_writePlan 65 = .ok (.invokevirtual 112, 3)) ∧ (decode cX6_writePlan 68 = .ok (.aload_n 2, 1)) ∧ (decode cX6_writePlan 69 = .ok (.getfield 74, 3)) ∧ (decode cX6_writePlan 72 = .ok (.iload 7, 2)) ∧ (decode cX6_writePlan 74 = .ok (.iaload, 1)) := by decide +kernel
theorem dX6_writePlan_59 : decode cX6_writePlan 59 = .ok (.getfield 109, 3) := dX6_writePlan_59_g.1
theorem dX6_writePlan_62 : decode cX6_writePlan 62 = .ok (.iload 7, 2) := dX6_writePlan_59_g.2.1
theorem dX6_writePlan_64 : decode cX6_writePlan 64 = .ok (.iaload, 1) := dX6_writePlan_59_g.2.2.1
theorem dX6_writePlan_65 : decode cX6_writePlan 65 = .ok (.invokevirtual 112, 3) := dX6_writePlan_59_g.2.2.2.1
theorem dX6_writePlan_68 : decode cX6_writePlan 68 = .ok (.aload_n 2, 1) := dX6_writePlan_59_g.2.2.2.2.1
theorem dX6_writePlan_69 : decode cX6_writePlan 69 = .ok (.getfield 74, 3) := dX6_writePlan_59_g.2.2.2.2.2.1
theorem dX6_writePlan_72 : decode cX6_writePlan 72 = .ok (.iload 7, 2) := dX6_writePlan_59_g.2.2.2.2.2.2.1
theorem dX6_writePlan_74 : decode cX6_writePlan 74 = .ok (.iaload, 1) := dX6_writePlan_59_g.2.2.2.2.2.2.2
theorem dX6_writePlan_75_g : (decode cX6_writePlan 75 = .ok (.istore 5, 2)) ∧ (decode cX6_writePlan 77 = .ok (.iinc 6 1, 3)) ∧ (decode cX6_writePlan 80 = .ok (.goto (-58), 3)) ∧ (decode cX6_writePlan 83 = .ok (.return_, 1)) := by decide +kernel
theorem dX6_writePlan_75 : decode cX6_writePlan 75 = .ok (.istore 5, 2) := dX6_writePlan_75_g.1
theorem dX6_writePlan_77 : decode cX6_writePlan 77 = .ok (.iinc 6 1, 3) := dX6_writePlan_75_g.2.1
theorem dX6_writePlan_80 : decode cX6_writePlan 80 = .ok (.goto (-58), 3) := dX6_writePlan_75_g.2.2.1
theorem dX6_writePlan_83 : decode cX6_writePlan 83 = .ok (.return_, 1) := dX6_writePlan_75_g.2.2.2
theorem dX6_markLeading_0_g : (decode cX6_markLeading 0 = .ok (.aload_n 0, 1)) ∧ (decode cX6_markLeading 1 = .ok (.getfield 31, 3)) ∧ (decode cX6_markLeading 4 = .ok (.iconst 0, 1)) ∧ (decode cX6_markLeading 5 = .ok (.invokestatic 80, 3)) ∧ (decode cX6_markLeading 8 = .ok (.aload_n 0, 1)) ∧ (decode cX6_markLeading 9 = .ok (.getfield 31, 3)) ∧ (decode cX6_markLeading 12 = .ok (.iload_n 3, 1)) ∧ (decode cX6_markLeading 13 = .ok (.iconst 1, 1)) := by decide +kernel
theorem dX6_markLeading_0 : decode cX6_markLeading 0 = .ok (.aload_n 0, 1) := dX6_markLeading_0_g.1
theorem dX6_markLeading_1 : decode cX6_markLeading 1 = .ok (.getfield 31, 3) := dX6_markLeading_0_g.2.1
theorem dX6_markLeading_4 : decode cX6_markLeading 4 = .ok (.iconst 0, 1) := dX6_markLeading_0_g.2.2.1
theorem dX6_markLeading_5 : decode cX6_markLeading 5 = .ok (.invokestatic 80, 3) := dX6_markLeading_0_g.2.2.2.1
theorem dX6_markLeading_8 : decode cX6_markLeading 8 = .ok (.aload_n 0, 1) := dX6_markLeading_0_g.2.2.2.2.1
theorem dX6_markLeading_9 : decode cX6_markLeading 9 = .ok (.getfield 31, 3) := dX6_markLeading_0_g.2.2.2.2.2.1
theorem dX6_markLeading_12 : decode cX6_markLeading 12 = .ok (.iload_n 3, 1) := dX6_markLeading_0_g.2.2.2.2.2.2.1
theorem dX6_markLeading_13 : decode cX6_markLeading 13 = .ok (.iconst 1, 1) := dX6_markLeading_0_g.2.2.2.2.2.2.2
theorem dX6_markLeading_14_g : (decode cX6_markLeading 14 = .ok (.iastore, 1)) ∧ (decode cX6_markLeading 15 = .ok (.aload_n 0, 1)) ∧ (decode cX6_markLeading 16 = .ok (.getfield 58, 3)) ∧ (decode cX6_markLeading 19 = .ok (.iconst 1, 1)) ∧ (decode cX6_markLeading 20 = .ok (.isub, 1)) ∧ (decode cX6_markLeading 21 = .ok (.istore 4, 2)) ∧ (decode cX6_markLeading 23 = .ok (.iload 4, 2)) ∧ (decode cX6_markLeading 25 = .ok (.ifCond .lt 54, 3)) := by decide +kernel
theorem dX6_markLeading_14 : decode cX6_markLeading 14 = .ok (.iastore, 1) := dX6_markLeading_14_g.1
theorem dX6_markLeading_15 : decode cX6_markLeading 15 = .ok (.aload_n 0, 1) := dX6_markLeading_14_g.2.1
theorem dX6_markLeading_16 : decode cX6_markLeading 16 = .ok (.getfield 58, 3) := dX6_markLeading_14_g.2.2.1
theorem dX6_markLeading_19 : decode cX6_markLeading 19 = .ok (.iconst 1, 1) := dX6_markLeading_14_g.2.2.2.1
theorem dX6_markLeading_20 : decode cX6_markLeading 20 = .ok (.isub, 1) := dX6_markLeading_14_g.2.2.2.2.1
theorem dX6_markLeading_21 : decode cX6_markLeading 21 = .ok (.istore 4, 2) := dX6_markLeading_14_g.2.2.2.2.2.1
theorem dX6_markLeading_23 : decode cX6_markLeading 23 = .ok (.iload 4, 2) := dX6_markLeading_14_g.2.2.2.2.2.2.1
theorem dX6_markLeading_25 : decode cX6_markLeading 25 = .ok (.ifCond .lt 54, 3) := dX6_markLeading_14_g.2.2.2.2.2.2.2
theorem dX6_markLeading_28_g : (decode cX6_markLeading 28 = .ok (.aload_n 0, 1)) ∧ (decode cX6_markLeading 29 = .ok (.getfield 22, 3)) ∧ (decode cX6_markLeading 32 = .ok (.iload 4, 2)) ∧ (decode cX6_markLeading 34 = .ok (.iaload, 1)) ∧ (decode cX6_markLeading 35 = .ok (.istore 5, 2)) ∧ (decode cX6_markLeading 37 = .ok (.aload_n 0, 1)) ∧ (decode cX6_markLeading 38 = .ok (.getfield 15, 3)) ∧ (decode cX6_markLeading 41 = .ok (.iload 5, 2)) := by decide +kernel
theorem dX6_markLeading_28 : decode cX6_markLeading 28 = .ok (.aload_n 0, 1) := dX6_markLeading_28_g.1
theorem dX6_markLeading_29 : decode cX6_markLeading 29 = .ok (.getfield 22, 3) := dX6_markLeading_28_g.2.1
theorem dX6_markLeading_32 : decode cX6_markLeading 32 = .ok (.iload 4, 2) := dX6_markLeading_28_g.2.2.1
theorem dX6_markLeading_34 : decode cX6_markLeading 34 = .ok (.iaload, 1) := dX6_markLeading_28_g.2.2.2.1
theorem dX6_markLeading_35 : decode cX6_markLeading 35 = .ok (.istore 5, 2) := dX6_markLeading_28_g.2.2.2.2.1
theorem dX6_markLeading_37 : decode cX6_markLeading 37 = .ok (.aload_n 0, 1) := dX6_markLeading_28_g.2.2.2.2.2.1
theorem dX6_markLeading_38 : decode cX6_markLeading 38 = .ok (.getfield 15, 3) := dX6_markLeading_28_g.2.2.2.2.2.2.1
theorem dX6_markLeading_41 : decode cX6_markLeading 41 = .ok (.iload 5, 2) := dX6_markLeading_28_g.2.2.2.2.2.2.2
theorem dX6_markLeading_43_g : (decode cX6_markLeading 43 = .ok (.iaload, 1)) ∧ (decode cX6_markLeading 44 = .ok (.aload_n 0, 1)) ∧ (decode cX6_markLeading 45 = .ok (.getfield 15, 3)) ∧ (decode cX6_markLeading 48 = .ok (.iload_n 3, 1)) ∧ (decode cX6_markLeading 49 = .ok (.iaload, 1)) ∧ (decode cX6_markLeading 50 = .ok (.if_icmp .ge 23, 3)) ∧ (decode cX6_markLeading 53 = .ok (.aload_n 0, 1)) ∧ (decode cX6_markLeading 54 = .ok (.aload_n 1, 1)) := by decide +kernel
theorem dX6_markLeading_43 : decode cX6_markLeading 43 = .ok (.iaload, 1) := dX6_markLeading_43_g.1
theorem dX6_markLeading_44 : decode cX6_markLeading 44 = .ok (.aload_n 0, 1) := dX6_markLeading_43_g.2.1
theorem dX6_markLeading_45 : decode cX6_markLeading 45 = .ok (.getfield 15, 3) := dX6_markLeading_43_g.2.2.1
theorem dX6_markLeading_48 : decode cX6_markLeading 48 = .ok (.iload_n 3, 1) := dX6_markLeading_43_g.2.2.2.1
theorem dX6_markLeading_49 : decode cX6_markLeading 49 = .ok (.iaload, 1) := dX6_markLeading_43_g.2.2.2.2.1
theorem dX6_markLeading_50 : decode cX6_markLeading 50 = .ok (.if_icmp .ge 23, 3) := dX6_markLeading_43_g.2.2.2.2.2.1
theorem dX6_markLeading_53 : decode cX6_markLeading 53 = .ok (.aload_n 0, 1) := dX6_markLeading_43_g.2.2.2.2.2.2.1
theorem dX6_markLeading_54 : decode cX6_markLeading 54 = .ok (.aload_n 1, 1) := dX6_markLeading_43_g.2.2.2.2.2.2.2
theorem dX6_markLeading_55_g : (decode cX6_markLeading 55 = .ok (.aload_n 2, 1)) ∧ (decode cX6_markLeading 56 = .ok (.iload 5, 2)) ∧ (decode cX6_markLeading 58 = .ok (.invokevirtual 105, 3)) ∧ (decode cX6_markLeading 61 = .ok (.iconst (-1), 1)) ∧ (decode cX6_markLeading 62 = .ok (.if_icmp .eq 11, 3)) ∧ (decode cX6_markLeading 65 = .ok (.aload_n 0, 1)) ∧ (decode cX6_markLeading 66 = .ok (.getfield 31, 3)) ∧ (decode cX6_markLeading 69 = .ok (.iload 5, 2)) := by decide +kernel
theorem dX6_markLeading_55 : decode cX6_markLeading 55 = .ok (.aload_n 2, 1) := dX6_markLeading_55_g.1
theorem dX6_markLeading_56 : decode cX6_markLeading 56 = .ok (.iload 5, 2) := dX6_markLeading_55_g.2.1
theorem dX6_markLeading_58 : decode cX6_markLeading 58 = .ok (.invokevirtual 105, 3) := dX6_markLeading_55_g.2.2.1
theorem dX6_markLeading_61 : decode cX6_markLeading 61 = .ok (.iconst (-1), 1) := dX6_markLeading_55_g.2.2.2.1
theorem dX6_markLeading_62 : decode cX6_markLeading 62 = .ok (.if_icmp .eq 11, 3) := dX6_markLeading_55_g.2.2.2.2.1
theorem dX6_markLeading_65 : decode cX6_markLeading 65 = .ok (.aload_n 0, 1) := dX6_markLeading_55_g.2.2.2.2.2.1
theorem dX6_markLeading_66 : decode cX6_markLeading 66 = .ok (.getfield 31, 3) := dX6_markLeading_55_g.2.2.2.2.2.2.1
theorem dX6_markLeading_69 : decode cX6_markLeading 69 = .ok (.iload 5, 2) := dX6_markLeading_55_g.2.2.2.2.2.2.2
theorem dX6_markLeading_71_g : (decode cX6_markLeading 71 = .ok (.iconst 1, 1)) ∧ (decode cX6_markLeading 72 = .ok (.iastore, 1)) ∧ (decode cX6_markLeading 73 = .ok (.iinc 4 (-1), 3)) ∧ (decode cX6_markLeading 76 = .ok (.goto (-53), 3)) ∧ (decode cX6_markLeading 79 = .ok (.return_, 1)) := by decide +kernel
theorem dX6_markLeading_71 : decode cX6_markLeading 71 = .ok (.iconst 1, 1) := dX6_markLeading_71_g.1
theorem dX6_markLeading_72 : decode cX6_markLeading 72 = .ok (.iastore, 1) := dX6_markLeading_71_g.2.1
theorem dX6_markLeading_73 : decode cX6_markLeading 73 = .ok (.iinc 4 (-1), 3) := dX6_markLeading_71_g.2.2.1
theorem dX6_markLeading_76 : decode cX6_markLeading 76 = .ok (.goto (-53), 3) := dX6_markLeading_71_g.2.2.2.1
theorem dX6_markLeading_79 : decode cX6_markLeading 79 = .ok (.return_, 1) := dX6_markLeading_71_g.2.2.2.2
theorem dX6_firstLeading_0_g : (decode cX6_firstLeading 0 = .ok (.aload_n 2, 1)) ∧ (decode cX6_firstLeading 1 = .ok (.aload_n 1, 1)) ∧ (decode cX6_firstLeading 2 = .ok (.iload_n 3, 1)) ∧ (decode cX6_firstLeading 3 = .ok (.invokevirtual 61, 3)) ∧ (decode cX6_firstLeading 6 = .ok (.aload_n 2, 1)) ∧ (decode cX6_firstLeading 7 = .ok (.aload_n 1, 1)) ∧ (decode cX6_firstLeading 8 = .ok (.invokevirtual 67, 3)) ∧ (decode cX6_firstLeading 11 = .ok (.iconst 0, 1)) := by decide +kernel
theorem dX6_firstLeading_0 : decode cX6_firstLeading 0 = .ok (.aload_n 2, 1) := dX6_firstLeading_0_g.1
theorem dX6_firstLeading_1 : decode cX6_firstLeading 1 = .ok (.aload_n 1, 1) := dX6_firstLeading_0_g.2.1
theorem dX6_firstLeading_2 : decode cX6_firstLeading 2 = .ok (.iload_n 3, 1) := dX6_firstLeading_0_g.2.2.1
theorem dX6_firstLeading_3 : decode cX6_firstLeading 3 = .ok (.invokevirtual 61, 3) := dX6_firstLeading_0_g.2.2.2.1
theorem dX6_firstLeading_6 : decode cX6_firstLeading 6 = .ok (.aload_n 2, 1) := dX6_firstLeading_0_g.2.2.2.2.1
theorem dX6_firstLeading_7 : decode cX6_firstLeading 7 = .ok (.aload_n 1, 1) := dX6_firstLeading_0_g.2.2.2.2.2.1
theorem dX6_firstLeading_8 : decode cX6_firstLeading 8 = .ok (.invokevirtual 67, 3) := dX6_firstLeading_0_g.2.2.2.2.2.2.1
theorem dX6_firstLeading_11 : decode cX6_firstLeading 11 = .ok (.iconst 0, 1) := dX6_firstLeading_0_g.2.2.2.2.2.2.2
theorem dX6_firstLeading_12_g : (decode cX6_firstLeading 12 = .ok (.istore 4, 2)) ∧ (decode cX6_firstLeading 14 = .ok (.iload 4, 2)) ∧ (decode cX6_firstLeading 16 = .ok (.aload_n 2, 1)) ∧ (decode cX6_firstLeading 17 = .ok (.getfield 71, 3)) ∧ (decode cX6_firstLeading 20 = .ok (.if_icmp .ge 56, 3)) ∧ (decode cX6_firstLeading 23 = .ok (.aload_n 2, 1)) ∧ (decode cX6_firstLeading 24 = .ok (.getfield 74, 3)) ∧ (decode cX6_firstLeading 27 = .ok (.iload 4, 2)) := by decide +kernel
theorem dX6_firstLeading_12 : decode cX6_firstLeading 12 = .ok (.istore 4, 2) := dX6_firstLeading_12_g.1
theorem dX6_firstLeading_14 : decode cX6_firstLeading 14 = .ok (.iload 4, 2) := dX6_firstLeading_12_g.2.1
theorem dX6_firstLeading_16 : decode cX6_firstLeading 16 = .ok (.aload_n 2, 1) := dX6_firstLeading_12_g.2.2.1
theorem dX6_firstLeading_17 : decode cX6_firstLeading 17 = .ok (.getfield 71, 3) := dX6_firstLeading_12_g.2.2.2.1
theorem dX6_firstLeading_20 : decode cX6_firstLeading 20 = .ok (.if_icmp .ge 56, 3) := dX6_firstLeading_12_g.2.2.2.2.1
theorem dX6_firstLeading_23 : decode cX6_firstLeading 23 = .ok (.aload_n 2, 1) := dX6_firstLeading_12_g.2.2.2.2.2.1
theorem dX6_firstLeading_24 : decode cX6_firstLeading 24 = .ok (.getfield 74, 3) := dX6_firstLeading_12_g.2.2.2.2.2.2.1
theorem dX6_firstLeading_27 : decode cX6_firstLeading 27 = .ok (.iload 4, 2) := dX6_firstLeading_12_g.2.2.2.2.2.2.2
theorem dX6_firstLeading_29_g : (decode cX6_firstLeading 29 = .ok (.iaload, 1)) ∧ (decode cX6_firstLeading 30 = .ok (.istore 5, 2)) ∧ (decode cX6_firstLeading 32 = .ok (.aload_n 0, 1)) ∧ (decode cX6_firstLeading 33 = .ok (.getfield 31, 3)) ∧ (decode cX6_firstLeading 36 = .ok (.iload 5, 2)) ∧ (decode cX6_firstLeading 38 = .ok (.iaload, 1)) ∧ (decode cX6_firstLeading 39 = .ok (.iconst 1, 1)) ∧ (decode cX6_firstLeading 40 = .ok (.if_icmp .ne 30, 3)) := by decide +kernel
theorem dX6_firstLeading_29 : decode cX6_firstLeading 29 = .ok (.iaload, 1) := dX6_firstLeading_29_g.1
theorem dX6_firstLeading_30 : decode cX6_firstLeading 30 = .ok (.istore 5, 2) := dX6_firstLeading_29_g.2.1
theorem dX6_firstLeading_32 : decode cX6_firstLeading 32 = .ok (.aload_n 0, 1) := dX6_firstLeading_29_g.2.2.1
theorem dX6_firstLeading_33 : decode cX6_firstLeading 33 = .ok (.getfield 31, 3) := dX6_firstLeading_29_g.2.2.2.1
theorem dX6_firstLeading_36 : decode cX6_firstLeading 36 = .ok (.iload 5, 2) := dX6_firstLeading_29_g.2.2.2.2.1
theorem dX6_firstLeading_38 : decode cX6_firstLeading 38 = .ok (.iaload, 1) := dX6_firstLeading_29_g.2.2.2.2.2.1
theorem dX6_firstLeading_39 : decode cX6_firstLeading 39 = .ok (.iconst 1, 1) := dX6_firstLeading_29_g.2.2.2.2.2.2.1
theorem dX6_firstLeading_40 : decode cX6_firstLeading 40 = .ok (.if_icmp .ne 30, 3) := dX6_firstLeading_29_g.2.2.2.2.2.2.2
theorem dX6_firstLeading_43_g : (decode cX6_firstLeading 43 = .ok (.aload_n 0, 1)) ∧ (decode cX6_firstLeading 44 = .ok (.getfield 15, 3)) ∧ (decode cX6_firstLeading 47 = .ok (.iload 5, 2)) ∧ (decode cX6_firstLeading 49 = .ok (.iaload, 1)) ∧ (decode cX6_firstLeading 50 = .ok (.aload_n 0, 1)) ∧ (decode cX6_firstLeading 51 = .ok (.getfield 15, 3)) ∧ (decode cX6_firstLeading 54 = .ok (.iload_n 3, 1)) ∧ (decode cX6_firstLeading 55 = .ok (.iaload, 1)) := by decide +kernel
theorem dX6_firstLeading_43 : decode cX6_firstLeading 43 = .ok (.aload_n 0, 1) := dX6_firstLeading_43_g.1
theorem dX6_firstLeading_44 : decode cX6_firstLeading 44 = .ok (.getfield 15, 3) := dX6_firstLeading_43_g.2.1
theorem dX6_firstLeading_47 : decode cX6_firstLeading 47 = .ok (.iload 5, 2) := dX6_firstLeading_43_g.2.2.1
theorem dX6_firstLeading_49 : decode cX6_firstLeading 49 = .ok (.iaload, 1) := dX6_firstLeading_43_g.2.2.2.1
theorem dX6_firstLeading_50 : decode cX6_firstLeading 50 = .ok (.aload_n 0, 1) := dX6_firstLeading_43_g.2.2.2.2.1
theorem dX6_firstLeading_51 : decode cX6_firstLeading 51 = .ok (.getfield 15, 3) := dX6_firstLeading_43_g.2.2.2.2.2.1
theorem dX6_firstLeading_54 : decode cX6_firstLeading 54 = .ok (.iload_n 3, 1) := dX6_firstLeading_43_g.2.2.2.2.2.2.1
theorem dX6_firstLeading_55 : decode cX6_firstLeading 55 = .ok (.iaload, 1) := dX6_firstLeading_43_g.2.2.2.2.2.2.2
theorem dX6_firstLeading_56_g : (decode cX6_firstLeading 56 = .ok (.aload_n 2, 1)) ∧ (decode cX6_firstLeading 57 = .ok (.getfield 77, 3)) ∧ (decode cX6_firstLeading 60 = .ok (.iload 4, 2)) ∧ (decode cX6_firstLeading 62 = .ok (.iaload, 1)) ∧ (decode cX6_firstLeading 63 = .ok (.iadd, 1)) ∧ (decode cX6_firstLeading 64 = .ok (.if_icmp .ne 6, 3)) ∧ (decode cX6_firstLeading 67 = .ok (.iload 4, 2)) ∧ (decode cX6_firstLeading 69 = .ok (.ireturn, 1)) := by decide +kernel
theorem dX6_firstLeading_56 : decode cX6_firstLeading 56 = .ok (.aload_n 2, 1) := dX6_firstLeading_56_g.1
theorem dX6_firstLeading_57 : decode cX6_firstLeading 57 = .ok (.getfield 77, 3) := dX6_firstLeading_56_g.2.1
theorem dX6_firstLeading_60 : decode cX6_firstLeading 60 = .ok (.iload 4, 2) := dX6_firstLeading_56_g.2.2.1
theorem dX6_firstLeading_62 : decode cX6_firstLeading 62 = .ok (.iaload, 1) := dX6_firstLeading_56_g.2.2.2.1
theorem dX6_firstLeading_63 : decode cX6_firstLeading 63 = .ok (.iadd, 1) := dX6_firstLeading_56_g.2.2.2.2.1
theorem dX6_firstLeading_64 : decode cX6_firstLeading 64 = .ok (.if_icmp .ne 6, 3) := dX6_firstLeading_56_g.2.2.2.2.2.1
theorem dX6_firstLeading_67 : decode cX6_firstLeading 67 = .ok (.iload 4, 2) := dX6_firstLeading_56_g.2.2.2.2.2.2.1
theorem dX6_firstLeading_69 : decode cX6_firstLeading 69 = .ok (.ireturn, 1) := dX6_firstLeading_56_g.2.2.2.2.2.2.2
theorem dX6_firstLeading_70_g : (decode cX6_firstLeading 70 = .ok (.iinc 4 1, 3)) ∧ (decode cX6_firstLeading 73 = .ok (.goto (-59), 3)) ∧ (decode cX6_firstLeading 76 = .ok (.iconst (-1), 1)) ∧ (decode cX6_firstLeading 77 = .ok (.ireturn, 1)) := by decide +kernel
theorem dX6_firstLeading_70 : decode cX6_firstLeading 70 = .ok (.iinc 4 1, 3) := dX6_firstLeading_70_g.1
theorem dX6_firstLeading_73 : decode cX6_firstLeading 73 = .ok (.goto (-59), 3) := dX6_firstLeading_70_g.2.1
theorem dX6_firstLeading_76 : decode cX6_firstLeading 76 = .ok (.iconst (-1), 1) := dX6_firstLeading_70_g.2.2.1
theorem dX6_firstLeading_77 : decode cX6_firstLeading 77 = .ok (.ireturn, 1) := dX6_firstLeading_70_g.2.2.2
theorem dX7_init_0_g : (decode cX7_init 0 = .ok (.aload_n 0, 1)) ∧ (decode cX7_init 1 = .ok (.invokespecial 3, 3)) ∧ (decode cX7_init 4 = .ok (.aload_n 0, 1)) ∧ (decode cX7_init 5 = .ok (.bipush 7, 2)) ∧ (decode cX7_init 7 = .ok (.iconst 5, 1)) ∧ (decode cX7_init 8 = .ok (.multianewarray 9 2, 4)) ∧ (decode cX7_init 12 = .ok (.putfield 11, 3)) ∧ (decode cX7_init 15 = .ok (.aload_n 0, 1)) := by decide +kernel
theorem dX7_init_0 : decode cX7_init 0 = .ok (.aload_n 0, 1) := dX7_init_0_g.1
theorem dX7_init_1 : decode cX7_init 1 = .ok (.invokespecial 3, 3) := dX7_init_0_g.2.1
theorem dX7_init_4 : decode cX7_init 4 = .ok (.aload_n 0, 1) := dX7_init_0_g.2.2.1
theorem dX7_init_5 : decode cX7_init 5 = .ok (.bipush 7, 2) := dX7_init_0_g.2.2.2.1
theorem dX7_init_7 : decode cX7_init 7 = .ok (.iconst 5, 1) := dX7_init_0_g.2.2.2.2.1
theorem dX7_init_8 : decode cX7_init 8 = .ok (.multianewarray 9 2, 4) := dX7_init_0_g.2.2.2.2.2.1
theorem dX7_init_12 : decode cX7_init 12 = .ok (.putfield 11, 3) := dX7_init_0_g.2.2.2.2.2.2.1
theorem dX7_init_15 : decode cX7_init 15 = .ok (.aload_n 0, 1) := dX7_init_0_g.2.2.2.2.2.2.2
theorem dX7_init_16_g : (decode cX7_init 16 = .ok (.iconst (-1), 1)) ∧ (decode cX7_init 17 = .ok (.putfield 16, 3)) ∧ (decode cX7_init 20 = .ok (.return_, 1)) := by decide +kernel
theorem dX7_init_16 : decode cX7_init 16 = .ok (.iconst (-1), 1) := dX7_init_16_g.1
theorem dX7_init_17 : decode cX7_init 17 = .ok (.putfield 16, 3) := dX7_init_16_g.2.1
theorem dX7_init_20 : decode cX7_init 20 = .ok (.return_, 1) := dX7_init_16_g.2.2
theorem dX7_prepare_0_g : (decode cX7_prepare 0 = .ok (.aload_n 0, 1)) ∧ (decode cX7_prepare 1 = .ok (.iconst 0, 1)) ∧ (decode cX7_prepare 2 = .ok (.putfield 20, 3)) ∧ (decode cX7_prepare 5 = .ok (.aload_n 0, 1)) ∧ (decode cX7_prepare 6 = .ok (.iconst 0, 1)) ∧ (decode cX7_prepare 7 = .ok (.putfield 23, 3)) ∧ (decode cX7_prepare 10 = .ok (.aload_n 0, 1)) ∧ (decode cX7_prepare 11 = .ok (.iconst 0, 1)) := by decide +kernel
theorem dX7_prepare_0 : decode cX7_prepare 0 = .ok (.aload_n 0, 1) := dX7_prepare_0_g.1
theorem dX7_prepare_1 : decode cX7_prepare 1 = .ok (.iconst 0, 1) := dX7_prepare_0_g.2.1
theorem dX7_prepare_2 : decode cX7_prepare 2 = .ok (.putfield 20, 3) := dX7_prepare_0_g.2.2.1
theorem dX7_prepare_5 : decode cX7_prepare 5 = .ok (.aload_n 0, 1) := dX7_prepare_0_g.2.2.2.1
theorem dX7_prepare_6 : decode cX7_prepare 6 = .ok (.iconst 0, 1) := dX7_prepare_0_g.2.2.2.2.1
theorem dX7_prepare_7 : decode cX7_prepare 7 = .ok (.putfield 23, 3) := dX7_prepare_0_g.2.2.2.2.2.1
theorem dX7_prepare_10 : decode cX7_prepare 10 = .ok (.aload_n 0, 1) := dX7_prepare_0_g.2.2.2.2.2.2.1
theorem dX7_prepare_11 : decode cX7_prepare 11 = .ok (.iconst 0, 1) := dX7_prepare_0_g.2.2.2.2.2.2.2
theorem dX7_prepare_12_g : (decode cX7_prepare 12 = .ok (.putfield 26, 3)) ∧ (decode cX7_prepare 15 = .ok (.iconst 0, 1)) ∧ (decode cX7_prepare 16 = .ok (.istore_n 3, 1)) ∧ (decode cX7_prepare 17 = .ok (.iload_n 3, 1)) ∧ (decode cX7_prepare 18 = .ok (.iconst 5, 1)) ∧ (decode cX7_prepare 19 = .ok (.if_icmp .ge 32, 3)) ∧ (decode cX7_prepare 22 = .ok (.aload_n 0, 1)) ∧ (decode cX7_prepare 23 = .ok (.getfield 11, 3)) := by decide +kernel
theorem dX7_prepare_12 : decode cX7_prepare 12 = .ok (.putfield 26, 3) := dX7_prepare_12_g.1
theorem dX7_prepare_15 : decode cX7_prepare 15 = .ok (.iconst 0, 1) := dX7_prepare_12_g.2.1
theorem dX7_prepare_16 : decode cX7_prepare 16 = .ok (.istore_n 3, 1) := dX7_prepare_12_g.2.2.1
theorem dX7_prepare_17 : decode cX7_prepare 17 = .ok (.iload_n 3, 1) := dX7_prepare_12_g.2.2.2.1
theorem dX7_prepare_18 : decode cX7_prepare 18 = .ok (.iconst 5, 1) := dX7_prepare_12_g.2.2.2.2.1
theorem dX7_prepare_19 : decode cX7_prepare 19 = .ok (.if_icmp .ge 32, 3) := dX7_prepare_12_g.2.2.2.2.2.1
theorem dX7_prepare_22 : decode cX7_prepare 22 = .ok (.aload_n 0, 1) := dX7_prepare_12_g.2.2.2.2.2.2.1
theorem dX7_prepare_23 : decode cX7_prepare 23 = .ok (.getfield 11, 3) := dX7_prepare_12_g.2.2.2.2.2.2.2
theorem dX7_prepare_26_g : (decode cX7_prepare 26 = .ok (.iconst 0, 1)) ∧ (decode cX7_prepare 27 = .ok (.aaload, 1)) ∧ (decode cX7_prepare 28 = .ok (.iload_n 3, 1)) ∧ (decode cX7_prepare 29 = .ok (.iload_n 3, 1)) ∧ (decode cX7_prepare 30 = .ok (.aload_n 1, 1)) ∧ (decode cX7_prepare 31 = .ok (.getfield 29, 3)) ∧ (decode cX7_prepare 34 = .ok (.if_icmp .ge 9, 3)) ∧ (decode cX7_prepare 37 = .ok (.aload_n 2, 1)) := by decide +kernel
theorem dX7_prepare_26 : decode cX7_prepare 26 = .ok (.iconst 0, 1) := dX7_prepare_26_g.1
theorem dX7_prepare_27 : decode cX7_prepare 27 = .ok (.aaload, 1) := dX7_prepare_26_g.2.1
theorem dX7_prepare_28 : decode cX7_prepare 28 = .ok (.iload_n 3, 1) := dX7_prepare_26_g.2.2.1
theorem dX7_prepare_29 : decode cX7_prepare 29 = .ok (.iload_n 3, 1) := dX7_prepare_26_g.2.2.2.1
theorem dX7_prepare_30 : decode cX7_prepare 30 = .ok (.aload_n 1, 1) := dX7_prepare_26_g.2.2.2.2.1
theorem dX7_prepare_31 : decode cX7_prepare 31 = .ok (.getfield 29, 3) := dX7_prepare_26_g.2.2.2.2.2.1
theorem dX7_prepare_34 : decode cX7_prepare 34 = .ok (.if_icmp .ge 9, 3) := dX7_prepare_26_g.2.2.2.2.2.2.1
theorem dX7_prepare_37 : decode cX7_prepare 37 = .ok (.aload_n 2, 1) := dX7_prepare_26_g.2.2.2.2.2.2.2
theorem dX7_prepare_38_g : (decode cX7_prepare 38 = .ok (.iload_n 3, 1)) ∧ (decode cX7_prepare 39 = .ok (.iaload, 1)) ∧ (decode cX7_prepare 40 = .ok (.goto 4, 3)) ∧ (decode cX7_prepare 43 = .ok (.iconst (-1), 1)) ∧ (decode cX7_prepare 44 = .ok (.iastore, 1)) ∧ (decode cX7_prepare 45 = .ok (.iinc 3 1, 3)) ∧ (decode cX7_prepare 48 = .ok (.goto (-31), 3)) ∧ (decode cX7_prepare 51 = .ok (.iconst 0, 1)) := by decide +kernel
theorem dX7_prepare_38 : decode cX7_prepare 38 = .ok (.iload_n 3, 1) := dX7_prepare_38_g.1
theorem dX7_prepare_39 : decode cX7_prepare 39 = .ok (.iaload, 1) := dX7_prepare_38_g.2.1
theorem dX7_prepare_40 : decode cX7_prepare 40 = .ok (.goto 4, 3) := dX7_prepare_38_g.2.2.1
theorem dX7_prepare_43 : decode cX7_prepare 43 = .ok (.iconst (-1), 1) := dX7_prepare_38_g.2.2.2.1
theorem dX7_prepare_44 : decode cX7_prepare 44 = .ok (.iastore, 1) := dX7_prepare_38_g.2.2.2.2.1
theorem dX7_prepare_45 : decode cX7_prepare 45 = .ok (.iinc 3 1, 3) := dX7_prepare_38_g.2.2.2.2.2.1
theorem dX7_prepare_48 : decode cX7_prepare 48 = .ok (.goto (-31), 3) := dX7_prepare_38_g.2.2.2.2.2.2.1
theorem dX7_prepare_51 : decode cX7_prepare 51 = .ok (.iconst 0, 1) := dX7_prepare_38_g.2.2.2.2.2.2.2
theorem dX7_prepare_52_g : (decode cX7_prepare 52 = .ok (.istore_n 3, 1)) ∧ (decode cX7_prepare 53 = .ok (.iload_n 3, 1)) ∧ (decode cX7_prepare 54 = .ok (.aload_n 1, 1)) ∧ (decode cX7_prepare 55 = .ok (.getfield 33, 3)) ∧ (decode cX7_prepare 58 = .ok (.if_icmp .ge 33, 3)) ∧ (decode cX7_prepare 61 = .ok (.aload_n 0, 1)) ∧ (decode cX7_prepare 62 = .ok (.dup, 1)) ∧ (decode cX7_prepare 63 = .ok (.getfield 26, 3)) := by decide +kernel
theorem dX7_prepare_52 : decode cX7_prepare 52 = .ok (.istore_n 3, 1) := dX7_prepare_52_g.1
theorem dX7_prepare_53 : decode cX7_prepare 53 = .ok (.iload_n 3, 1) := dX7_prepare_52_g.2.1
theorem dX7_prepare_54 : decode cX7_prepare 54 = .ok (.aload_n 1, 1) := dX7_prepare_52_g.2.2.1
theorem dX7_prepare_55 : decode cX7_prepare 55 = .ok (.getfield 33, 3) := dX7_prepare_52_g.2.2.2.1
theorem dX7_prepare_58 : decode cX7_prepare 58 = .ok (.if_icmp .ge 33, 3) := dX7_prepare_52_g.2.2.2.2.1
theorem dX7_prepare_61 : decode cX7_prepare 61 = .ok (.aload_n 0, 1) := dX7_prepare_52_g.2.2.2.2.2.1
theorem dX7_prepare_62 : decode cX7_prepare 62 = .ok (.dup, 1) := dX7_prepare_52_g.2.2.2.2.2.2.1
theorem dX7_prepare_63 : decode cX7_prepare 63 = .ok (.getfield 26, 3) := dX7_prepare_52_g.2.2.2.2.2.2.2
theorem dX7_prepare_66_g : (decode cX7_prepare 66 = .ok (.aload_n 0, 1)) ∧ (decode cX7_prepare 67 = .ok (.getfield 11, 3)) ∧ (decode cX7_prepare 70 = .ok (.iconst 0, 1)) ∧ (decode cX7_prepare 71 = .ok (.aaload, 1)) ∧ (decode cX7_prepare 72 = .ok (.iconst 0, 1)) ∧ (decode cX7_prepare 73 = .ok (.iaload, 1)) ∧ (decode cX7_prepare 74 = .ok (.aload_n 1, 1)) ∧ (decode cX7_prepare 75 = .ok (.getfield 36, 3)) := by decide +kernel
theorem dX7_prepare_66 : decode cX7_prepare 66 = .ok (.aload_n 0, 1) := dX7_prepare_66_g.1
theorem dX7_prepare_67 : decode cX7_prepare 67 = .ok (.getfield 11, 3) := dX7_prepare_66_g.2.1
theorem dX7_prepare_70 : decode cX7_prepare 70 = .ok (.iconst 0, 1) := dX7_prepare_66_g.2.2.1
theorem dX7_prepare_71 : decode cX7_prepare 71 = .ok (.aaload, 1) := dX7_prepare_66_g.2.2.2.1
theorem dX7_prepare_72 : decode cX7_prepare 72 = .ok (.iconst 0, 1) := dX7_prepare_66_g.2.2.2.2.1
theorem dX7_prepare_73 : decode cX7_prepare 73 = .ok (.iaload, 1) := dX7_prepare_66_g.2.2.2.2.2.1
theorem dX7_prepare_74 : decode cX7_prepare 74 = .ok (.aload_n 1, 1) := dX7_prepare_66_g.2.2.2.2.2.2.1
theorem dX7_prepare_75 : decode cX7_prepare 75 = .ok (.getfield 36, 3) := dX7_prepare_66_g.2.2.2.2.2.2.2
theorem dX7_prepare_78_g : (decode cX7_prepare 78 = .ok (.iload_n 3, 1)) ∧ (decode cX7_prepare 79 = .ok (.iaload, 1)) ∧ (decode cX7_prepare 80 = .ok (.imul, 1)) ∧ (decode cX7_prepare 81 = .ok (.iadd, 1)) ∧ (decode cX7_prepare 82 = .ok (.putfield 26, 3)) ∧ (decode cX7_prepare 85 = .ok (.iinc 3 1, 3)) ∧ (decode cX7_prepare 88 = .ok (.goto (-35), 3)) ∧ (decode cX7_prepare 91 = .ok (.return_, 1)) := by decide +kernel
theorem dX7_prepare_78 : decode cX7_prepare 78 = .ok (.iload_n 3, 1) := dX7_prepare_78_g.1
theorem dX7_prepare_79 : decode cX7_prepare 79 = .ok (.iaload, 1) := dX7_prepare_78_g.2.1
theorem dX7_prepare_80 : decode cX7_prepare 80 = .ok (.imul, 1) := dX7_prepare_78_g.2.2.1
theorem dX7_prepare_81 : decode cX7_prepare 81 = .ok (.iadd, 1) := dX7_prepare_78_g.2.2.2.1
theorem dX7_prepare_82 : decode cX7_prepare 82 = .ok (.putfield 26, 3) := dX7_prepare_78_g.2.2.2.2.1
theorem dX7_prepare_85 : decode cX7_prepare 85 = .ok (.iinc 3 1, 3) := dX7_prepare_78_g.2.2.2.2.2.1
theorem dX7_prepare_88 : decode cX7_prepare 88 = .ok (.goto (-35), 3) := dX7_prepare_78_g.2.2.2.2.2.2.1
theorem dX7_prepare_91 : decode cX7_prepare 91 = .ok (.return_, 1) := dX7_prepare_78_g.2.2.2.2.2.2.2
theorem dX7_run_0_g : (decode cX7_run 0 = .ok (.aload_n 0, 1)) ∧ (decode cX7_run 1 = .ok (.aload_n 1, 1)) ∧ (decode cX7_run 2 = .ok (.aload_n 2, 1)) ∧ (decode cX7_run 3 = .ok (.aload_n 3, 1)) ∧ (decode cX7_run 4 = .ok (.iload 4, 2)) ∧ (decode cX7_run 6 = .ok (.iload 5, 2)) ∧ (decode cX7_run 8 = .ok (.iconst 0, 1)) ∧ (decode cX7_run 9 = .ok (.invokevirtual 40, 3)) := by decide +kernel
theorem dX7_run_0 : decode cX7_run 0 = .ok (.aload_n 0, 1) := dX7_run_0_g.1
theorem dX7_run_1 : decode cX7_run 1 = .ok (.aload_n 1, 1) := dX7_run_0_g.2.1
theorem dX7_run_2 : decode cX7_run 2 = .ok (.aload_n 2, 1) := dX7_run_0_g.2.2.1
theorem dX7_run_3 : decode cX7_run 3 = .ok (.aload_n 3, 1) := dX7_run_0_g.2.2.2.1
theorem dX7_run_4 : decode cX7_run 4 = .ok (.iload 4, 2) := dX7_run_0_g.2.2.2.2.1
theorem dX7_run_6 : decode cX7_run 6 = .ok (.iload 5, 2) := dX7_run_0_g.2.2.2.2.2.1
theorem dX7_run_8 : decode cX7_run 8 = .ok (.iconst 0, 1) := dX7_run_0_g.2.2.2.2.2.2.1
theorem dX7_run_9 : decode cX7_run 9 = .ok (.invokevirtual 40, 3) := dX7_run_0_g.2.2.2.2.2.2.2
theorem dX7_run_12_g : (decode cX7_run 12 = .ok (.istore 6, 2)) ∧ (decode cX7_run 14 = .ok (.iload 6, 2)) ∧ (decode cX7_run 16 = .ok (.bipush (-2), 2)) ∧ (decode cX7_run 18 = .ok (.if_icmp .ne 11, 3)) ∧ (decode cX7_run 21 = .ok (.aload_n 0, 1)) ∧ (decode cX7_run 22 = .ok (.aload_n 0, 1)) ∧ (decode cX7_run 23 = .ok (.getfield 23, 3)) ∧ (decode cX7_run 26 = .ok (.putfield 16, 3)) := by decide +kernel
theorem dX7_run_12 : decode cX7_run 12 = .ok (.istore 6, 2) := dX7_run_12_g.1
theorem dX7_run_14 : decode cX7_run 14 = .ok (.iload 6, 2) := dX7_run_12_g.2.1
theorem dX7_run_16 : decode cX7_run 16 = .ok (.bipush (-2), 2) := dX7_run_12_g.2.2.1
theorem dX7_run_18 : decode cX7_run 18 = .ok (.if_icmp .ne 11, 3) := dX7_run_12_g.2.2.2.1
theorem dX7_run_21 : decode cX7_run 21 = .ok (.aload_n 0, 1) := dX7_run_12_g.2.2.2.2.1
theorem dX7_run_22 : decode cX7_run 22 = .ok (.aload_n 0, 1) := dX7_run_12_g.2.2.2.2.2.1
theorem dX7_run_23 : decode cX7_run 23 = .ok (.getfield 23, 3) := dX7_run_12_g.2.2.2.2.2.2.1
theorem dX7_run_26 : decode cX7_run 26 = .ok (.putfield 16, 3) := dX7_run_12_g.2.2.2.2.2.2.2
theorem dX7_run_29_g : (decode cX7_run 29 = .ok (.iload 6, 2)) ∧ (decode cX7_run 31 = .ok (.ifCond .eq 6, 3)) ∧ (decode cX7_run 34 = .ok (.iload 6, 2)) ∧ (decode cX7_run 36 = .ok (.ireturn, 1)) ∧ (decode cX7_run 37 = .ok (.aload_n 2, 1)) ∧ (decode cX7_run 38 = .ok (.aload_n 1, 1)) ∧ (decode cX7_run 39 = .ok (.aload_n 0, 1)) ∧ (decode cX7_run 40 = .ok (.getfield 26, 3)) := by decide +kernel
theorem dX7_run_29 : decode cX7_run 29 = .ok (.iload 6, 2) := dX7_run_29_g.1
theorem dX7_run_31 : decode cX7_run 31 = .ok (.ifCond .eq 6, 3) := dX7_run_29_g.2.1
theorem dX7_run_34 : decode cX7_run 34 = .ok (.iload 6, 2) := dX7_run_29_g.2.2.1
theorem dX7_run_36 : decode cX7_run 36 = .ok (.ireturn, 1) := dX7_run_29_g.2.2.2.1
theorem dX7_run_37 : decode cX7_run 37 = .ok (.aload_n 2, 1) := dX7_run_29_g.2.2.2.2.1
theorem dX7_run_38 : decode cX7_run 38 = .ok (.aload_n 1, 1) := dX7_run_29_g.2.2.2.2.2.1
theorem dX7_run_39 : decode cX7_run 39 = .ok (.aload_n 0, 1) := dX7_run_29_g.2.2.2.2.2.2.1
theorem dX7_run_40 : decode cX7_run 40 = .ok (.getfield 26, 3) := dX7_run_29_g.2.2.2.2.2.2.2
theorem dX7_run_43_g : (decode cX7_run 43 = .ok (.invokevirtual 44, 3)) ∧ (decode cX7_run 46 = .ok (.iconst 0, 1)) ∧ (decode cX7_run 47 = .ok (.istore 7, 2)) ∧ (decode cX7_run 49 = .ok (.iload 7, 2)) ∧ (decode cX7_run 51 = .ok (.iload 5, 2)) ∧ (decode cX7_run 53 = .ok (.if_icmp .ge 30, 3)) ∧ (decode cX7_run 56 = .ok (.aload_n 2, 1)) ∧ (decode cX7_run 57 = .ok (.getfield 50, 3)) := by decide +kernel
theorem dX7_run_43 : decode cX7_run 43 = .ok (.invokevirtual 44, 3) := dX7_run_43_g.1
theorem dX7_run_46 : decode cX7_run 46 = .ok (.iconst 0, 1) := dX7_run_43_g.2.1
theorem dX7_run_47 : decode cX7_run 47 = .ok (.istore 7, 2) := dX7_run_43_g.2.2.1
theorem dX7_run_49 : decode cX7_run 49 = .ok (.iload 7, 2) := dX7_run_43_g.2.2.2.1
theorem dX7_run_51 : decode cX7_run 51 = .ok (.iload 5, 2) := dX7_run_43_g.2.2.2.2.1
theorem dX7_run_53 : decode cX7_run 53 = .ok (.if_icmp .ge 30, 3) := dX7_run_43_g.2.2.2.2.2.1
theorem dX7_run_56 : decode cX7_run 56 = .ok (.aload_n 2, 1) := dX7_run_43_g.2.2.2.2.2.2.1
theorem dX7_run_57 : decode cX7_run 57 = .ok (.getfield 50, 3) := dX7_run_43_g.2.2.2.2.2.2.2
theorem dX7_run_60_g : (decode cX7_run 60 = .ok (.iload 7, 2)) ∧ (decode cX7_run 62 = .ok (.iaload, 1)) ∧ (decode cX7_run 63 = .ok (.aload_n 0, 1)) ∧ (decode cX7_run 64 = .ok (.getfield 11, 3)) ∧ (decode cX7_run 67 = .ok (.iconst 0, 1)) ∧ (decode cX7_run 68 = .ok (.aaload, 1)) ∧ (decode cX7_run 69 = .ok (.iconst 1, 1)) ∧ (decode cX7_run 70 = .ok (.iaload, 1)) := by decide +kernel
theorem dX7_run_60 : decode cX7_run 60 = .ok (.iload 7, 2) := dX7_run_60_g.1
theorem dX7_run_62 : decode cX7_run 62 = .ok (.iaload, 1) := dX7_run_60_g.2.1
theorem dX7_run_63 : decode cX7_run 63 = .ok (.aload_n 0, 1) := dX7_run_60_g.2.2.1
theorem dX7_run_64 : decode cX7_run 64 = .ok (.getfield 11, 3) := dX7_run_60_g.2.2.2.1
theorem dX7_run_67 : decode cX7_run 67 = .ok (.iconst 0, 1) := dX7_run_60_g.2.2.2.2.1
theorem dX7_run_68 : decode cX7_run 68 = .ok (.aaload, 1) := dX7_run_60_g.2.2.2.2.2.1
theorem dX7_run_69 : decode cX7_run 69 = .ok (.iconst 1, 1) := dX7_run_60_g.2.2.2.2.2.2.1
theorem dX7_run_70 : decode cX7_run 70 = .ok (.iaload, 1) := dX7_run_60_g.2.2.2.2.2.2.2
theorem dX7_run_71_g : (decode cX7_run 71 = .ok (.if_icmp .eq 6, 3)) ∧ (decode cX7_run 74 = .ok (.bipush (-3), 2)) ∧ (decode cX7_run 76 = .ok (.ireturn, 1)) ∧ (decode cX7_run 77 = .ok (.iinc 7 1, 3)) ∧ (decode cX7_run 80 = .ok (.goto (-31), 3)) ∧ (decode cX7_run 83 = .ok (.aload_n 0, 1)) ∧ (decode cX7_run 84 = .ok (.getfield 23, 3)) ∧ (decode cX7_run 87 = .ok (.ireturn, 1)) := by decide +kernel
theorem dX7_run_71 : decode cX7_run 71 = .ok (.if_icmp .eq 6, 3) := dX7_run_71_g.1
theorem dX7_run_74 : decode cX7_run 74 = .ok (.bipush (-3), 2) := dX7_run_71_g.2.1
theorem dX7_run_76 : decode cX7_run 76 = .ok (.ireturn, 1) := dX7_run_71_g.2.2.1
theorem dX7_run_77 : decode cX7_run 77 = .ok (.iinc 7 1, 3) := dX7_run_71_g.2.2.2.1
theorem dX7_run_80 : decode cX7_run 80 = .ok (.goto (-31), 3) := dX7_run_71_g.2.2.2.2.1
theorem dX7_run_83 : decode cX7_run 83 = .ok (.aload_n 0, 1) := dX7_run_71_g.2.2.2.2.2.1
theorem dX7_run_84 : decode cX7_run 84 = .ok (.getfield 23, 3) := dX7_run_71_g.2.2.2.2.2.2.1
theorem dX7_run_87 : decode cX7_run 87 = .ok (.ireturn, 1) := dX7_run_71_g.2.2.2.2.2.2.2
theorem dX7_perform_0_g : (decode cX7_perform 0 = .ok (.aload_n 0, 1)) ∧ (decode cX7_perform 1 = .ok (.dup, 1)) ∧ (decode cX7_perform 2 = .ok (.getfield 20, 3)) ∧ (decode cX7_perform 5 = .ok (.iconst 1, 1)) ∧ (decode cX7_perform 6 = .ok (.iadd, 1)) ∧ (decode cX7_perform 7 = .ok (.putfield 20, 3)) ∧ (decode cX7_perform 10 = .ok (.aload_n 0, 1)) ∧ (decode cX7_perform 11 = .ok (.getfield 20, 3)) := by decide +kernel
theorem dX7_perform_0 : decode cX7_perform 0 = .ok (.aload_n 0, 1) := dX7_perform_0_g.1
theorem dX7_perform_1 : decode cX7_perform 1 = .ok (.dup, 1) := dX7_perform_0_g.2.1
theorem dX7_perform_2 : decode cX7_perform 2 = .ok (.getfield 20, 3) := dX7_perform_0_g.2.2.1
theorem dX7_perform_5 : decode cX7_perform 5 = .ok (.iconst 1, 1) := dX7_perform_0_g.2.2.2.1
theorem dX7_perform_6 : decode cX7_perform 6 = .ok (.iadd, 1) := dX7_perform_0_g.2.2.2.2.1
theorem dX7_perform_7 : decode cX7_perform 7 = .ok (.putfield 20, 3) := dX7_perform_0_g.2.2.2.2.2.1
theorem dX7_perform_10 : decode cX7_perform 10 = .ok (.aload_n 0, 1) := dX7_perform_0_g.2.2.2.2.2.2.1
theorem dX7_perform_11 : decode cX7_perform 11 = .ok (.getfield 20, 3) := dX7_perform_0_g.2.2.2.2.2.2.2
theorem dX7_perform_14_g : (decode cX7_perform 14 = .ok (.sipush 5000, 3)) ∧ (decode cX7_perform 17 = .ok (.if_icmp .le 6, 3)) ∧ (decode cX7_perform 20 = .ok (.bipush (-4), 2)) ∧ (decode cX7_perform 22 = .ok (.ireturn, 1)) ∧ (decode cX7_perform 23 = .ok (.iconst 0, 1)) ∧ (decode cX7_perform 24 = .ok (.istore 7, 2)) ∧ (decode cX7_perform 26 = .ok (.iload 7, 2)) ∧ (decode cX7_perform 28 = .ok (.aload_n 3, 1)) := by decide +kernel
theorem dX7_perform_14 : decode cX7_perform 14 = .ok (.sipush 5000, 3) := dX7_perform_14_g.1
theorem dX7_perform_17 : decode cX7_perform 17 = .ok (.if_icmp .le 6, 3) := dX7_perform_14_g.2.1
theorem dX7_perform_20 : decode cX7_perform 20 = .ok (.bipush (-4), 2) := dX7_perform_14_g.2.2.1
theorem dX7_perform_22 : decode cX7_perform 22 = .ok (.ireturn, 1) := dX7_perform_14_g.2.2.2.1
theorem dX7_perform_23 : decode cX7_perform 23 = .ok (.iconst 0, 1) := dX7_perform_14_g.2.2.2.2.1
theorem dX7_perform_24 : decode cX7_perform 24 = .ok (.istore 7, 2) := dX7_perform_14_g.2.2.2.2.2.1
theorem dX7_perform_26 : decode cX7_perform 26 = .ok (.iload 7, 2) := dX7_perform_14_g.2.2.2.2.2.2.1
theorem dX7_perform_28 : decode cX7_perform 28 = .ok (.aload_n 3, 1) := dX7_perform_14_g.2.2.2.2.2.2.2
theorem dX7_perform_29_g : (decode cX7_perform 29 = .ok (.getfield 53, 3)) ∧ (decode cX7_perform 32 = .ok (.iload 4, 2)) ∧ (decode cX7_perform 34 = .ok (.iaload, 1)) ∧ (decode cX7_perform 35 = .ok (.if_icmp .ge 157, 3)) ∧ (decode cX7_perform 38 = .ok (.iload 4, 2)) ∧ (decode cX7_perform 40 = .ok (.bipush 8, 2)) ∧ (decode cX7_perform 42 = .ok (.imul, 1)) ∧ (decode cX7_perform 43 = .ok (.iload 7, 2)) := by decide +kernel
theorem dX7_perform_29 : decode cX7_perform 29 = .ok (.getfield 53, 3) := dX7_perform_29_g.1
theorem dX7_perform_32 : decode cX7_perform 32 = .ok (.iload 4, 2) := dX7_perform_29_g.2.1
theorem dX7_perform_34 : decode cX7_perform 34 = .ok (.iaload, 1) := dX7_perform_29_g.2.2.1
theorem dX7_perform_35 : decode cX7_perform 35 = .ok (.if_icmp .ge 157, 3) := dX7_perform_29_g.2.2.2.1
theorem dX7_perform_38 : decode cX7_perform 38 = .ok (.iload 4, 2) := dX7_perform_29_g.2.2.2.2.1
theorem dX7_perform_40 : decode cX7_perform 40 = .ok (.bipush 8, 2) := dX7_perform_29_g.2.2.2.2.2.1
theorem dX7_perform_42 : decode cX7_perform 42 = .ok (.imul, 1) := dX7_perform_29_g.2.2.2.2.2.2.1
theorem dX7_perform_43 : decode cX7_perform 43 = .ok (.iload 7, 2) := dX7_perform_29_g.2.2.2.2.2.2.2
theorem dX7_perform_45_g : (decode cX7_perform 45 = .ok (.iadd, 1)) ∧ (decode cX7_perform 46 = .ok (.istore 8, 2)) ∧ (decode cX7_perform 48 = .ok (.iload 5, 2)) ∧ (decode cX7_perform 50 = .ok (.aload_n 3, 1)) ∧ (decode cX7_perform 51 = .ok (.getfield 58, 3)) ∧ (decode cX7_perform 54 = .ok (.iload 8, 2)) ∧ (decode cX7_perform 56 = .ok (.iaload, 1)) ∧ (decode cX7_perform 57 = .ok (.isub, 1)) := by decide +kernel
theorem dX7_perform_45 : decode cX7_perform 45 = .ok (.iadd, 1) := dX7_perform_45_g.1
theorem dX7_perform_46 : decode cX7_perform 46 = .ok (.istore 8, 2) := dX7_perform_45_g.2.1
theorem dX7_perform_48 : decode cX7_perform 48 = .ok (.iload 5, 2) := dX7_perform_45_g.2.2.1
theorem dX7_perform_50 : decode cX7_perform 50 = .ok (.aload_n 3, 1) := dX7_perform_45_g.2.2.2.1
theorem dX7_perform_51 : decode cX7_perform 51 = .ok (.getfield 58, 3) := dX7_perform_45_g.2.2.2.2.1
theorem dX7_perform_54 : decode cX7_perform 54 = .ok (.iload 8, 2) := dX7_perform_45_g.2.2.2.2.2.1
theorem dX7_perform_56 : decode cX7_perform 56 = .ok (.iaload, 1) := dX7_perform_45_g.2.2.2.2.2.2.1
theorem dX7_perform_57 : decode cX7_perform 57 = .ok (.isub, 1) := dX7_perform_45_g.2.2.2.2.2.2.2
theorem dX7_perform_58_g : (decode cX7_perform 58 = .ok (.istore 9, 2)) ∧ (decode cX7_perform 60 = .ok (.iconst 0, 1)) ∧ (decode cX7_perform 61 = .ok (.istore 10, 2)) ∧ (decode cX7_perform 63 = .ok (.aload_n 3, 1)) ∧ (decode cX7_perform 64 = .ok (.getfield 61, 3)) ∧ (decode cX7_perform 67 = .ok (.iload 8, 2)) ∧ (decode cX7_perform 69 = .ok (.iaload, 1)) ∧ (decode cX7_perform 70 = .ok (.iconst (-1), 1)) := by decide +kernel
theorem dX7_perform_58 : decode cX7_perform 58 = .ok (.istore 9, 2) := dX7_perform_58_g.1
theorem dX7_perform_60 : decode cX7_perform 60 = .ok (.iconst 0, 1) := dX7_perform_58_g.2.1
theorem dX7_perform_61 : decode cX7_perform 61 = .ok (.istore 10, 2) := dX7_perform_58_g.2.2.1
theorem dX7_perform_63 : decode cX7_perform 63 = .ok (.aload_n 3, 1) := dX7_perform_58_g.2.2.2.1
theorem dX7_perform_64 : decode cX7_perform 64 = .ok (.getfield 61, 3) := dX7_perform_58_g.2.2.2.2.1
theorem dX7_perform_67 : decode cX7_perform 67 = .ok (.iload 8, 2) := dX7_perform_58_g.2.2.2.2.2.1
theorem dX7_perform_69 : decode cX7_perform 69 = .ok (.iaload, 1) := dX7_perform_58_g.2.2.2.2.2.2.1
theorem dX7_perform_70 : decode cX7_perform 70 = .ok (.iconst (-1), 1) := dX7_perform_58_g.2.2.2.2.2.2.2
theorem dX7_perform_71_g : (decode cX7_perform 71 = .ok (.if_icmp .ne 62, 3)) ∧ (decode cX7_perform 74 = .ok (.aload_n 0, 1)) ∧ (decode cX7_perform 75 = .ok (.getfield 11, 3)) ∧ (decode cX7_perform 78 = .ok (.iload 6, 2)) ∧ (decode cX7_perform 80 = .ok (.aaload, 1)) ∧ (decode cX7_perform 81 = .ok (.aload_n 3, 1)) ∧ (decode cX7_perform 82 = .ok (.getfield 64, 3)) ∧ (decode cX7_perform 85 = .ok (.iload 8, 2)) := by decide +kernel
theorem dX7_perform_71 : decode cX7_perform 71 = .ok (.if_icmp .ne 62, 3) := dX7_perform_71_g.1
theorem dX7_perform_74 : decode cX7_perform 74 = .ok (.aload_n 0, 1) := dX7_perform_71_g.2.1
theorem dX7_perform_75 : decode cX7_perform 75 = .ok (.getfield 11, 3) := dX7_perform_71_g.2.2.1
theorem dX7_perform_78 : decode cX7_perform 78 = .ok (.iload 6, 2) := dX7_perform_71_g.2.2.2.1
theorem dX7_perform_80 : decode cX7_perform 80 = .ok (.aaload, 1) := dX7_perform_71_g.2.2.2.2.1
theorem dX7_perform_81 : decode cX7_perform 81 = .ok (.aload_n 3, 1) := dX7_perform_71_g.2.2.2.2.2.1
theorem dX7_perform_82 : decode cX7_perform 82 = .ok (.getfield 64, 3) := dX7_perform_71_g.2.2.2.2.2.2.1
theorem dX7_perform_85 : decode cX7_perform 85 = .ok (.iload 8, 2) := dX7_perform_71_g.2.2.2.2.2.2.2
theorem dX7_perform_87_g : (decode cX7_perform 87 = .ok (.iconst 5, 1)) ∧ (decode cX7_perform 88 = .ok (.imul, 1)) ∧ (decode cX7_perform 89 = .ok (.iaload, 1)) ∧ (decode cX7_perform 90 = .ok (.iaload, 1)) ∧ (decode cX7_perform 91 = .ok (.istore 11, 2)) ∧ (decode cX7_perform 93 = .ok (.aload_n 0, 1)) ∧ (decode cX7_perform 94 = .ok (.getfield 11, 3)) ∧ (decode cX7_perform 97 = .ok (.iload 6, 2)) := by decide +kernel
theorem dX7_perform_87 : decode cX7_perform 87 = .ok (.iconst 5, 1) := dX7_perform_87_g.1
theorem dX7_perform_88 : decode cX7_perform 88 = .ok (.imul, 1) := dX7_perform_87_g.2.1
theorem dX7_perform_89 : decode cX7_perform 89 = .ok (.iaload, 1) := dX7_perform_87_g.2.2.1
theorem dX7_perform_90 : decode cX7_perform 90 = .ok (.iaload, 1) := dX7_perform_87_g.2.2.2.1
theorem dX7_perform_91 : decode cX7_perform 91 = .ok (.istore 11, 2) := dX7_perform_87_g.2.2.2.2.1
theorem dX7_perform_93 : decode cX7_perform 93 = .ok (.aload_n 0, 1) := dX7_perform_87_g.2.2.2.2.2.1
theorem dX7_perform_94 : decode cX7_perform 94 = .ok (.getfield 11, 3) := dX7_perform_87_g.2.2.2.2.2.2.1
theorem dX7_perform_97 : decode cX7_perform 97 = .ok (.iload 6, 2) := dX7_perform_87_g.2.2.2.2.2.2.2
theorem dX7_perform_99_g : (decode cX7_perform 99 = .ok (.aaload, 1)) ∧ (decode cX7_perform 100 = .ok (.aload_n 3, 1)) ∧ (decode cX7_perform 101 = .ok (.getfield 64, 3)) ∧ (decode cX7_perform 104 = .ok (.iload 8, 2)) ∧ (decode cX7_perform 106 = .ok (.iconst 5, 1)) ∧ (decode cX7_perform 107 = .ok (.imul, 1)) ∧ (decode cX7_perform 108 = .ok (.iconst 1, 1)) ∧ (decode cX7_perform 109 = .ok (.iadd, 1)) := by decide +kernel
theorem dX7_perform_99 : decode cX7_perform 99 = .ok (.aaload, 1) := dX7_perform_99_g.1
theorem dX7_perform_100 : decode cX7_perform 100 = .ok (.aload_n 3, 1) := dX7_perform_99_g.2.1
theorem dX7_perform_101 : decode cX7_perform 101 = .ok (.getfield 64, 3) := dX7_perform_99_g.2.2.1
theorem dX7_perform_104 : decode cX7_perform 104 = .ok (.iload 8, 2) := dX7_perform_99_g.2.2.2.1
theorem dX7_perform_106 : decode cX7_perform 106 = .ok (.iconst 5, 1) := dX7_perform_99_g.2.2.2.2.1
theorem dX7_perform_107 : decode cX7_perform 107 = .ok (.imul, 1) := dX7_perform_99_g.2.2.2.2.2.1
theorem dX7_perform_108 : decode cX7_perform 108 = .ok (.iconst 1, 1) := dX7_perform_99_g.2.2.2.2.2.2.1
theorem dX7_perform_109 : decode cX7_perform 109 = .ok (.iadd, 1) := dX7_perform_99_g.2.2.2.2.2.2.2
theorem dX7_perform_110_g : (decode cX7_perform 110 = .ok (.iaload, 1)) ∧ (decode cX7_perform 111 = .ok (.iaload, 1)) ∧ (decode cX7_perform 112 = .ok (.istore 12, 2)) ∧ (decode cX7_perform 114 = .ok (.aload_n 0, 1)) ∧ (decode cX7_perform 115 = .ok (.aload_n 1, 1)) ∧ (decode cX7_perform 116 = .ok (.aload_n 2, 1)) ∧ (decode cX7_perform 117 = .ok (.iload 5, 2)) ∧ (decode cX7_perform 119 = .ok (.iconst 1, 1)) := by decide +kernel
theorem dX7_perform_110 : decode cX7_perform 110 = .ok (.iaload, 1) := dX7_perform_110_g.1
theorem dX7_perform_111 : decode cX7_perform 111 = .ok (.iaload, 1) := dX7_perform_110_g.2.1
theorem dX7_perform_112 : decode cX7_perform 112 = .ok (.istore 12, 2) := dX7_perform_110_g.2.2.1
theorem dX7_perform_114 : decode cX7_perform 114 = .ok (.aload_n 0, 1) := dX7_perform_110_g.2.2.2.1
theorem dX7_perform_115 : decode cX7_perform 115 = .ok (.aload_n 1, 1) := dX7_perform_110_g.2.2.2.2.1
theorem dX7_perform_116 : decode cX7_perform 116 = .ok (.aload_n 2, 1) := dX7_perform_110_g.2.2.2.2.2.1
theorem dX7_perform_117 : decode cX7_perform 117 = .ok (.iload 5, 2) := dX7_perform_110_g.2.2.2.2.2.2.1
theorem dX7_perform_119 : decode cX7_perform 119 = .ok (.iconst 1, 1) := dX7_perform_110_g.2.2.2.2.2.2.2
theorem dX7_perform_120_g : (decode cX7_perform 120 = .ok (.isub, 1)) ∧ (decode cX7_perform 121 = .ok (.iload 11, 2)) ∧ (decode cX7_perform 123 = .ok (.iload 12, 2)) ∧ (decode cX7_perform 125 = .ok (.invokevirtual 67, 3)) ∧ (decode cX7_perform 128 = .ok (.istore 10, 2)) ∧ (decode cX7_perform 130 = .ok (.goto 48, 3)) ∧ (decode cX7_perform 133 = .ok (.iload 9, 2)) ∧ (decode cX7_perform 135 = .ok (.ifCond .le 43, 3)) := by decide +kernel
theorem dX7_perform_120 : decode cX7_perform 120 = .ok (.isub, 1) := dX7_perform_120_g.1
theorem dX7_perform_121 : decode cX7_perform 121 = .ok (.iload 11, 2) := dX7_perform_120_g.2.1
theorem dX7_perform_123 : decode cX7_perform 123 = .ok (.iload 12, 2) := dX7_perform_120_g.2.2.1
theorem dX7_perform_125 : decode cX7_perform 125 = .ok (.invokevirtual 67, 3) := dX7_perform_120_g.2.2.2.1
theorem dX7_perform_128 : decode cX7_perform 128 = .ok (.istore 10, 2) := dX7_perform_120_g.2.2.2.2.1
theorem dX7_perform_130 : decode cX7_perform 130 = .ok (.goto 48, 3) := dX7_perform_120_g.2.2.2.2.2.1
theorem dX7_perform_133 : decode cX7_perform 133 = .ok (.iload 9, 2) := dX7_perform_120_g.2.2.2.2.2.2.1
theorem dX7_perform_135 : decode cX7_perform 135 = .ok (.ifCond .le 43, 3) := dX7_perform_120_g.2.2.2.2.2.2.2
theorem dX7_perform_138_g : (decode cX7_perform 138 = .ok (.iload 6, 2)) ∧ (decode cX7_perform 140 = .ok (.iconst 1, 1)) ∧ (decode cX7_perform 141 = .ok (.iadd, 1)) ∧ (decode cX7_perform 142 = .ok (.bipush 7, 2)) ∧ (decode cX7_perform 144 = .ok (.if_icmp .ge 34, 3)) ∧ (decode cX7_perform 147 = .ok (.aload_n 0, 1)) ∧ (decode cX7_perform 148 = .ok (.aload_n 3, 1)) ∧ (decode cX7_perform 149 = .ok (.iload 8, 2)) := by decide +kernel
theorem dX7_perform_138 : decode cX7_perform 138 = .ok (.iload 6, 2) := dX7_perform_138_g.1
theorem dX7_perform_140 : decode cX7_perform 140 = .ok (.iconst 1, 1) := dX7_perform_138_g.2.1
theorem dX7_perform_141 : decode cX7_perform 141 = .ok (.iadd, 1) := dX7_perform_138_g.2.2.1
theorem dX7_perform_142 : decode cX7_perform 142 = .ok (.bipush 7, 2) := dX7_perform_138_g.2.2.2.1
theorem dX7_perform_144 : decode cX7_perform 144 = .ok (.if_icmp .ge 34, 3) := dX7_perform_138_g.2.2.2.2.1
theorem dX7_perform_147 : decode cX7_perform 147 = .ok (.aload_n 0, 1) := dX7_perform_138_g.2.2.2.2.2.1
theorem dX7_perform_148 : decode cX7_perform 148 = .ok (.aload_n 3, 1) := dX7_perform_138_g.2.2.2.2.2.2.1
theorem dX7_perform_149 : decode cX7_perform 149 = .ok (.iload 8, 2) := dX7_perform_138_g.2.2.2.2.2.2.2
theorem dX7_perform_151_g : (decode cX7_perform 151 = .ok (.iload 6, 2)) ∧ (decode cX7_perform 153 = .ok (.invokevirtual 71, 3)) ∧ (decode cX7_perform 156 = .ok (.aload_n 0, 1)) ∧ (decode cX7_perform 157 = .ok (.aload_n 1, 1)) ∧ (decode cX7_perform 158 = .ok (.aload_n 2, 1)) ∧ (decode cX7_perform 159 = .ok (.aload_n 3, 1)) ∧ (decode cX7_perform 160 = .ok (.aload_n 3, 1)) ∧ (decode cX7_perform 161 = .ok (.getfield 61, 3)) := by decide +kernel
theorem dX7_perform_151 : decode cX7_perform 151 = .ok (.iload 6, 2) := dX7_perform_151_g.1
theorem dX7_perform_153 : decode cX7_perform 153 = .ok (.invokevirtual 71, 3) := dX7_perform_151_g.2.1
theorem dX7_perform_156 : decode cX7_perform 156 = .ok (.aload_n 0, 1) := dX7_perform_151_g.2.2.1
theorem dX7_perform_157 : decode cX7_perform 157 = .ok (.aload_n 1, 1) := dX7_perform_151_g.2.2.2.1
theorem dX7_perform_158 : decode cX7_perform 158 = .ok (.aload_n 2, 1) := dX7_perform_151_g.2.2.2.2.1
theorem dX7_perform_159 : decode cX7_perform 159 = .ok (.aload_n 3, 1) := dX7_perform_151_g.2.2.2.2.2.1
theorem dX7_perform_160 : decode cX7_perform 160 = .ok (.aload_n 3, 1) := dX7_perform_151_g.2.2.2.2.2.2.1
theorem dX7_perform_161 : decode cX7_perform 161 = .ok (.getfield 61, 3) := dX7_perform_151_g.2.2.2.2.2.2.2
theorem dX7_perform_164_g : (decode cX7_perform 164 = .ok (.iload 8, 2)) ∧ (decode cX7_perform 166 = .ok (.iaload, 1)) ∧ (decode cX7_perform 167 = .ok (.iload 9, 2)) ∧ (decode cX7_perform 169 = .ok (.iload 6, 2)) ∧ (decode cX7_perform 171 = .ok (.iconst 1, 1)) ∧ (decode cX7_perform 172 = .ok (.iadd, 1)) ∧ (decode cX7_perform 173 = .ok (.invokevirtual 40, 3)) ∧ (decode cX7_perform 176 = .ok (.istore 10, 2)) := by decide +kernel
theorem dX7_perform_164 : decode cX7_perform 164 = .ok (.iload 8, 2) := dX7_perform_164_g.1
theorem dX7_perform_166 : decode cX7_perform 166 = .ok (.iaload, 1) := dX7_perform_164_g.2.1
theorem dX7_perform_167 : decode cX7_perform 167 = .ok (.iload 9, 2) := dX7_perform_164_g.2.2.1
theorem dX7_perform_169 : decode cX7_perform 169 = .ok (.iload 6, 2) := dX7_perform_164_g.2.2.2.1
theorem dX7_perform_171 : decode cX7_perform 171 = .ok (.iconst 1, 1) := dX7_perform_164_g.2.2.2.2.1
theorem dX7_perform_172 : decode cX7_perform 172 = .ok (.iadd, 1) := dX7_perform_164_g.2.2.2.2.2.1
theorem dX7_perform_173 : decode cX7_perform 173 = .ok (.invokevirtual 40, 3) := dX7_perform_164_g.2.2.2.2.2.2.1
theorem dX7_perform_176 : decode cX7_perform 176 = .ok (.istore 10, 2) := dX7_perform_164_g.2.2.2.2.2.2.2
theorem dX7_perform_178_g : (decode cX7_perform 178 = .ok (.iload 10, 2)) ∧ (decode cX7_perform 180 = .ok (.ifCond .eq 6, 3)) ∧ (decode cX7_perform 183 = .ok (.iload 10, 2)) ∧ (decode cX7_perform 185 = .ok (.ireturn, 1)) ∧ (decode cX7_perform 186 = .ok (.iinc 7 1, 3)) ∧ (decode cX7_perform 189 = .ok (.goto (-163), 3)) ∧ (decode cX7_perform 192 = .ok (.iconst 0, 1)) ∧ (decode cX7_perform 193 = .ok (.ireturn, 1)) := by decide +kernel
theorem dX7_perform_178 : decode cX7_perform 178 = .ok (.iload 10, 2) := dX7_perform_178_g.1
theorem dX7_perform_180 : decode cX7_perform 180 = .ok (.ifCond .eq 6, 3) := dX7_perform_178_g.2.1
theorem dX7_perform_183 : decode cX7_perform 183 = .ok (.iload 10, 2) := dX7_perform_178_g.2.2.1
theorem dX7_perform_185 : decode cX7_perform 185 = .ok (.ireturn, 1) := dX7_perform_178_g.2.2.2.1
theorem dX7_perform_186 : decode cX7_perform 186 = .ok (.iinc 7 1, 3) := dX7_perform_178_g.2.2.2.2.1
theorem dX7_perform_189 : decode cX7_perform 189 = .ok (.goto (-163), 3) := dX7_perform_178_g.2.2.2.2.2.1
theorem dX7_perform_192 : decode cX7_perform 192 = .ok (.iconst 0, 1) := dX7_perform_178_g.2.2.2.2.2.2.1
theorem dX7_perform_193 : decode cX7_perform 193 = .ok (.ireturn, 1) := dX7_perform_178_g.2.2.2.2.2.2.2
theorem dX7_castRoles_0_g : (decode cX7_castRoles 0 = .ok (.iconst 0, 1)) ∧ (decode cX7_castRoles 1 = .ok (.istore 4, 2)) ∧ (decode cX7_castRoles 3 = .ok (.iload 4, 2)) ∧ (decode cX7_castRoles 5 = .ok (.iconst 5, 1)) ∧ (decode cX7_castRoles 6 = .ok (.if_icmp .ge 38, 3)) ∧ (decode cX7_castRoles 9 = .ok (.aload_n 0, 1)) ∧ (decode cX7_castRoles 10 = .ok (.getfield 11, 3)) ∧ (decode cX7_castRoles 13 = .ok (.iload_n 3, 1)) := by decide +kernel
theorem dX7_castRoles_0 : decode cX7_castRoles 0 = .ok (.iconst 0, 1) := dX7_castRoles_0_g.1
theorem dX7_castRoles_1 : decode cX7_castRoles 1 = .ok (.istore 4, 2) := dX7_castRoles_0_g.2.1
theorem dX7_castRoles_3 : decode cX7_castRoles 3 = .ok (.iload 4, 2) := dX7_castRoles_0_g.2.2.1
theorem dX7_castRoles_5 : decode cX7_castRoles 5 = .ok (.iconst 5, 1) := dX7_castRoles_0_g.2.2.2.1
theorem dX7_castRoles_6 : decode cX7_castRoles 6 = .ok (.if_icmp .ge 38, 3) := dX7_castRoles_0_g.2.2.2.2.1
theorem dX7_castRoles_9 : decode cX7_castRoles 9 = .ok (.aload_n 0, 1) := dX7_castRoles_0_g.2.2.2.2.2.1
theorem dX7_castRoles_10 : decode cX7_castRoles 10 = .ok (.getfield 11, 3) := dX7_castRoles_0_g.2.2.2.2.2.2.1
theorem dX7_castRoles_13 : decode cX7_castRoles 13 = .ok (.iload_n 3, 1) := dX7_castRoles_0_g.2.2.2.2.2.2.2
theorem dX7_castRoles_14_g : (decode cX7_castRoles 14 = .ok (.iconst 1, 1)) ∧ (decode cX7_castRoles 15 = .ok (.iadd, 1)) ∧ (decode cX7_castRoles 16 = .ok (.aaload, 1)) ∧ (decode cX7_castRoles 17 = .ok (.iload 4, 2)) ∧ (decode cX7_castRoles 19 = .ok (.aload_n 0, 1)) ∧ (decode cX7_castRoles 20 = .ok (.getfield 11, 3)) ∧ (decode cX7_castRoles 23 = .ok (.iload_n 3, 1)) ∧ (decode cX7_castRoles 24 = .ok (.aaload, 1)) := by decide +kernel
theorem dX7_castRoles_14 : decode cX7_castRoles 14 = .ok (.iconst 1, 1) := dX7_castRoles_14_g.1
theorem dX7_castRoles_15 : decode cX7_castRoles 15 = .ok (.iadd, 1) := dX7_castRoles_14_g.2.1
theorem dX7_castRoles_16 : decode cX7_castRoles 16 = .ok (.aaload, 1) := dX7_castRoles_14_g.2.2.1
theorem dX7_castRoles_17 : decode cX7_castRoles 17 = .ok (.iload 4, 2) := dX7_castRoles_14_g.2.2.2.1
theorem dX7_castRoles_19 : decode cX7_castRoles 19 = .ok (.aload_n 0, 1) := dX7_castRoles_14_g.2.2.2.2.1
theorem dX7_castRoles_20 : decode cX7_castRoles 20 = .ok (.getfield 11, 3) := dX7_castRoles_14_g.2.2.2.2.2.1
theorem dX7_castRoles_23 : decode cX7_castRoles 23 = .ok (.iload_n 3, 1) := dX7_castRoles_14_g.2.2.2.2.2.2.1
theorem dX7_castRoles_24 : decode cX7_castRoles 24 = .ok (.aaload, 1) := dX7_castRoles_14_g.2.2.2.2.2.2.2
theorem dX7_castRoles_25_g : (decode cX7_castRoles 25 = .ok (.aload_n 1, 1)) ∧ (decode cX7_castRoles 26 = .ok (.getfield 64, 3)) ∧ (decode cX7_castRoles 29 = .ok (.iload_n 2, 1)) ∧ (decode cX7_castRoles 30 = .ok (.iconst 5, 1)) ∧ (decode cX7_castRoles 31 = .ok (.imul, 1)) ∧ (decode cX7_castRoles 32 = .ok (.iload 4, 2)) ∧ (decode cX7_castRoles 34 = .ok (.iadd, 1)) ∧ (decode cX7_castRoles 35 = .ok (.iaload, 1)) := by decide +kernel
theorem dX7_castRoles_25 : decode cX7_castRoles 25 = .ok (.aload_n 1, 1) := dX7_castRoles_25_g.1
theorem dX7_castRoles_26 : decode cX7_castRoles 26 = .ok (.getfield 64, 3) := dX7_castRoles_25_g.2.1
theorem dX7_castRoles_29 : decode cX7_castRoles 29 = .ok (.iload_n 2, 1) := dX7_castRoles_25_g.2.2.1
theorem dX7_castRoles_30 : decode cX7_castRoles 30 = .ok (.iconst 5, 1) := dX7_castRoles_25_g.2.2.2.1
theorem dX7_castRoles_31 : decode cX7_castRoles 31 = .ok (.imul, 1) := dX7_castRoles_25_g.2.2.2.2.1
theorem dX7_castRoles_32 : decode cX7_castRoles 32 = .ok (.iload 4, 2) := dX7_castRoles_25_g.2.2.2.2.2.1
theorem dX7_castRoles_34 : decode cX7_castRoles 34 = .ok (.iadd, 1) := dX7_castRoles_25_g.2.2.2.2.2.2.1
theorem dX7_castRoles_35 : decode cX7_castRoles 35 = .ok (.iaload, 1) := dX7_castRoles_25_g.2.2.2.2.2.2.2
theorem dX7_castRoles_36_g : (decode cX7_castRoles 36 = .ok (.iaload, 1)) ∧ (decode cX7_castRoles 37 = .ok (.iastore, 1)) ∧ (decode cX7_castRoles 38 = .ok (.iinc 4 1, 3)) ∧ (decode cX7_castRoles 41 = .ok (.goto (-38), 3)) ∧ (decode cX7_castRoles 44 = .ok (.return_, 1)) := by decide +kernel
theorem dX7_castRoles_36 : decode cX7_castRoles 36 = .ok (.iaload, 1) := dX7_castRoles_36_g.1
theorem dX7_castRoles_37 : decode cX7_castRoles 37 = .ok (.iastore, 1) := dX7_castRoles_36_g.2.1
theorem dX7_castRoles_38 : decode cX7_castRoles 38 = .ok (.iinc 4 1, 3) := dX7_castRoles_36_g.2.2.1
theorem dX7_castRoles_41 : decode cX7_castRoles 41 = .ok (.goto (-38), 3) := dX7_castRoles_36_g.2.2.2.1
theorem dX7_castRoles_44 : decode cX7_castRoles 44 = .ok (.return_, 1) := dX7_castRoles_36_g.2.2.2.2
theorem dX7_shift_0_g : (decode cX7_shift 0 = .ok (.aload_n 0, 1)) ∧ (decode cX7_shift 1 = .ok (.dup, 1)) ∧ (decode cX7_shift 2 = .ok (.getfield 20, 3)) ∧ (decode cX7_shift 5 = .ok (.iconst 1, 1)) ∧ (decode cX7_shift 6 = .ok (.iadd, 1)) ∧ (decode cX7_shift 7 = .ok (.putfield 20, 3)) ∧ (decode cX7_shift 10 = .ok (.aload_n 0, 1)) ∧ (decode cX7_shift 11 = .ok (.getfield 20, 3)) := by decide +kernel
theorem dX7_shift_0 : decode cX7_shift 0 = .ok (.aload_n 0, 1) := dX7_shift_0_g.1
theorem dX7_shift_1 : decode cX7_shift 1 = .ok (.dup, 1) := dX7_shift_0_g.2.1
theorem dX7_shift_2 : decode cX7_shift 2 = .ok (.getfield 20, 3) := dX7_shift_0_g.2.2.1
theorem dX7_shift_5 : decode cX7_shift 5 = .ok (.iconst 1, 1) := dX7_shift_0_g.2.2.2.1
theorem dX7_shift_6 : decode cX7_shift 6 = .ok (.iadd, 1) := dX7_shift_0_g.2.2.2.2.1
theorem dX7_shift_7 : decode cX7_shift 7 = .ok (.putfield 20, 3) := dX7_shift_0_g.2.2.2.2.2.1
theorem dX7_shift_10 : decode cX7_shift 10 = .ok (.aload_n 0, 1) := dX7_shift_0_g.2.2.2.2.2.2.1
theorem dX7_shift_11 : decode cX7_shift 11 = .ok (.getfield 20, 3) := dX7_shift_0_g.2.2.2.2.2.2.2
theorem dX7_shift_14_g : (decode cX7_shift 14 = .ok (.sipush 5000, 3)) ∧ (decode cX7_shift 17 = .ok (.if_icmp .le 6, 3)) ∧ (decode cX7_shift 20 = .ok (.bipush (-4), 2)) ∧ (decode cX7_shift 22 = .ok (.ireturn, 1)) ∧ (decode cX7_shift 23 = .ok (.iload 4, 2)) ∧ (decode cX7_shift 25 = .ok (.iconst (-1), 1)) ∧ (decode cX7_shift 26 = .ok (.if_icmp .eq 9, 3)) ∧ (decode cX7_shift 29 = .ok (.iload 5, 2)) := by decide +kernel
theorem dX7_shift_14 : decode cX7_shift 14 = .ok (.sipush 5000, 3) := dX7_shift_14_g.1
theorem dX7_shift_17 : decode cX7_shift 17 = .ok (.if_icmp .le 6, 3) := dX7_shift_14_g.2.1
theorem dX7_shift_20 : decode cX7_shift 20 = .ok (.bipush (-4), 2) := dX7_shift_14_g.2.2.1
theorem dX7_shift_22 : decode cX7_shift 22 = .ok (.ireturn, 1) := dX7_shift_14_g.2.2.2.1
theorem dX7_shift_23 : decode cX7_shift 23 = .ok (.iload 4, 2) := dX7_shift_14_g.2.2.2.2.1
theorem dX7_shift_25 : decode cX7_shift 25 = .ok (.iconst (-1), 1) := dX7_shift_14_g.2.2.2.2.2.1
theorem dX7_shift_26 : decode cX7_shift 26 = .ok (.if_icmp .eq 9, 3) := dX7_shift_14_g.2.2.2.2.2.2.1
theorem dX7_shift_29 : decode cX7_shift 29 = .ok (.iload 5, 2) := dX7_shift_14_g.2.2.2.2.2.2.2
theorem dX7_shift_31_g : (decode cX7_shift 31 = .ok (.iconst (-1), 1)) ∧ (decode cX7_shift 32 = .ok (.if_icmp .ne 6, 3)) ∧ (decode cX7_shift 35 = .ok (.bipush (-2), 2)) ∧ (decode cX7_shift 37 = .ok (.ireturn, 1)) ∧ (decode cX7_shift 38 = .ok (.aload_n 2, 1)) ∧ (decode cX7_shift 39 = .ok (.aload_n 1, 1)) ∧ (decode cX7_shift 40 = .ok (.aload_n 0, 1)) ∧ (decode cX7_shift 41 = .ok (.getfield 26, 3)) := by decide +kernel
theorem dX7_shift_31 : decode cX7_shift 31 = .ok (.iconst (-1), 1) := dX7_shift_31_g.1
theorem dX7_shift_32 : decode cX7_shift 32 = .ok (.if_icmp .ne 6, 3) := dX7_shift_31_g.2.1
theorem dX7_shift_35 : decode cX7_shift 35 = .ok (.bipush (-2), 2) := dX7_shift_31_g.2.2.1
theorem dX7_shift_37 : decode cX7_shift 37 = .ok (.ireturn, 1) := dX7_shift_31_g.2.2.2.1
theorem dX7_shift_38 : decode cX7_shift 38 = .ok (.aload_n 2, 1) := dX7_shift_31_g.2.2.2.2.1
theorem dX7_shift_39 : decode cX7_shift 39 = .ok (.aload_n 1, 1) := dX7_shift_31_g.2.2.2.2.2.1
theorem dX7_shift_40 : decode cX7_shift 40 = .ok (.aload_n 0, 1) := dX7_shift_31_g.2.2.2.2.2.2.1
theorem dX7_shift_41 : decode cX7_shift 41 = .ok (.getfield 26, 3) := dX7_shift_31_g.2.2.2.2.2.2.2
theorem dX7_shift_44_g : (decode cX7_shift 44 = .ok (.invokevirtual 44, 3)) ∧ (decode cX7_shift 47 = .ok (.aload_n 2, 1)) ∧ (decode cX7_shift 48 = .ok (.getfield 75, 3)) ∧ (decode cX7_shift 51 = .ok (.iload 4, 2)) ∧ (decode cX7_shift 53 = .ok (.iaload, 1)) ∧ (decode cX7_shift 54 = .ok (.iload_n 3, 1)) ∧ (decode cX7_shift 55 = .ok (.if_icmp .ne 25, 3)) ∧ (decode cX7_shift 58 = .ok (.aload_n 2, 1)) := by decide +kernel
theorem dX7_shift_44 : decode cX7_shift 44 = .ok (.invokevirtual 44, 3) := dX7_shift_44_g.1
theorem dX7_shift_47 : decode cX7_shift 47 = .ok (.aload_n 2, 1) := dX7_shift_44_g.2.1
theorem dX7_shift_48 : decode cX7_shift 48 = .ok (.getfield 75, 3) := dX7_shift_44_g.2.2.1
theorem dX7_shift_51 : decode cX7_shift 51 = .ok (.iload 4, 2) := dX7_shift_44_g.2.2.2.1
theorem dX7_shift_53 : decode cX7_shift 53 = .ok (.iaload, 1) := dX7_shift_44_g.2.2.2.2.1
theorem dX7_shift_54 : decode cX7_shift 54 = .ok (.iload_n 3, 1) := dX7_shift_44_g.2.2.2.2.2.1
theorem dX7_shift_55 : decode cX7_shift 55 = .ok (.if_icmp .ne 25, 3) := dX7_shift_44_g.2.2.2.2.2.2.1
theorem dX7_shift_58 : decode cX7_shift 58 = .ok (.aload_n 2, 1) := dX7_shift_44_g.2.2.2.2.2.2.2
theorem dX7_shift_59_g : (decode cX7_shift 59 = .ok (.iload 4, 2)) ∧ (decode cX7_shift 61 = .ok (.invokevirtual 78, 3)) ∧ (decode cX7_shift 64 = .ok (.iconst 1, 1)) ∧ (decode cX7_shift 65 = .ok (.if_icmp .ne 15, 3)) ∧ (decode cX7_shift 68 = .ok (.aload_n 2, 1)) ∧ (decode cX7_shift 69 = .ok (.aload_n 1, 1)) ∧ (decode cX7_shift 70 = .ok (.iload 4, 2)) ∧ (decode cX7_shift 72 = .ok (.iload 5, 2)) := by decide +kernel
theorem dX7_shift_59 : decode cX7_shift 59 = .ok (.iload 4, 2) := dX7_shift_59_g.1
theorem dX7_shift_61 : decode cX7_shift 61 = .ok (.invokevirtual 78, 3) := dX7_shift_59_g.2.1
theorem dX7_shift_64 : decode cX7_shift 64 = .ok (.iconst 1, 1) := dX7_shift_59_g.2.2.1
theorem dX7_shift_65 : decode cX7_shift 65 = .ok (.if_icmp .ne 15, 3) := dX7_shift_59_g.2.2.2.1
theorem dX7_shift_68 : decode cX7_shift 68 = .ok (.aload_n 2, 1) := dX7_shift_59_g.2.2.2.2.1
theorem dX7_shift_69 : decode cX7_shift 69 = .ok (.aload_n 1, 1) := dX7_shift_59_g.2.2.2.2.2.1
theorem dX7_shift_70 : decode cX7_shift 70 = .ok (.iload 4, 2) := dX7_shift_59_g.2.2.2.2.2.2.1
theorem dX7_shift_72 : decode cX7_shift 72 = .ok (.iload 5, 2) := dX7_shift_59_g.2.2.2.2.2.2.2
theorem dX7_shift_74_g : (decode cX7_shift 74 = .ok (.invokevirtual 82, 3)) ∧ (decode cX7_shift 77 = .ok (.ifCond .eq 6, 3)) ∧ (decode cX7_shift 80 = .ok (.bipush (-2), 2)) ∧ (decode cX7_shift 82 = .ok (.ireturn, 1)) ∧ (decode cX7_shift 83 = .ok (.aload_n 0, 1)) ∧ (decode cX7_shift 84 = .ok (.aload_n 2, 1)) ∧ (decode cX7_shift 85 = .ok (.iload 4, 2)) ∧ (decode cX7_shift 87 = .ok (.iload 5, 2)) := by decide +kernel
theorem dX7_shift_74 : decode cX7_shift 74 = .ok (.invokevirtual 82, 3) := dX7_shift_74_g.1
theorem dX7_shift_77 : decode cX7_shift 77 = .ok (.ifCond .eq 6, 3) := dX7_shift_74_g.2.1
theorem dX7_shift_80 : decode cX7_shift 80 = .ok (.bipush (-2), 2) := dX7_shift_74_g.2.2.1
theorem dX7_shift_82 : decode cX7_shift 82 = .ok (.ireturn, 1) := dX7_shift_74_g.2.2.2.1
theorem dX7_shift_83 : decode cX7_shift 83 = .ok (.aload_n 0, 1) := dX7_shift_74_g.2.2.2.2.1
theorem dX7_shift_84 : decode cX7_shift 84 = .ok (.aload_n 2, 1) := dX7_shift_74_g.2.2.2.2.2.1
theorem dX7_shift_85 : decode cX7_shift 85 = .ok (.iload 4, 2) := dX7_shift_74_g.2.2.2.2.2.2.1
theorem dX7_shift_87 : decode cX7_shift 87 = .ok (.iload 5, 2) := dX7_shift_74_g.2.2.2.2.2.2.2
theorem dX7_shift_89_g : (decode cX7_shift 89 = .ok (.invokevirtual 86, 3)) ∧ (decode cX7_shift 92 = .ok (.putfield 26, 3)) ∧ (decode cX7_shift 95 = .ok (.aload_n 0, 1)) ∧ (decode cX7_shift 96 = .ok (.dup, 1)) ∧ (decode cX7_shift 97 = .ok (.getfield 23, 3)) ∧ (decode cX7_shift 100 = .ok (.iconst 1, 1)) ∧ (decode cX7_shift 101 = .ok (.iadd, 1)) ∧ (decode cX7_shift 102 = .ok (.putfield 23, 3)) := by decide +kernel
theorem dX7_shift_89 : decode cX7_shift 89 = .ok (.invokevirtual 86, 3) := dX7_shift_89_g.1
theorem dX7_shift_92 : decode cX7_shift 92 = .ok (.putfield 26, 3) := dX7_shift_89_g.2.1
theorem dX7_shift_95 : decode cX7_shift 95 = .ok (.aload_n 0, 1) := dX7_shift_89_g.2.2.1
theorem dX7_shift_96 : decode cX7_shift 96 = .ok (.dup, 1) := dX7_shift_89_g.2.2.2.1
theorem dX7_shift_97 : decode cX7_shift 97 = .ok (.getfield 23, 3) := dX7_shift_89_g.2.2.2.2.1
theorem dX7_shift_100 : decode cX7_shift 100 = .ok (.iconst 1, 1) := dX7_shift_89_g.2.2.2.2.2.1
theorem dX7_shift_101 : decode cX7_shift 101 = .ok (.iadd, 1) := dX7_shift_89_g.2.2.2.2.2.2.1
theorem dX7_shift_102 : decode cX7_shift 102 = .ok (.putfield 23, 3) := dX7_shift_89_g.2.2.2.2.2.2.2
theorem dX7_shift_105_g : (decode cX7_shift 105 = .ok (.iconst 0, 1)) ∧ (decode cX7_shift 106 = .ok (.ireturn, 1)) := by decide +kernel
theorem dX7_shift_105 : decode cX7_shift 105 = .ok (.iconst 0, 1) := dX7_shift_105_g.1
theorem dX7_shift_106 : decode cX7_shift 106 = .ok (.ireturn, 1) := dX7_shift_105_g.2
theorem dX8_init_0_g : (decode cX8_init 0 = .ok (.aload_n 0, 1)) ∧ (decode cX8_init 1 = .ok (.invokespecial 1, 3)) ∧ (decode cX8_init 4 = .ok (.aload_n 0, 1)) ∧ (decode cX8_init 5 = .ok (.new 7, 3)) ∧ (decode cX8_init 8 = .ok (.dup, 1)) ∧ (decode cX8_init 9 = .ok (.invokespecial 9, 3)) ∧ (decode cX8_init 12 = .ok (.putfield 10, 3)) ∧ (decode cX8_init 15 = .ok (.aload_n 0, 1)) := by decide +kernel
theorem dX8_init_0 : decode cX8_init 0 = .ok (.aload_n 0, 1) := dX8_init_0_g.1
theorem dX8_init_1 : decode cX8_init 1 = .ok (.invokespecial 1, 3) := dX8_init_0_g.2.1
theorem dX8_init_4 : decode cX8_init 4 = .ok (.aload_n 0, 1) := dX8_init_0_g.2.2.1
theorem dX8_init_5 : decode cX8_init 5 = .ok (.new 7, 3) := dX8_init_0_g.2.2.2.1
theorem dX8_init_8 : decode cX8_init 8 = .ok (.dup, 1) := dX8_init_0_g.2.2.2.2.1
theorem dX8_init_9 : decode cX8_init 9 = .ok (.invokespecial 9, 3) := dX8_init_0_g.2.2.2.2.2.1
theorem dX8_init_12 : decode cX8_init 12 = .ok (.putfield 10, 3) := dX8_init_0_g.2.2.2.2.2.2.1
theorem dX8_init_15 : decode cX8_init 15 = .ok (.aload_n 0, 1) := dX8_init_0_g.2.2.2.2.2.2.2
theorem dX8_init_16_g : (decode cX8_init 16 = .ok (.new 16, 3)) ∧ (decode cX8_init 19 = .ok (.dup, 1)) ∧ (decode cX8_init 20 = .ok (.invokespecial 18, 3)) ∧ (decode cX8_init 23 = .ok (.putfield 19, 3)) ∧ (decode cX8_init 26 = .ok (.aload_n 0, 1)) ∧ (decode cX8_init 27 = .ok (.new 23, 3)) ∧ (decode cX8_init 30 = .ok (.dup, 1)) ∧ (decode cX8_init 31 = .ok (.invokespecial 25, 3)) := by decide +kernel
theorem dX8_init_16 : decode cX8_init 16 = .ok (.new 16, 3) := dX8_init_16_g.1
theorem dX8_init_19 : decode cX8_init 19 = .ok (.dup, 1) := dX8_init_16_g.2.1
theorem dX8_init_20 : decode cX8_init 20 = .ok (.invokespecial 18, 3) := dX8_init_16_g.2.2.1
theorem dX8_init_23 : decode cX8_init 23 = .ok (.putfield 19, 3) := dX8_init_16_g.2.2.2.1
theorem dX8_init_26 : decode cX8_init 26 = .ok (.aload_n 0, 1) := dX8_init_16_g.2.2.2.2.1
theorem dX8_init_27 : decode cX8_init 27 = .ok (.new 23, 3) := dX8_init_16_g.2.2.2.2.2.1
theorem dX8_init_30 : decode cX8_init 30 = .ok (.dup, 1) := dX8_init_16_g.2.2.2.2.2.2.1
theorem dX8_init_31 : decode cX8_init 31 = .ok (.invokespecial 25, 3) := dX8_init_16_g.2.2.2.2.2.2.2
theorem dX8_init_34_g : (decode cX8_init 34 = .ok (.putfield 26, 3)) ∧ (decode cX8_init 37 = .ok (.aload_n 0, 1)) ∧ (decode cX8_init 38 = .ok (.new 30, 3)) ∧ (decode cX8_init 41 = .ok (.dup, 1)) ∧ (decode cX8_init 42 = .ok (.invokespecial 32, 3)) ∧ (decode cX8_init 45 = .ok (.putfield 33, 3)) ∧ (decode cX8_init 48 = .ok (.aload_n 0, 1)) ∧ (decode cX8_init 49 = .ok (.new 37, 3)) := by decide +kernel
theorem dX8_init_34 : decode cX8_init 34 = .ok (.putfield 26, 3) := dX8_init_34_g.1
theorem dX8_init_37 : decode cX8_init 37 = .ok (.aload_n 0, 1) := dX8_init_34_g.2.1
theorem dX8_init_38 : decode cX8_init 38 = .ok (.new 30, 3) := dX8_init_34_g.2.2.1
theorem dX8_init_41 : decode cX8_init 41 = .ok (.dup, 1) := dX8_init_34_g.2.2.2.1
theorem dX8_init_42 : decode cX8_init 42 = .ok (.invokespecial 32, 3) := dX8_init_34_g.2.2.2.2.1
theorem dX8_init_45 : decode cX8_init 45 = .ok (.putfield 33, 3) := dX8_init_34_g.2.2.2.2.2.1
theorem dX8_init_48 : decode cX8_init 48 = .ok (.aload_n 0, 1) := dX8_init_34_g.2.2.2.2.2.2.1
theorem dX8_init_49 : decode cX8_init 49 = .ok (.new 37, 3) := dX8_init_34_g.2.2.2.2.2.2.2
theorem dX8_init_52_g : (decode cX8_init 52 = .ok (.dup, 1)) ∧ (decode cX8_init 53 = .ok (.invokespecial 39, 3)) ∧ (decode cX8_init 56 = .ok (.putfield 40, 3)) ∧ (decode cX8_init 59 = .ok (.aload_n 0, 1)) ∧ (decode cX8_init 60 = .ok (.new 44, 3)) ∧ (decode cX8_init 63 = .ok (.dup, 1)) ∧ (decode cX8_init 64 = .ok (.invokespecial 46, 3)) ∧ (decode cX8_init 67 = .ok (.putfield 47, 3)) := by decide +kernel
theorem dX8_init_52 : decode cX8_init 52 = .ok (.dup, 1) := dX8_init_52_g.1
theorem dX8_init_53 : decode cX8_init 53 = .ok (.invokespecial 39, 3) := dX8_init_52_g.2.1
theorem dX8_init_56 : decode cX8_init 56 = .ok (.putfield 40, 3) := dX8_init_52_g.2.2.1
theorem dX8_init_59 : decode cX8_init 59 = .ok (.aload_n 0, 1) := dX8_init_52_g.2.2.2.1
theorem dX8_init_60 : decode cX8_init 60 = .ok (.new 44, 3) := dX8_init_52_g.2.2.2.2.1
theorem dX8_init_63 : decode cX8_init 63 = .ok (.dup, 1) := dX8_init_52_g.2.2.2.2.2.1
theorem dX8_init_64 : decode cX8_init 64 = .ok (.invokespecial 46, 3) := dX8_init_52_g.2.2.2.2.2.2.1
theorem dX8_init_67 : decode cX8_init 67 = .ok (.putfield 47, 3) := dX8_init_52_g.2.2.2.2.2.2.2
theorem dX8_init_70_g : (decode cX8_init 70 = .ok (.aload_n 0, 1)) ∧ (decode cX8_init 71 = .ok (.new 51, 3)) ∧ (decode cX8_init 74 = .ok (.dup, 1)) ∧ (decode cX8_init 75 = .ok (.invokespecial 53, 3)) ∧ (decode cX8_init 78 = .ok (.putfield 54, 3)) ∧ (decode cX8_init 81 = .ok (.aload_n 0, 1)) ∧ (decode cX8_init 82 = .ok (.new 58, 3)) ∧ (decode cX8_init 85 = .ok (.dup, 1)) := by decide +kernel
theorem dX8_init_70 : decode cX8_init 70 = .ok (.aload_n 0, 1) := dX8_init_70_g.1
theorem dX8_init_71 : decode cX8_init 71 = .ok (.new 51, 3) := dX8_init_70_g.2.1
theorem dX8_init_74 : decode cX8_init 74 = .ok (.dup, 1) := dX8_init_70_g.2.2.1
theorem dX8_init_75 : decode cX8_init 75 = .ok (.invokespecial 53, 3) := dX8_init_70_g.2.2.2.1
theorem dX8_init_78 : decode cX8_init 78 = .ok (.putfield 54, 3) := dX8_init_70_g.2.2.2.2.1
theorem dX8_init_81 : decode cX8_init 81 = .ok (.aload_n 0, 1) := dX8_init_70_g.2.2.2.2.2.1
theorem dX8_init_82 : decode cX8_init 82 = .ok (.new 58, 3) := dX8_init_70_g.2.2.2.2.2.2.1
theorem dX8_init_85 : decode cX8_init 85 = .ok (.dup, 1) := dX8_init_70_g.2.2.2.2.2.2.2
theorem dX8_init_86_g : (decode cX8_init 86 = .ok (.invokespecial 60, 3)) ∧ (decode cX8_init 89 = .ok (.putfield 61, 3)) ∧ (decode cX8_init 92 = .ok (.return_, 1)) := by decide +kernel
theorem dX8_init_86 : decode cX8_init 86 = .ok (.invokespecial 60, 3) := dX8_init_86_g.1
theorem dX8_init_89 : decode cX8_init 89 = .ok (.putfield 61, 3) := dX8_init_86_g.2.1
theorem dX8_init_92 : decode cX8_init 92 = .ok (.return_, 1) := dX8_init_86_g.2.2
theorem dX8_yard_0_g : (decode cX8_yard 0 = .ok (.iload_n 1, 1)) ∧ (decode cX8_yard 1 = .ok (.iconst 2, 1)) ∧ (decode cX8_yard 2 = .ok (.if_icmp .lt 19, 3)) ∧ (decode cX8_yard 5 = .ok (.iload_n 1, 1)) ∧ (decode cX8_yard 6 = .ok (.iconst 5, 1)) ∧ (decode cX8_yard 7 = .ok (.if_icmp .gt 14, 3)) ∧ (decode cX8_yard 10 = .ok (.iload_n 2, 1)) ∧ (decode cX8_yard 11 = .ok (.iconst 1, 1)) := by decide +kernel
theorem dX8_yard_0 : decode cX8_yard 0 = .ok (.iload_n 1, 1) := dX8_yard_0_g.1
theorem dX8_yard_1 : decode cX8_yard 1 = .ok (.iconst 2, 1) := dX8_yard_0_g.2.1
theorem dX8_yard_2 : decode cX8_yard 2 = .ok (.if_icmp .lt 19, 3) := dX8_yard_0_g.2.2.1
theorem dX8_yard_5 : decode cX8_yard 5 = .ok (.iload_n 1, 1) := dX8_yard_0_g.2.2.2.1
theorem dX8_yard_6 : decode cX8_yard 6 = .ok (.iconst 5, 1) := dX8_yard_0_g.2.2.2.2.1
theorem dX8_yard_7 : decode cX8_yard 7 = .ok (.if_icmp .gt 14, 3) := dX8_yard_0_g.2.2.2.2.2.1
theorem dX8_yard_10 : decode cX8_yard 10 = .ok (.iload_n 2, 1) := dX8_yard_0_g.2.2.2.2.2.2.1
theorem dX8_yard_11 : decode cX8_yard 11 = .ok (.iconst 1, 1) := dX8_yard_0_g.2.2.2.2.2.2.2
theorem dX8_yard_12_g : (decode cX8_yard 12 = .ok (.if_icmp .lt 9, 3)) ∧ (decode cX8_yard 15 = .ok (.iload_n 2, 1)) ∧ (decode cX8_yard 16 = .ok (.bipush 7, 2)) ∧ (decode cX8_yard 18 = .ok (.if_icmp .le 9, 3)) ∧ (decode cX8_yard 21 = .ok (.aload_n 0, 1)) ∧ (decode cX8_yard 22 = .ok (.iconst 1, 1)) ∧ (decode cX8_yard 23 = .ok (.invokevirtual 65, 3)) ∧ (decode cX8_yard 26 = .ok (.ireturn, 1)) := by decide +kernel
theorem dX8_yard_12 : decode cX8_yard 12 = .ok (.if_icmp .lt 9, 3) := dX8_yard_12_g.1
theorem dX8_yard_15 : decode cX8_yard 15 = .ok (.iload_n 2, 1) := dX8_yard_12_g.2.1
theorem dX8_yard_16 : decode cX8_yard 16 = .ok (.bipush 7, 2) := dX8_yard_12_g.2.2.1
theorem dX8_yard_18 : decode cX8_yard 18 = .ok (.if_icmp .le 9, 3) := dX8_yard_12_g.2.2.2.1
theorem dX8_yard_21 : decode cX8_yard 21 = .ok (.aload_n 0, 1) := dX8_yard_12_g.2.2.2.2.1
theorem dX8_yard_22 : decode cX8_yard 22 = .ok (.iconst 1, 1) := dX8_yard_12_g.2.2.2.2.2.1
theorem dX8_yard_23 : decode cX8_yard 23 = .ok (.invokevirtual 65, 3) := dX8_yard_12_g.2.2.2.2.2.2.1
theorem dX8_yard_26 : decode cX8_yard 26 = .ok (.ireturn, 1) := dX8_yard_12_g.2.2.2.2.2.2.2
theorem dX8_yard_27_g : (decode cX8_yard 27 = .ok (.aload_n 0, 1)) ∧ (decode cX8_yard 28 = .ok (.getfield 10, 3)) ∧ (decode cX8_yard 31 = .ok (.iload_n 1, 1)) ∧ (decode cX8_yard 32 = .ok (.iload_n 2, 1)) ∧ (decode cX8_yard 33 = .ok (.invokevirtual 69, 3)) ∧ (decode cX8_yard 36 = .ok (.aload_n 0, 1)) ∧ (decode cX8_yard 37 = .ok (.iconst 0, 1)) ∧ (decode cX8_yard 38 = .ok (.putfield 73, 3)) := by decide +kernel
theorem dX8_yard_27 : decode cX8_yard 27 = .ok (.aload_n 0, 1) := dX8_yard_27_g.1
theorem dX8_yard_28 : decode cX8_yard 28 = .ok (.getfield 10, 3) := dX8_yard_27_g.2.1
theorem dX8_yard_31 : decode cX8_yard 31 = .ok (.iload_n 1, 1) := dX8_yard_27_g.2.2.1
theorem dX8_yard_32 : decode cX8_yard 32 = .ok (.iload_n 2, 1) := dX8_yard_27_g.2.2.2.1
theorem dX8_yard_33 : decode cX8_yard 33 = .ok (.invokevirtual 69, 3) := dX8_yard_27_g.2.2.2.2.1
theorem dX8_yard_36 : decode cX8_yard 36 = .ok (.aload_n 0, 1) := dX8_yard_27_g.2.2.2.2.2.1
theorem dX8_yard_37 : decode cX8_yard 37 = .ok (.iconst 0, 1) := dX8_yard_27_g.2.2.2.2.2.2.1
theorem dX8_yard_38 : decode cX8_yard 38 = .ok (.putfield 73, 3) := dX8_yard_27_g.2.2.2.2.2.2.2
theorem dX8_yard_41_g : (decode cX8_yard 41 = .ok (.aload_n 0, 1)) ∧ (decode cX8_yard 42 = .ok (.iconst 0, 1)) ∧ (decode cX8_yard 43 = .ok (.putfield 77, 3)) ∧ (decode cX8_yard 46 = .ok (.aload_n 0, 1)) ∧ (decode cX8_yard 47 = .ok (.invokevirtual 80, 3)) ∧ (decode cX8_yard 50 = .ok (.aload_n 0, 1)) ∧ (decode cX8_yard 51 = .ok (.invokevirtual 83, 3)) ∧ (decode cX8_yard 54 = .ok (.ireturn, 1)) := by decide +kernel
theorem dX8_yard_41 : decode cX8_yard 41 = .ok (.aload_n 0, 1) := dX8_yard_41_g.1
theorem dX8_yard_42 : decode cX8_yard 42 = .ok (.iconst 0, 1) := dX8_yard_41_g.2.1
theorem dX8_yard_43 : decode cX8_yard 43 = .ok (.putfield 77, 3) := dX8_yard_41_g.2.2.1
theorem dX8_yard_46 : decode cX8_yard 46 = .ok (.aload_n 0, 1) := dX8_yard_41_g.2.2.2.1
theorem dX8_yard_47 : decode cX8_yard 47 = .ok (.invokevirtual 80, 3) := dX8_yard_41_g.2.2.2.2.1
theorem dX8_yard_50 : decode cX8_yard 50 = .ok (.aload_n 0, 1) := dX8_yard_41_g.2.2.2.2.2.1
theorem dX8_yard_51 : decode cX8_yard 51 = .ok (.invokevirtual 83, 3) := dX8_yard_41_g.2.2.2.2.2.2.1
theorem dX8_yard_54 : decode cX8_yard 54 = .ok (.ireturn, 1) := dX8_yard_41_g.2.2.2.2.2.2.2
theorem dX8_kind_0_g : (decode cX8_kind 0 = .ok (.aload_n 0, 1)) ∧ (decode cX8_kind 1 = .ok (.getfield 10, 3)) ∧ (decode cX8_kind 4 = .ok (.iload_n 1, 1)) ∧ (decode cX8_kind 5 = .ok (.invokevirtual 87, 3)) ∧ (decode cX8_kind 8 = .ok (.ifCond .eq 12, 3)) ∧ (decode cX8_kind 11 = .ok (.iload_n 2, 1)) ∧ (decode cX8_kind 12 = .ok (.ifCond .lt 8, 3)) ∧ (decode cX8_kind 15 = .ok (.iload_n 2, 1)) := by decide +kernel
theorem dX8_kind_0 : decode cX8_kind 0 = .ok (.aload_n 0, 1) := dX8_kind_0_g.1
theorem dX8_kind_1 : decode cX8_kind 1 = .ok (.getfield 10, 3) := dX8_kind_0_g.2.1
theorem dX8_kind_4 : decode cX8_kind 4 = .ok (.iload_n 1, 1) := dX8_kind_0_g.2.2.1
theorem dX8_kind_5 : decode cX8_kind 5 = .ok (.invokevirtual 87, 3) := dX8_kind_0_g.2.2.2.1
theorem dX8_kind_8 : decode cX8_kind 8 = .ok (.ifCond .eq 12, 3) := dX8_kind_0_g.2.2.2.2.1
theorem dX8_kind_11 : decode cX8_kind 11 = .ok (.iload_n 2, 1) := dX8_kind_0_g.2.2.2.2.2.1
theorem dX8_kind_12 : decode cX8_kind 12 = .ok (.ifCond .lt 8, 3) := dX8_kind_0_g.2.2.2.2.2.2.1
theorem dX8_kind_15 : decode cX8_kind 15 = .ok (.iload_n 2, 1) := dX8_kind_0_g.2.2.2.2.2.2.2
theorem dX8_kind_16_g : (decode cX8_kind 16 = .ok (.iconst 3, 1)) ∧ (decode cX8_kind 17 = .ok (.if_icmp .le 9, 3)) ∧ (decode cX8_kind 20 = .ok (.aload_n 0, 1)) ∧ (decode cX8_kind 21 = .ok (.iconst 1, 1)) ∧ (decode cX8_kind 22 = .ok (.invokevirtual 65, 3)) ∧ (decode cX8_kind 25 = .ok (.ireturn, 1)) ∧ (decode cX8_kind 26 = .ok (.aload_n 0, 1)) ∧ (decode cX8_kind 27 = .ok (.getfield 10, 3)) := by decide +kernel
theorem dX8_kind_16 : decode cX8_kind 16 = .ok (.iconst 3, 1) := dX8_kind_16_g.1
theorem dX8_kind_17 : decode cX8_kind 17 = .ok (.if_icmp .le 9, 3) := dX8_kind_16_g.2.1
theorem dX8_kind_20 : decode cX8_kind 20 = .ok (.aload_n 0, 1) := dX8_kind_16_g.2.2.1
theorem dX8_kind_21 : decode cX8_kind 21 = .ok (.iconst 1, 1) := dX8_kind_16_g.2.2.2.1
theorem dX8_kind_22 : decode cX8_kind 22 = .ok (.invokevirtual 65, 3) := dX8_kind_16_g.2.2.2.2.1
theorem dX8_kind_25 : decode cX8_kind 25 = .ok (.ireturn, 1) := dX8_kind_16_g.2.2.2.2.2.1
theorem dX8_kind_26 : decode cX8_kind 26 = .ok (.aload_n 0, 1) := dX8_kind_16_g.2.2.2.2.2.2.1
theorem dX8_kind_27 : decode cX8_kind 27 = .ok (.getfield 10, 3) := dX8_kind_16_g.2.2.2.2.2.2.2
theorem dX8_kind_30_g : (decode cX8_kind 30 = .ok (.getfield 90, 3)) ∧ (decode cX8_kind 33 = .ok (.iload_n 1, 1)) ∧ (decode cX8_kind 34 = .ok (.iaload, 1)) ∧ (decode cX8_kind 35 = .ok (.istore_n 3, 1)) ∧ (decode cX8_kind 36 = .ok (.aload_n 0, 1)) ∧ (decode cX8_kind 37 = .ok (.getfield 10, 3)) ∧ (decode cX8_kind 40 = .ok (.getfield 90, 3)) ∧ (decode cX8_kind 43 = .ok (.iload_n 1, 1)) := by decide +kernel
theorem dX8_kind_30 : decode cX8_kind 30 = .ok (.getfield 90, 3) := dX8_kind_30_g.1
theorem dX8_kind_33 : decode cX8_kind 33 = .ok (.iload_n 1, 1) := dX8_kind_30_g.2.1
theorem dX8_kind_34 : decode cX8_kind 34 = .ok (.iaload, 1) := dX8_kind_30_g.2.2.1
theorem dX8_kind_35 : decode cX8_kind 35 = .ok (.istore_n 3, 1) := dX8_kind_30_g.2.2.2.1
theorem dX8_kind_36 : decode cX8_kind 36 = .ok (.aload_n 0, 1) := dX8_kind_30_g.2.2.2.2.1
theorem dX8_kind_37 : decode cX8_kind 37 = .ok (.getfield 10, 3) := dX8_kind_30_g.2.2.2.2.2.1
theorem dX8_kind_40 : decode cX8_kind 40 = .ok (.getfield 90, 3) := dX8_kind_30_g.2.2.2.2.2.2.1
theorem dX8_kind_43 : decode cX8_kind 43 = .ok (.iload_n 1, 1) := dX8_kind_30_g.2.2.2.2.2.2.2
theorem dX8_kind_44_g : (decode cX8_kind 44 = .ok (.iload_n 2, 1)) ∧ (decode cX8_kind 45 = .ok (.iastore, 1)) ∧ (decode cX8_kind 46 = .ok (.aload_n 0, 1)) ∧ (decode cX8_kind 47 = .ok (.aload_n 0, 1)) ∧ (decode cX8_kind 48 = .ok (.getfield 73, 3)) ∧ (decode cX8_kind 51 = .ok (.invokevirtual 94, 3)) ∧ (decode cX8_kind 54 = .ok (.ifCond .eq 14, 3)) ∧ (decode cX8_kind 57 = .ok (.aload_n 0, 1)) := by decide +kernel
theorem dX8_kind_44 : decode cX8_kind 44 = .ok (.iload_n 2, 1) := dX8_kind_44_g.1
theorem dX8_kind_45 : decode cX8_kind 45 = .ok (.iastore, 1) := dX8_kind_44_g.2.1
theorem dX8_kind_46 : decode cX8_kind 46 = .ok (.aload_n 0, 1) := dX8_kind_44_g.2.2.1
theorem dX8_kind_47 : decode cX8_kind 47 = .ok (.aload_n 0, 1) := dX8_kind_44_g.2.2.2.1
theorem dX8_kind_48 : decode cX8_kind 48 = .ok (.getfield 73, 3) := dX8_kind_44_g.2.2.2.2.1
theorem dX8_kind_51 : decode cX8_kind 51 = .ok (.invokevirtual 94, 3) := dX8_kind_44_g.2.2.2.2.2.1
theorem dX8_kind_54 : decode cX8_kind 54 = .ok (.ifCond .eq 14, 3) := dX8_kind_44_g.2.2.2.2.2.2.1
theorem dX8_kind_57 : decode cX8_kind 57 = .ok (.aload_n 0, 1) := dX8_kind_44_g.2.2.2.2.2.2.2
theorem dX8_kind_58_g : (decode cX8_kind 58 = .ok (.aload_n 0, 1)) ∧ (decode cX8_kind 59 = .ok (.getfield 77, 3)) ∧ (decode cX8_kind 62 = .ok (.invokevirtual 94, 3)) ∧ (decode cX8_kind 65 = .ok (.ifCond .ne 19, 3)) ∧ (decode cX8_kind 68 = .ok (.aload_n 0, 1)) ∧ (decode cX8_kind 69 = .ok (.getfield 10, 3)) ∧ (decode cX8_kind 72 = .ok (.getfield 90, 3)) ∧ (decode cX8_kind 75 = .ok (.iload_n 1, 1)) := by decide +kernel
theorem dX8_kind_58 : decode cX8_kind 58 = .ok (.aload_n 0, 1) := dX8_kind_58_g.1
theorem dX8_kind_59 : decode cX8_kind 59 = .ok (.getfield 77, 3) := dX8_kind_58_g.2.1
theorem dX8_kind_62 : decode cX8_kind 62 = .ok (.invokevirtual 94, 3) := dX8_kind_58_g.2.2.1
theorem dX8_kind_65 : decode cX8_kind 65 = .ok (.ifCond .ne 19, 3) := dX8_kind_58_g.2.2.2.1
theorem dX8_kind_68 : decode cX8_kind 68 = .ok (.aload_n 0, 1) := dX8_kind_58_g.2.2.2.2.1
theorem dX8_kind_69 : decode cX8_kind 69 = .ok (.getfield 10, 3) := dX8_kind_58_g.2.2.2.2.2.1
theorem dX8_kind_72 : decode cX8_kind 72 = .ok (.getfield 90, 3) := dX8_kind_58_g.2.2.2.2.2.2.1
theorem dX8_kind_75 : decode cX8_kind 75 = .ok (.iload_n 1, 1) := dX8_kind_58_g.2.2.2.2.2.2.2
theorem dX8_kind_76_g : (decode cX8_kind 76 = .ok (.iload_n 3, 1)) ∧ (decode cX8_kind 77 = .ok (.iastore, 1)) ∧ (decode cX8_kind 78 = .ok (.aload_n 0, 1)) ∧ (decode cX8_kind 79 = .ok (.iconst 3, 1)) ∧ (decode cX8_kind 80 = .ok (.invokevirtual 65, 3)) ∧ (decode cX8_kind 83 = .ok (.ireturn, 1)) ∧ (decode cX8_kind 84 = .ok (.aload_n 0, 1)) ∧ (decode cX8_kind 85 = .ok (.invokevirtual 80, 3)) := by decide +kernel
theorem dX8_kind_76 : decode cX8_kind 76 = .ok (.iload_n 3, 1) := dX8_kind_76_g.1
theorem dX8_kind_77 : decode cX8_kind 77 = .ok (.iastore, 1) := dX8_kind_76_g.2.1
theorem dX8_kind_78 : decode cX8_kind 78 = .ok (.aload_n 0, 1) := dX8_kind_76_g.2.2.1
theorem dX8_kind_79 : decode cX8_kind 79 = .ok (.iconst 3, 1) := dX8_kind_76_g.2.2.2.1
theorem dX8_kind_80 : decode cX8_kind 80 = .ok (.invokevirtual 65, 3) := dX8_kind_76_g.2.2.2.2.1
theorem dX8_kind_83 : decode cX8_kind 83 = .ok (.ireturn, 1) := dX8_kind_76_g.2.2.2.2.2.1
theorem dX8_kind_84 : decode cX8_kind 84 = .ok (.aload_n 0, 1) := dX8_kind_76_g.2.2.2.2.2.2.1
theorem dX8_kind_85 : decode cX8_kind 85 = .ok (.invokevirtual 80, 3) := dX8_kind_76_g.2.2.2.2.2.2.2
theorem dX8_kind_88_g : (decode cX8_kind 88 = .ok (.aload_n 0, 1)) ∧ (decode cX8_kind 89 = .ok (.invokevirtual 83, 3)) ∧ (decode cX8_kind 92 = .ok (.ireturn, 1)) := by decide +kernel
theorem dX8_kind_88 : decode cX8_kind 88 = .ok (.aload_n 0, 1) := dX8_kind_88_g.1
theorem dX8_kind_89 : decode cX8_kind 89 = .ok (.invokevirtual 83, 3) := dX8_kind_88_g.2.1
theorem dX8_kind_92 : decode cX8_kind 92 = .ok (.ireturn, 1) := dX8_kind_88_g.2.2
theorem dX8_lane_0_g : (decode cX8_lane 0 = .ok (.aload_n 0, 1)) ∧ (decode cX8_lane 1 = .ok (.getfield 10, 3)) ∧ (decode cX8_lane 4 = .ok (.iload_n 1, 1)) ∧ (decode cX8_lane 5 = .ok (.invokevirtual 97, 3)) ∧ (decode cX8_lane 8 = .ok (.ifCond .eq 29, 3)) ∧ (decode cX8_lane 11 = .ok (.aload_n 0, 1)) ∧ (decode cX8_lane 12 = .ok (.getfield 10, 3)) ∧ (decode cX8_lane 15 = .ok (.iload_n 2, 1)) := by decide +kernel
theorem dX8_lane_0 : decode cX8_lane 0 = .ok (.aload_n 0, 1) := dX8_lane_0_g.1
theorem dX8_lane_1 : decode cX8_lane 1 = .ok (.getfield 10, 3) := dX8_lane_0_g.2.1
theorem dX8_lane_4 : decode cX8_lane 4 = .ok (.iload_n 1, 1) := dX8_lane_0_g.2.2.1
theorem dX8_lane_5 : decode cX8_lane 5 = .ok (.invokevirtual 97, 3) := dX8_lane_0_g.2.2.2.1
theorem dX8_lane_8 : decode cX8_lane 8 = .ok (.ifCond .eq 29, 3) := dX8_lane_0_g.2.2.2.2.1
theorem dX8_lane_11 : decode cX8_lane 11 = .ok (.aload_n 0, 1) := dX8_lane_0_g.2.2.2.2.2.1
theorem dX8_lane_12 : decode cX8_lane 12 = .ok (.getfield 10, 3) := dX8_lane_0_g.2.2.2.2.2.2.1
theorem dX8_lane_15 : decode cX8_lane 15 = .ok (.iload_n 2, 1) := dX8_lane_0_g.2.2.2.2.2.2.2
theorem dX8_lane_16_g : (decode cX8_lane 16 = .ok (.invokevirtual 97, 3)) ∧ (decode cX8_lane 19 = .ok (.ifCond .eq 18, 3)) ∧ (decode cX8_lane 22 = .ok (.iload_n 1, 1)) ∧ (decode cX8_lane 23 = .ok (.iload_n 2, 1)) ∧ (decode cX8_lane 24 = .ok (.if_icmp .eq 13, 3)) ∧ (decode cX8_lane 27 = .ok (.iload_n 3, 1)) ∧ (decode cX8_lane 28 = .ok (.ifCond .lt 9, 3)) ∧ (decode cX8_lane 31 = .ok (.iload_n 3, 1)) := by decide +kernel
theorem dX8_lane_16 : decode cX8_lane 16 = .ok (.invokevirtual 97, 3) := dX8_lane_16_g.1
theorem dX8_lane_19 : decode cX8_lane 19 = .ok (.ifCond .eq 18, 3) := dX8_lane_16_g.2.1
theorem dX8_lane_22 : decode cX8_lane 22 = .ok (.iload_n 1, 1) := dX8_lane_16_g.2.2.1
theorem dX8_lane_23 : decode cX8_lane 23 = .ok (.iload_n 2, 1) := dX8_lane_16_g.2.2.2.1
theorem dX8_lane_24 : decode cX8_lane 24 = .ok (.if_icmp .eq 13, 3) := dX8_lane_16_g.2.2.2.2.1
theorem dX8_lane_27 : decode cX8_lane 27 = .ok (.iload_n 3, 1) := dX8_lane_16_g.2.2.2.2.2.1
theorem dX8_lane_28 : decode cX8_lane 28 = .ok (.ifCond .lt 9, 3) := dX8_lane_16_g.2.2.2.2.2.2.1
theorem dX8_lane_31 : decode cX8_lane 31 = .ok (.iload_n 3, 1) := dX8_lane_16_g.2.2.2.2.2.2.2
theorem dX8_lane_32_g : (decode cX8_lane 32 = .ok (.bipush 100, 2)) ∧ (decode cX8_lane 34 = .ok (.if_icmp .le 9, 3)) ∧ (decode cX8_lane 37 = .ok (.aload_n 0, 1)) ∧ (decode cX8_lane 38 = .ok (.iconst 1, 1)) ∧ (decode cX8_lane 39 = .ok (.invokevirtual 65, 3)) ∧ (decode cX8_lane 42 = .ok (.ireturn, 1)) ∧ (decode cX8_lane 43 = .ok (.aload_n 0, 1)) ∧ (decode cX8_lane 44 = .ok (.getfield 10, 3)) := by decide +kernel
theorem dX8_lane_32 : decode cX8_lane 32 = .ok (.bipush 100, 2) := dX8_lane_32_g.1
theorem dX8_lane_34 : decode cX8_lane 34 = .ok (.if_icmp .le 9, 3) := dX8_lane_32_g.2.1
theorem dX8_lane_37 : decode cX8_lane 37 = .ok (.aload_n 0, 1) := dX8_lane_32_g.2.2.1
theorem dX8_lane_38 : decode cX8_lane 38 = .ok (.iconst 1, 1) := dX8_lane_32_g.2.2.2.1
theorem dX8_lane_39 : decode cX8_lane 39 = .ok (.invokevirtual 65, 3) := dX8_lane_32_g.2.2.2.2.1
theorem dX8_lane_42 : decode cX8_lane 42 = .ok (.ireturn, 1) := dX8_lane_32_g.2.2.2.2.2.1
theorem dX8_lane_43 : decode cX8_lane 43 = .ok (.aload_n 0, 1) := dX8_lane_32_g.2.2.2.2.2.2.1
theorem dX8_lane_44 : decode cX8_lane 44 = .ok (.getfield 10, 3) := dX8_lane_32_g.2.2.2.2.2.2.2
theorem dX8_lane_47_g : (decode cX8_lane 47 = .ok (.iload_n 1, 1)) ∧ (decode cX8_lane 48 = .ok (.iload_n 2, 1)) ∧ (decode cX8_lane 49 = .ok (.iload_n 3, 1)) ∧ (decode cX8_lane 50 = .ok (.iload 4, 2)) ∧ (decode cX8_lane 52 = .ok (.invokevirtual 100, 3)) ∧ (decode cX8_lane 55 = .ok (.aload_n 0, 1)) ∧ (decode cX8_lane 56 = .ok (.invokevirtual 80, 3)) ∧ (decode cX8_lane 59 = .ok (.aload_n 0, 1)) := by decide +kernel
theorem dX8_lane_47 : decode cX8_lane 47 = .ok (.iload_n 1, 1) := dX8_lane_47_g.1
theorem dX8_lane_48 : decode cX8_lane 48 = .ok (.iload_n 2, 1) := dX8_lane_47_g.2.1
theorem dX8_lane_49 : decode cX8_lane 49 = .ok (.iload_n 3, 1) := dX8_lane_47_g.2.2.1
theorem dX8_lane_50 : decode cX8_lane 50 = .ok (.iload 4, 2) := dX8_lane_47_g.2.2.2.1
theorem dX8_lane_52 : decode cX8_lane 52 = .ok (.invokevirtual 100, 3) := dX8_lane_47_g.2.2.2.2.1
theorem dX8_lane_55 : decode cX8_lane 55 = .ok (.aload_n 0, 1) := dX8_lane_47_g.2.2.2.2.2.1
theorem dX8_lane_56 : decode cX8_lane 56 = .ok (.invokevirtual 80, 3) := dX8_lane_47_g.2.2.2.2.2.2.1
theorem dX8_lane_59 : decode cX8_lane 59 = .ok (.aload_n 0, 1) := dX8_lane_47_g.2.2.2.2.2.2.2
theorem dX8_lane_60_g : (decode cX8_lane 60 = .ok (.invokevirtual 83, 3)) ∧ (decode cX8_lane 63 = .ok (.ireturn, 1)) := by decide +kernel
theorem dX8_lane_60 : decode cX8_lane 60 = .ok (.invokevirtual 83, 3) := dX8_lane_60_g.1
theorem dX8_lane_63 : decode cX8_lane 63 = .ok (.ireturn, 1) := dX8_lane_60_g.2
theorem dX8_lanes_0_g : (decode cX8_lanes 0 = .ok (.aload_n 0, 1)) ∧ (decode cX8_lanes 1 = .ok (.getfield 10, 3)) ∧ (decode cX8_lanes 4 = .ok (.invokevirtual 104, 3)) ∧ (decode cX8_lanes 7 = .ok (.aload_n 0, 1)) ∧ (decode cX8_lanes 8 = .ok (.invokevirtual 80, 3)) ∧ (decode cX8_lanes 11 = .ok (.aload_n 0, 1)) ∧ (decode cX8_lanes 12 = .ok (.getfield 10, 3)) ∧ (decode cX8_lanes 15 = .ok (.invokevirtual 107, 3)) := by decide +kernel
theorem dX8_lanes_0 : decode cX8_lanes 0 = .ok (.aload_n 0, 1) := dX8_lanes_0_g.1
theorem dX8_lanes_1 : decode cX8_lanes 1 = .ok (.getfield 10, 3) := dX8_lanes_0_g.2.1
theorem dX8_lanes_4 : decode cX8_lanes 4 = .ok (.invokevirtual 104, 3) := dX8_lanes_0_g.2.2.1
theorem dX8_lanes_7 : decode cX8_lanes 7 = .ok (.aload_n 0, 1) := dX8_lanes_0_g.2.2.2.1
theorem dX8_lanes_8 : decode cX8_lanes 8 = .ok (.invokevirtual 80, 3) := dX8_lanes_0_g.2.2.2.2.1
theorem dX8_lanes_11 : decode cX8_lanes 11 = .ok (.aload_n 0, 1) := dX8_lanes_0_g.2.2.2.2.2.1
theorem dX8_lanes_12 : decode cX8_lanes 12 = .ok (.getfield 10, 3) := dX8_lanes_0_g.2.2.2.2.2.2.1
theorem dX8_lanes_15 : decode cX8_lanes 15 = .ok (.invokevirtual 107, 3) := dX8_lanes_0_g.2.2.2.2.2.2.2
theorem dX8_lanes_18 : decode cX8_lanes 18 = .ok (.ireturn, 1) := by decide +kernel
theorem dX8_cost_0_g : (decode cX8_cost 0 = .ok (.aload_n 0, 1)) ∧ (decode cX8_cost 1 = .ok (.getfield 10, 3)) ∧ (decode cX8_cost 4 = .ok (.iload_n 1, 1)) ∧ (decode cX8_cost 5 = .ok (.invokevirtual 97, 3)) ∧ (decode cX8_cost 8 = .ok (.ifCond .eq 14, 3)) ∧ (decode cX8_cost 11 = .ok (.aload_n 0, 1)) ∧ (decode cX8_cost 12 = .ok (.getfield 10, 3)) ∧ (decode cX8_cost 15 = .ok (.iload_n 2, 1)) := by decide +kernel
theorem dX8_cost_0 : decode cX8_cost 0 = .ok (.aload_n 0, 1) := dX8_cost_0_g.1
theorem dX8_cost_1 : decode cX8_cost 1 = .ok (.getfield 10, 3) := dX8_cost_0_g.2.1
theorem dX8_cost_4 : decode cX8_cost 4 = .ok (.iload_n 1, 1) := dX8_cost_0_g.2.2.1
theorem dX8_cost_5 : decode cX8_cost 5 = .ok (.invokevirtual 97, 3) := dX8_cost_0_g.2.2.2.1
theorem dX8_cost_8 : decode cX8_cost 8 = .ok (.ifCond .eq 14, 3) := dX8_cost_0_g.2.2.2.2.1
theorem dX8_cost_11 : decode cX8_cost 11 = .ok (.aload_n 0, 1) := dX8_cost_0_g.2.2.2.2.2.1
theorem dX8_cost_12 : decode cX8_cost 12 = .ok (.getfield 10, 3) := dX8_cost_0_g.2.2.2.2.2.2.1
theorem dX8_cost_15 : decode cX8_cost 15 = .ok (.iload_n 2, 1) := dX8_cost_0_g.2.2.2.2.2.2.2
theorem dX8_cost_16_g : (decode cX8_cost 16 = .ok (.invokevirtual 97, 3)) ∧ (decode cX8_cost 19 = .ok (.ifCond .ne 5, 3)) ∧ (decode cX8_cost 22 = .ok (.iconst (-1), 1)) ∧ (decode cX8_cost 23 = .ok (.ireturn, 1)) ∧ (decode cX8_cost 24 = .ok (.aload_n 0, 1)) ∧ (decode cX8_cost 25 = .ok (.getfield 10, 3)) ∧ (decode cX8_cost 28 = .ok (.getfield 111, 3)) ∧ (decode cX8_cost 31 = .ok (.iload_n 1, 1)) := by decide +kernel
theorem dX8_cost_16 : decode cX8_cost 16 = .ok (.invokevirtual 97, 3) := dX8_cost_16_g.1
theorem dX8_cost_19 : decode cX8_cost 19 = .ok (.ifCond .ne 5, 3) := dX8_cost_16_g.2.1
theorem dX8_cost_22 : decode cX8_cost 22 = .ok (.iconst (-1), 1) := dX8_cost_16_g.2.2.1
theorem dX8_cost_23 : decode cX8_cost 23 = .ok (.ireturn, 1) := dX8_cost_16_g.2.2.2.1
theorem dX8_cost_24 : decode cX8_cost 24 = .ok (.aload_n 0, 1) := dX8_cost_16_g.2.2.2.2.1
theorem dX8_cost_25 : decode cX8_cost 25 = .ok (.getfield 10, 3) := dX8_cost_16_g.2.2.2.2.2.1
theorem dX8_cost_28 : decode cX8_cost 28 = .ok (.getfield 111, 3) := dX8_cost_16_g.2.2.2.2.2.2.1
theorem dX8_cost_31 : decode cX8_cost 31 = .ok (.iload_n 1, 1) := dX8_cost_16_g.2.2.2.2.2.2.2
theorem dX8_cost_32_g : (decode cX8_cost 32 = .ok (.iconst 5, 1)) ∧ (decode cX8_cost 33 = .ok (.imul, 1)) ∧ (decode cX8_cost 34 = .ok (.iload_n 2, 1)) ∧ (decode cX8_cost 35 = .ok (.iadd, 1)) ∧ (decode cX8_cost 36 = .ok (.iaload, 1)) ∧ (decode cX8_cost 37 = .ok (.ireturn, 1)) := by decide +kernel
theorem dX8_cost_32 : decode cX8_cost 32 = .ok (.iconst 5, 1) := dX8_cost_32_g.1
theorem dX8_cost_33 : decode cX8_cost 33 = .ok (.imul, 1) := dX8_cost_32_g.2.1
theorem dX8_cost_34 : decode cX8_cost 34 = .ok (.iload_n 2, 1) := dX8_cost_32_g.2.2.1
theorem dX8_cost_35 : decode cX8_cost 35 = .ok (.iadd, 1) := dX8_cost_32_g.2.2.2.1
theorem dX8_cost_36 : decode cX8_cost 36 = .ok (.iaload, 1) := dX8_cost_32_g.2.2.2.2.1
theorem dX8_cost_37 : decode cX8_cost 37 = .ok (.ireturn, 1) := dX8_cost_32_g.2.2.2.2.2
theorem dX8_stand_0_g : (decode cX8_stand 0 = .ok (.iload_n 1, 1)) ∧ (decode cX8_stand 1 = .ok (.ifCond .lt 14, 3)) ∧ (decode cX8_stand 4 = .ok (.iload_n 1, 1)) ∧ (decode cX8_stand 5 = .ok (.aload_n 0, 1)) ∧ (decode cX8_stand 6 = .ok (.getfield 10, 3)) ∧ (decode cX8_stand 9 = .ok (.getfield 114, 3)) ∧ (decode cX8_stand 12 = .ok (.if_icmp .lt 9, 3)) ∧ (decode cX8_stand 15 = .ok (.aload_n 0, 1)) := by decide +kernel
theorem dX8_stand_0 : decode cX8_stand 0 = .ok (.iload_n 1, 1) := dX8_stand_0_g.1
theorem dX8_stand_1 : decode cX8_stand 1 = .ok (.ifCond .lt 14, 3) := dX8_stand_0_g.2.1
theorem dX8_stand_4 : decode cX8_stand 4 = .ok (.iload_n 1, 1) := dX8_stand_0_g.2.2.1
theorem dX8_stand_5 : decode cX8_stand 5 = .ok (.aload_n 0, 1) := dX8_stand_0_g.2.2.2.1
theorem dX8_stand_6 : decode cX8_stand 6 = .ok (.getfield 10, 3) := dX8_stand_0_g.2.2.2.2.1
theorem dX8_stand_9 : decode cX8_stand 9 = .ok (.getfield 114, 3) := dX8_stand_0_g.2.2.2.2.2.1
theorem dX8_stand_12 : decode cX8_stand 12 = .ok (.if_icmp .lt 9, 3) := dX8_stand_0_g.2.2.2.2.2.2.1
theorem dX8_stand_15 : decode cX8_stand 15 = .ok (.aload_n 0, 1) := dX8_stand_0_g.2.2.2.2.2.2.2
theorem dX8_stand_16_g : (decode cX8_stand 16 = .ok (.iconst 1, 1)) ∧ (decode cX8_stand 17 = .ok (.invokevirtual 65, 3)) ∧ (decode cX8_stand 20 = .ok (.ireturn, 1)) ∧ (decode cX8_stand 21 = .ok (.aload_n 0, 1)) ∧ (decode cX8_stand 22 = .ok (.iload_n 1, 1)) ∧ (decode cX8_stand 23 = .ok (.invokevirtual 94, 3)) ∧ (decode cX8_stand 26 = .ok (.ifCond .ne 9, 3)) ∧ (decode cX8_stand 29 = .ok (.aload_n 0, 1)) := by decide +kernel
theorem dX8_stand_16 : decode cX8_stand 16 = .ok (.iconst 1, 1) := dX8_stand_16_g.1
theorem dX8_stand_17 : decode cX8_stand 17 = .ok (.invokevirtual 65, 3) := dX8_stand_16_g.2.1
theorem dX8_stand_20 : decode cX8_stand 20 = .ok (.ireturn, 1) := dX8_stand_16_g.2.2.1
theorem dX8_stand_21 : decode cX8_stand 21 = .ok (.aload_n 0, 1) := dX8_stand_16_g.2.2.2.1
theorem dX8_stand_22 : decode cX8_stand 22 = .ok (.iload_n 1, 1) := dX8_stand_16_g.2.2.2.2.1
theorem dX8_stand_23 : decode cX8_stand 23 = .ok (.invokevirtual 94, 3) := dX8_stand_16_g.2.2.2.2.2.1
theorem dX8_stand_26 : decode cX8_stand 26 = .ok (.ifCond .ne 9, 3) := dX8_stand_16_g.2.2.2.2.2.2.1
theorem dX8_stand_29 : decode cX8_stand 29 = .ok (.aload_n 0, 1) := dX8_stand_16_g.2.2.2.2.2.2.2
theorem dX8_stand_30_g : (decode cX8_stand 30 = .ok (.iconst 3, 1)) ∧ (decode cX8_stand 31 = .ok (.invokevirtual 65, 3)) ∧ (decode cX8_stand 34 = .ok (.ireturn, 1)) ∧ (decode cX8_stand 35 = .ok (.iload_n 2, 1)) ∧ (decode cX8_stand 36 = .ok (.ifCond .eq 11, 3)) ∧ (decode cX8_stand 39 = .ok (.aload_n 0, 1)) ∧ (decode cX8_stand 40 = .ok (.iload_n 1, 1)) ∧ (decode cX8_stand 41 = .ok (.putfield 77, 3)) := by decide +kernel
theorem dX8_stand_30 : decode cX8_stand 30 = .ok (.iconst 3, 1) := dX8_stand_30_g.1
theorem dX8_stand_31 : decode cX8_stand 31 = .ok (.invokevirtual 65, 3) := dX8_stand_30_g.2.1
theorem dX8_stand_34 : decode cX8_stand 34 = .ok (.ireturn, 1) := dX8_stand_30_g.2.2.1
theorem dX8_stand_35 : decode cX8_stand 35 = .ok (.iload_n 2, 1) := dX8_stand_30_g.2.2.2.1
theorem dX8_stand_36 : decode cX8_stand 36 = .ok (.ifCond .eq 11, 3) := dX8_stand_30_g.2.2.2.2.1
theorem dX8_stand_39 : decode cX8_stand 39 = .ok (.aload_n 0, 1) := dX8_stand_30_g.2.2.2.2.2.1
theorem dX8_stand_40 : decode cX8_stand 40 = .ok (.iload_n 1, 1) := dX8_stand_30_g.2.2.2.2.2.2.1
theorem dX8_stand_41 : decode cX8_stand 41 = .ok (.putfield 77, 3) := dX8_stand_30_g.2.2.2.2.2.2.2
theorem dX8_stand_44_g : (decode cX8_stand 44 = .ok (.goto 15, 3)) ∧ (decode cX8_stand 47 = .ok (.aload_n 0, 1)) ∧ (decode cX8_stand 48 = .ok (.iload_n 1, 1)) ∧ (decode cX8_stand 49 = .ok (.putfield 73, 3)) ∧ (decode cX8_stand 52 = .ok (.aload_n 0, 1)) ∧ (decode cX8_stand 53 = .ok (.getfield 26, 3)) ∧ (decode cX8_stand 56 = .ok (.invokevirtual 117, 3)) ∧ (decode cX8_stand 59 = .ok (.aload_n 0, 1)) := by decide +kernel
theorem dX8_stand_44 : decode cX8_stand 44 = .ok (.goto 15, 3) := dX8_stand_44_g.1
theorem dX8_stand_47 : decode cX8_stand 47 = .ok (.aload_n 0, 1) := dX8_stand_44_g.2.1
theorem dX8_stand_48 : decode cX8_stand 48 = .ok (.iload_n 1, 1) := dX8_stand_44_g.2.2.1
theorem dX8_stand_49 : decode cX8_stand 49 = .ok (.putfield 73, 3) := dX8_stand_44_g.2.2.2.1
theorem dX8_stand_52 : decode cX8_stand 52 = .ok (.aload_n 0, 1) := dX8_stand_44_g.2.2.2.2.1
theorem dX8_stand_53 : decode cX8_stand 53 = .ok (.getfield 26, 3) := dX8_stand_44_g.2.2.2.2.2.1
theorem dX8_stand_56 : decode cX8_stand 56 = .ok (.invokevirtual 117, 3) := dX8_stand_44_g.2.2.2.2.2.2.1
theorem dX8_stand_59 : decode cX8_stand 59 = .ok (.aload_n 0, 1) := dX8_stand_44_g.2.2.2.2.2.2.2
theorem dX8_stand_60_g : (decode cX8_stand 60 = .ok (.invokevirtual 83, 3)) ∧ (decode cX8_stand 63 = .ok (.ireturn, 1)) := by decide +kernel
theorem dX8_stand_60 : decode cX8_stand 60 = .ok (.invokevirtual 83, 3) := dX8_stand_60_g.1
theorem dX8_stand_63 : decode cX8_stand 63 = .ok (.ireturn, 1) := dX8_stand_60_g.2
theorem dX8_number_0_g : (decode cX8_number 0 = .ok (.iload_n 1, 1)) ∧ (decode cX8_number 1 = .ok (.ifCond .eq 10, 3)) ∧ (decode cX8_number 4 = .ok (.aload_n 0, 1)) ∧ (decode cX8_number 5 = .ok (.getfield 77, 3)) ∧ (decode cX8_number 8 = .ok (.goto 7, 3)) ∧ (decode cX8_number 11 = .ok (.aload_n 0, 1)) ∧ (decode cX8_number 12 = .ok (.getfield 73, 3)) ∧ (decode cX8_number 15 = .ok (.ireturn, 1)) := by decide +kernel
theorem dX8_number_0 : decode cX8_number 0 = .ok (.iload_n 1, 1) := dX8_number_0_g.1
theorem dX8_number_1 : decode cX8_number 1 = .ok (.ifCond .eq 10, 3) := dX8_number_0_g.2.1
theorem dX8_number_4 : decode cX8_number 4 = .ok (.aload_n 0, 1) := dX8_number_0_g.2.2.1
theorem dX8_number_5 : decode cX8_number 5 = .ok (.getfield 77, 3) := dX8_number_0_g.2.2.2.1
theorem dX8_number_8 : decode cX8_number 8 = .ok (.goto 7, 3) := dX8_number_0_g.2.2.2.2.1
theorem dX8_number_11 : decode cX8_number 11 = .ok (.aload_n 0, 1) := dX8_number_0_g.2.2.2.2.2.1
theorem dX8_number_12 : decode cX8_number 12 = .ok (.getfield 73, 3) := dX8_number_0_g.2.2.2.2.2.2.1
theorem dX8_number_15 : decode cX8_number 15 = .ok (.ireturn, 1) := dX8_number_0_g.2.2.2.2.2.2.2
theorem dX8_peg_0_g : (decode cX8_peg 0 = .ok (.aload_n 0, 1)) ∧ (decode cX8_peg 1 = .ok (.getfield 10, 3)) ∧ (decode cX8_peg 4 = .ok (.iload_n 1, 1)) ∧ (decode cX8_peg 5 = .ok (.invokevirtual 87, 3)) ∧ (decode cX8_peg 8 = .ok (.ifCond .ne 5, 3)) ∧ (decode cX8_peg 11 = .ok (.iconst (-1), 1)) ∧ (decode cX8_peg 12 = .ok (.ireturn, 1)) ∧ (decode cX8_peg 13 = .ok (.aload_n 0, 1)) := by decide +kernel
theorem dX8_peg_0 : decode cX8_peg 0 = .ok (.aload_n 0, 1) := dX8_peg_0_g.1
theorem dX8_peg_1 : decode cX8_peg 1 = .ok (.getfield 10, 3) := dX8_peg_0_g.2.1
theorem dX8_peg_4 : decode cX8_peg 4 = .ok (.iload_n 1, 1) := dX8_peg_0_g.2.2.1
theorem dX8_peg_5 : decode cX8_peg 5 = .ok (.invokevirtual 87, 3) := dX8_peg_0_g.2.2.2.1
theorem dX8_peg_8 : decode cX8_peg 8 = .ok (.ifCond .ne 5, 3) := dX8_peg_0_g.2.2.2.2.1
theorem dX8_peg_11 : decode cX8_peg 11 = .ok (.iconst (-1), 1) := dX8_peg_0_g.2.2.2.2.2.1
theorem dX8_peg_12 : decode cX8_peg 12 = .ok (.ireturn, 1) := dX8_peg_0_g.2.2.2.2.2.2.1
theorem dX8_peg_13 : decode cX8_peg 13 = .ok (.aload_n 0, 1) := dX8_peg_0_g.2.2.2.2.2.2.2
theorem dX8_peg_14_g : (decode cX8_peg 14 = .ok (.getfield 19, 3)) ∧ (decode cX8_peg 17 = .ok (.aload_n 0, 1)) ∧ (decode cX8_peg 18 = .ok (.getfield 10, 3)) ∧ (decode cX8_peg 21 = .ok (.aload_n 0, 1)) ∧ (decode cX8_peg 22 = .ok (.getfield 73, 3)) ∧ (decode cX8_peg 25 = .ok (.invokevirtual 120, 3)) ∧ (decode cX8_peg 28 = .ok (.aload_n 0, 1)) ∧ (decode cX8_peg 29 = .ok (.getfield 19, 3)) := by decide +kernel
theorem dX8_peg_14 : decode cX8_peg 14 = .ok (.getfield 19, 3) := dX8_peg_14_g.1
theorem dX8_peg_17 : decode cX8_peg 17 = .ok (.aload_n 0, 1) := dX8_peg_14_g.2.1
theorem dX8_peg_18 : decode cX8_peg 18 = .ok (.getfield 10, 3) := dX8_peg_14_g.2.2.1
theorem dX8_peg_21 : decode cX8_peg 21 = .ok (.aload_n 0, 1) := dX8_peg_14_g.2.2.2.1
theorem dX8_peg_22 : decode cX8_peg 22 = .ok (.getfield 73, 3) := dX8_peg_14_g.2.2.2.2.1
theorem dX8_peg_25 : decode cX8_peg 25 = .ok (.invokevirtual 120, 3) := dX8_peg_14_g.2.2.2.2.2.1
theorem dX8_peg_28 : decode cX8_peg 28 = .ok (.aload_n 0, 1) := dX8_peg_14_g.2.2.2.2.2.2.1
theorem dX8_peg_29 : decode cX8_peg 29 = .ok (.getfield 19, 3) := dX8_peg_14_g.2.2.2.2.2.2.2
theorem dX8_peg_32_g : (decode cX8_peg 32 = .ok (.getfield 124, 3)) ∧ (decode cX8_peg 35 = .ok (.iload_n 1, 1)) ∧ (decode cX8_peg 36 = .ok (.iaload, 1)) ∧ (decode cX8_peg 37 = .ok (.ireturn, 1)) := by decide +kernel
theorem dX8_peg_32 : decode cX8_peg 32 = .ok (.getfield 124, 3) := dX8_peg_32_g.1
theorem dX8_peg_35 : decode cX8_peg 35 = .ok (.iload_n 1, 1) := dX8_peg_32_g.2.1
theorem dX8_peg_36 : decode cX8_peg 36 = .ok (.iaload, 1) := dX8_peg_32_g.2.2.1
theorem dX8_peg_37 : decode cX8_peg 37 = .ok (.ireturn, 1) := dX8_peg_32_g.2.2.2
theorem dX8_disc_0_g : (decode cX8_disc 0 = .ok (.aload_n 0, 1)) ∧ (decode cX8_disc 1 = .ok (.getfield 10, 3)) ∧ (decode cX8_disc 4 = .ok (.iload_n 1, 1)) ∧ (decode cX8_disc 5 = .ok (.invokevirtual 97, 3)) ∧ (decode cX8_disc 8 = .ok (.ifCond .eq 7, 3)) ∧ (decode cX8_disc 11 = .ok (.iload_n 2, 1)) ∧ (decode cX8_disc 12 = .ok (.ifCond .ge 5, 3)) ∧ (decode cX8_disc 15 = .ok (.iconst (-1), 1)) := by decide +kernel
theorem dX8_disc_0 : decode cX8_disc 0 = .ok (.aload_n 0, 1) := dX8_disc_0_g.1
theorem dX8_disc_1 : decode cX8_disc 1 = .ok (.getfield 10, 3) := dX8_disc_0_g.2.1
theorem dX8_disc_4 : decode cX8_disc 4 = .ok (.iload_n 1, 1) := dX8_disc_0_g.2.2.1
theorem dX8_disc_5 : decode cX8_disc 5 = .ok (.invokevirtual 97, 3) := dX8_disc_0_g.2.2.2.1
theorem dX8_disc_8 : decode cX8_disc 8 = .ok (.ifCond .eq 7, 3) := dX8_disc_0_g.2.2.2.2.1
theorem dX8_disc_11 : decode cX8_disc 11 = .ok (.iload_n 2, 1) := dX8_disc_0_g.2.2.2.2.2.1
theorem dX8_disc_12 : decode cX8_disc 12 = .ok (.ifCond .ge 5, 3) := dX8_disc_0_g.2.2.2.2.2.2.1
theorem dX8_disc_15 : decode cX8_disc 15 = .ok (.iconst (-1), 1) := dX8_disc_0_g.2.2.2.2.2.2.2
theorem dX8_disc_16_g : (decode cX8_disc 16 = .ok (.ireturn, 1)) ∧ (decode cX8_disc 17 = .ok (.aload_n 0, 1)) ∧ (decode cX8_disc 18 = .ok (.getfield 19, 3)) ∧ (decode cX8_disc 21 = .ok (.aload_n 0, 1)) ∧ (decode cX8_disc 22 = .ok (.getfield 10, 3)) ∧ (decode cX8_disc 25 = .ok (.aload_n 0, 1)) ∧ (decode cX8_disc 26 = .ok (.getfield 73, 3)) ∧ (decode cX8_disc 29 = .ok (.invokevirtual 120, 3)) := by decide +kernel
theorem dX8_disc_16 : decode cX8_disc 16 = .ok (.ireturn, 1) := dX8_disc_16_g.1
theorem dX8_disc_17 : decode cX8_disc 17 = .ok (.aload_n 0, 1) := dX8_disc_16_g.2.1
theorem dX8_disc_18 : decode cX8_disc 18 = .ok (.getfield 19, 3) := dX8_disc_16_g.2.2.1
theorem dX8_disc_21 : decode cX8_disc 21 = .ok (.aload_n 0, 1) := dX8_disc_16_g.2.2.2.1
theorem dX8_disc_22 : decode cX8_disc 22 = .ok (.getfield 10, 3) := dX8_disc_16_g.2.2.2.2.1
theorem dX8_disc_25 : decode cX8_disc 25 = .ok (.aload_n 0, 1) := dX8_disc_16_g.2.2.2.2.2.1
theorem dX8_disc_26 : decode cX8_disc 26 = .ok (.getfield 73, 3) := dX8_disc_16_g.2.2.2.2.2.2.1
theorem dX8_disc_29 : decode cX8_disc 29 = .ok (.invokevirtual 120, 3) := dX8_disc_16_g.2.2.2.2.2.2.2
theorem dX8_disc_32_g : (decode cX8_disc 32 = .ok (.iconst 0, 1)) ∧ (decode cX8_disc 33 = .ok (.istore_n 3, 1)) ∧ (decode cX8_disc 34 = .ok (.aload_n 0, 1)) ∧ (decode cX8_disc 35 = .ok (.getfield 10, 3)) ∧ (decode cX8_disc 38 = .ok (.getfield 127, 3)) ∧ (decode cX8_disc 41 = .ok (.iconst 1, 1)) ∧ (decode cX8_disc 42 = .ok (.isub, 1)) ∧ (decode cX8_disc 43 = .ok (.istore 4, 2)) := by decide +kernel
theorem dX8_disc_32 : decode cX8_disc 32 = .ok (.iconst 0, 1) := dX8_disc_32_g.1
theorem dX8_disc_33 : decode cX8_disc 33 = .ok (.istore_n 3, 1) := dX8_disc_32_g.2.1
theorem dX8_disc_34 : decode cX8_disc 34 = .ok (.aload_n 0, 1) := dX8_disc_32_g.2.2.1
theorem dX8_disc_35 : decode cX8_disc 35 = .ok (.getfield 10, 3) := dX8_disc_32_g.2.2.2.1
theorem dX8_disc_38 : decode cX8_disc 38 = .ok (.getfield 127, 3) := dX8_disc_32_g.2.2.2.2.1
theorem dX8_disc_41 : decode cX8_disc 41 = .ok (.iconst 1, 1) := dX8_disc_32_g.2.2.2.2.2.1
theorem dX8_disc_42 : decode cX8_disc 42 = .ok (.isub, 1) := dX8_disc_32_g.2.2.2.2.2.2.1
theorem dX8_disc_43 : decode cX8_disc 43 = .ok (.istore 4, 2) := dX8_disc_32_g.2.2.2.2.2.2.2
theorem dX8_disc_45_g : (decode cX8_disc 45 = .ok (.iload 4, 2)) ∧ (decode cX8_disc 47 = .ok (.ifCond .lt 34, 3)) ∧ (decode cX8_disc 50 = .ok (.aload_n 0, 1)) ∧ (decode cX8_disc 51 = .ok (.getfield 19, 3)) ∧ (decode cX8_disc 54 = .ok (.getfield 124, 3)) ∧ (decode cX8_disc 57 = .ok (.iload 4, 2)) ∧ (decode cX8_disc 59 = .ok (.iaload, 1)) ∧ (decode cX8_disc 60 = .ok (.iload_n 1, 1)) := by decide +kernel
theorem dX8_disc_45 : decode cX8_disc 45 = .ok (.iload 4, 2) := dX8_disc_45_g.1
theorem dX8_disc_47 : decode cX8_disc 47 = .ok (.ifCond .lt 34, 3) := dX8_disc_45_g.2.1
theorem dX8_disc_50 : decode cX8_disc 50 = .ok (.aload_n 0, 1) := dX8_disc_45_g.2.2.1
theorem dX8_disc_51 : decode cX8_disc 51 = .ok (.getfield 19, 3) := dX8_disc_45_g.2.2.2.1
theorem dX8_disc_54 : decode cX8_disc 54 = .ok (.getfield 124, 3) := dX8_disc_45_g.2.2.2.2.1
theorem dX8_disc_57 : decode cX8_disc 57 = .ok (.iload 4, 2) := dX8_disc_45_g.2.2.2.2.2.1
theorem dX8_disc_59 : decode cX8_disc 59 = .ok (.iaload, 1) := dX8_disc_45_g.2.2.2.2.2.2.1
theorem dX8_disc_60 : decode cX8_disc 60 = .ok (.iload_n 1, 1) := dX8_disc_45_g.2.2.2.2.2.2.2
theorem dX8_disc_61_g : (decode cX8_disc 61 = .ok (.if_icmp .ne 14, 3)) ∧ (decode cX8_disc 64 = .ok (.iload_n 3, 1)) ∧ (decode cX8_disc 65 = .ok (.iload_n 2, 1)) ∧ (decode cX8_disc 66 = .ok (.if_icmp .ne 6, 3)) ∧ (decode cX8_disc 69 = .ok (.iload 4, 2)) ∧ (decode cX8_disc 71 = .ok (.ireturn, 1)) ∧ (decode cX8_disc 72 = .ok (.iinc 3 1, 3)) ∧ (decode cX8_disc 75 = .ok (.iinc 4 (-1), 3)) := by decide +kernel
theorem dX8_disc_61 : decode cX8_disc 61 = .ok (.if_icmp .ne 14, 3) := dX8_disc_61_g.1
theorem dX8_disc_64 : decode cX8_disc 64 = .ok (.iload_n 3, 1) := dX8_disc_61_g.2.1
theorem dX8_disc_65 : decode cX8_disc 65 = .ok (.iload_n 2, 1) := dX8_disc_61_g.2.2.1
theorem dX8_disc_66 : decode cX8_disc 66 = .ok (.if_icmp .ne 6, 3) := dX8_disc_61_g.2.2.2.1
theorem dX8_disc_69 : decode cX8_disc 69 = .ok (.iload 4, 2) := dX8_disc_61_g.2.2.2.2.1
theorem dX8_disc_71 : decode cX8_disc 71 = .ok (.ireturn, 1) := dX8_disc_61_g.2.2.2.2.2.1
theorem dX8_disc_72 : decode cX8_disc 72 = .ok (.iinc 3 1, 3) := dX8_disc_61_g.2.2.2.2.2.2.1
theorem dX8_disc_75 : decode cX8_disc 75 = .ok (.iinc 4 (-1), 3) := dX8_disc_61_g.2.2.2.2.2.2.2
theorem dX8_disc_78_g : (decode cX8_disc 78 = .ok (.goto (-33), 3)) ∧ (decode cX8_disc 81 = .ok (.iconst (-1), 1)) ∧ (decode cX8_disc 82 = .ok (.ireturn, 1)) := by decide +kernel
theorem dX8_disc_78 : decode cX8_disc 78 = .ok (.goto (-33), 3) := dX8_disc_78_g.1
theorem dX8_disc_81 : decode cX8_disc 81 = .ok (.iconst (-1), 1) := dX8_disc_78_g.2.1
theorem dX8_disc_82 : decode cX8_disc 82 = .ok (.ireturn, 1) := dX8_disc_78_g.2.2
theorem dX8_why_0_g : (decode cX8_why 0 = .ok (.aload_n 0, 1)) ∧ (decode cX8_why 1 = .ok (.getfield 10, 3)) ∧ (decode cX8_why 4 = .ok (.iload_n 1, 1)) ∧ (decode cX8_why 5 = .ok (.invokevirtual 97, 3)) ∧ (decode cX8_why 8 = .ok (.ifCond .eq 14, 3)) ∧ (decode cX8_why 11 = .ok (.aload_n 0, 1)) ∧ (decode cX8_why 12 = .ok (.getfield 10, 3)) ∧ (decode cX8_why 15 = .ok (.iload_n 2, 1)) := by decide +kernel
theorem dX8_why_0 : decode cX8_why 0 = .ok (.aload_n 0, 1) := dX8_why_0_g.1
theorem dX8_why_1 : decode cX8_why 1 = .ok (.getfield 10, 3) := dX8_why_0_g.2.1
theorem dX8_why_4 : decode cX8_why 4 = .ok (.iload_n 1, 1) := dX8_why_0_g.2.2.1
theorem dX8_why_5 : decode cX8_why 5 = .ok (.invokevirtual 97, 3) := dX8_why_0_g.2.2.2.1
theorem dX8_why_8 : decode cX8_why 8 = .ok (.ifCond .eq 14, 3) := dX8_why_0_g.2.2.2.2.1
theorem dX8_why_11 : decode cX8_why 11 = .ok (.aload_n 0, 1) := dX8_why_0_g.2.2.2.2.2.1
theorem dX8_why_12 : decode cX8_why 12 = .ok (.getfield 10, 3) := dX8_why_0_g.2.2.2.2.2.2.1
theorem dX8_why_15 : decode cX8_why 15 = .ok (.iload_n 2, 1) := dX8_why_0_g.2.2.2.2.2.2.2
theorem dX8_why_16_g : (decode cX8_why 16 = .ok (.invokevirtual 97, 3)) ∧ (decode cX8_why 19 = .ok (.ifCond .ne 5, 3)) ∧ (decode cX8_why 22 = .ok (.iconst (-1), 1)) ∧ (decode cX8_why 23 = .ok (.ireturn, 1)) ∧ (decode cX8_why 24 = .ok (.aload_n 0, 1)) ∧ (decode cX8_why 25 = .ok (.getfield 19, 3)) ∧ (decode cX8_why 28 = .ok (.aload_n 0, 1)) ∧ (decode cX8_why 29 = .ok (.getfield 10, 3)) := by decide +kernel
theorem dX8_why_16 : decode cX8_why 16 = .ok (.invokevirtual 97, 3) := dX8_why_16_g.1
theorem dX8_why_19 : decode cX8_why 19 = .ok (.ifCond .ne 5, 3) := dX8_why_16_g.2.1
theorem dX8_why_22 : decode cX8_why 22 = .ok (.iconst (-1), 1) := dX8_why_16_g.2.2.1
theorem dX8_why_23 : decode cX8_why 23 = .ok (.ireturn, 1) := dX8_why_16_g.2.2.2.1
theorem dX8_why_24 : decode cX8_why 24 = .ok (.aload_n 0, 1) := dX8_why_16_g.2.2.2.2.1
theorem dX8_why_25 : decode cX8_why 25 = .ok (.getfield 19, 3) := dX8_why_16_g.2.2.2.2.2.1
theorem dX8_why_28 : decode cX8_why 28 = .ok (.aload_n 0, 1) := dX8_why_16_g.2.2.2.2.2.2.1
theorem dX8_why_29 : decode cX8_why 29 = .ok (.getfield 10, 3) := dX8_why_16_g.2.2.2.2.2.2.2
theorem dX8_why_32_g : (decode cX8_why 32 = .ok (.aload_n 0, 1)) ∧ (decode cX8_why 33 = .ok (.getfield 73, 3)) ∧ (decode cX8_why 36 = .ok (.invokevirtual 120, 3)) ∧ (decode cX8_why 39 = .ok (.aload_n 0, 1)) ∧ (decode cX8_why 40 = .ok (.getfield 19, 3)) ∧ (decode cX8_why 43 = .ok (.aload_n 0, 1)) ∧ (decode cX8_why 44 = .ok (.getfield 10, 3)) ∧ (decode cX8_why 47 = .ok (.iload_n 1, 1)) := by decide +kernel
theorem dX8_why_32 : decode cX8_why 32 = .ok (.aload_n 0, 1) := dX8_why_32_g.1
theorem dX8_why_33 : decode cX8_why 33 = .ok (.getfield 73, 3) := dX8_why_32_g.2.1
theorem dX8_why_36 : decode cX8_why 36 = .ok (.invokevirtual 120, 3) := dX8_why_32_g.2.2.1
theorem dX8_why_39 : decode cX8_why 39 = .ok (.aload_n 0, 1) := dX8_why_32_g.2.2.2.1
theorem dX8_why_40 : decode cX8_why 40 = .ok (.getfield 19, 3) := dX8_why_32_g.2.2.2.2.1
theorem dX8_why_43 : decode cX8_why 43 = .ok (.aload_n 0, 1) := dX8_why_32_g.2.2.2.2.2.1
theorem dX8_why_44 : decode cX8_why 44 = .ok (.getfield 10, 3) := dX8_why_32_g.2.2.2.2.2.2.1
theorem dX8_why_47 : decode cX8_why 47 = .ok (.iload_n 1, 1) := dX8_why_32_g.2.2.2.2.2.2.2
theorem dX8_why_48_g : (decode cX8_why 48 = .ok (.iload_n 2, 1)) ∧ (decode cX8_why 49 = .ok (.invokevirtual 130, 3)) ∧ (decode cX8_why 52 = .ok (.ireturn, 1)) := by decide +kernel
theorem dX8_why_48 : decode cX8_why 48 = .ok (.iload_n 2, 1) := dX8_why_48_g.1
theorem dX8_why_49 : decode cX8_why 49 = .ok (.invokevirtual 130, 3) := dX8_why_48_g.2.1
theorem dX8_why_52 : decode cX8_why 52 = .ok (.ireturn, 1) := dX8_why_48_g.2.2
theorem dX8_move_0_g : (decode cX8_move 0 = .ok (.aload_n 0, 1)) ∧ (decode cX8_move 1 = .ok (.iload_n 1, 1)) ∧ (decode cX8_move 2 = .ok (.iload_n 2, 1)) ∧ (decode cX8_move 3 = .ok (.invokevirtual 134, 3)) ∧ (decode cX8_move 6 = .ok (.istore_n 3, 1)) ∧ (decode cX8_move 7 = .ok (.iload_n 3, 1)) ∧ (decode cX8_move 8 = .ok (.iconst (-1), 1)) ∧ (decode cX8_move 9 = .ok (.if_icmp .ne 9, 3)) := by decide +kernel
theorem dX8_move_0 : decode cX8_move 0 = .ok (.aload_n 0, 1) := dX8_move_0_g.1
theorem dX8_move_1 : decode cX8_move 1 = .ok (.iload_n 1, 1) := dX8_move_0_g.2.1
theorem dX8_move_2 : decode cX8_move 2 = .ok (.iload_n 2, 1) := dX8_move_0_g.2.2.1
theorem dX8_move_3 : decode cX8_move 3 = .ok (.invokevirtual 134, 3) := dX8_move_0_g.2.2.2.1
theorem dX8_move_6 : decode cX8_move 6 = .ok (.istore_n 3, 1) := dX8_move_0_g.2.2.2.2.1
theorem dX8_move_7 : decode cX8_move 7 = .ok (.iload_n 3, 1) := dX8_move_0_g.2.2.2.2.2.1
theorem dX8_move_8 : decode cX8_move 8 = .ok (.iconst (-1), 1) := dX8_move_0_g.2.2.2.2.2.2.1
theorem dX8_move_9 : decode cX8_move 9 = .ok (.if_icmp .ne 9, 3) := dX8_move_0_g.2.2.2.2.2.2.2
theorem dX8_move_12_g : (decode cX8_move 12 = .ok (.aload_n 0, 1)) ∧ (decode cX8_move 13 = .ok (.iconst 1, 1)) ∧ (decode cX8_move 14 = .ok (.invokevirtual 138, 3)) ∧ (decode cX8_move 17 = .ok (.ireturn, 1)) ∧ (decode cX8_move 18 = .ok (.iload_n 3, 1)) ∧ (decode cX8_move 19 = .ok (.ifCond .eq 9, 3)) ∧ (decode cX8_move 22 = .ok (.aload_n 0, 1)) ∧ (decode cX8_move 23 = .ok (.iconst 4, 1)) := by decide +kernel
theorem dX8_move_12 : decode cX8_move 12 = .ok (.aload_n 0, 1) := dX8_move_12_g.1
theorem dX8_move_13 : decode cX8_move 13 = .ok (.iconst 1, 1) := dX8_move_12_g.2.1
theorem dX8_move_14 : decode cX8_move 14 = .ok (.invokevirtual 138, 3) := dX8_move_12_g.2.2.1
theorem dX8_move_17 : decode cX8_move 17 = .ok (.ireturn, 1) := dX8_move_12_g.2.2.2.1
theorem dX8_move_18 : decode cX8_move 18 = .ok (.iload_n 3, 1) := dX8_move_12_g.2.2.2.2.1
theorem dX8_move_19 : decode cX8_move 19 = .ok (.ifCond .eq 9, 3) := dX8_move_12_g.2.2.2.2.2.1
theorem dX8_move_22 : decode cX8_move 22 = .ok (.aload_n 0, 1) := dX8_move_12_g.2.2.2.2.2.2.1
theorem dX8_move_23 : decode cX8_move 23 = .ok (.iconst 4, 1) := dX8_move_12_g.2.2.2.2.2.2.2
theorem dX8_move_24_g : (decode cX8_move 24 = .ok (.invokevirtual 138, 3)) ∧ (decode cX8_move 27 = .ok (.ireturn, 1)) ∧ (decode cX8_move 28 = .ok (.aload_n 0, 1)) ∧ (decode cX8_move 29 = .ok (.getfield 26, 3)) ∧ (decode cX8_move 32 = .ok (.aload_n 0, 1)) ∧ (decode cX8_move 33 = .ok (.getfield 73, 3)) ∧ (decode cX8_move 36 = .ok (.invokevirtual 142, 3)) ∧ (decode cX8_move 39 = .ok (.aload_n 0, 1)) := by decide +kernel
theorem dX8_move_24 : decode cX8_move 24 = .ok (.invokevirtual 138, 3) := dX8_move_24_g.1
theorem dX8_move_27 : decode cX8_move 27 = .ok (.ireturn, 1) := dX8_move_24_g.2.1
theorem dX8_move_28 : decode cX8_move 28 = .ok (.aload_n 0, 1) := dX8_move_24_g.2.2.1
theorem dX8_move_29 : decode cX8_move 29 = .ok (.getfield 26, 3) := dX8_move_24_g.2.2.2.1
theorem dX8_move_32 : decode cX8_move 32 = .ok (.aload_n 0, 1) := dX8_move_24_g.2.2.2.2.1
theorem dX8_move_33 : decode cX8_move 33 = .ok (.getfield 73, 3) := dX8_move_24_g.2.2.2.2.2.1
theorem dX8_move_36 : decode cX8_move 36 = .ok (.invokevirtual 142, 3) := dX8_move_24_g.2.2.2.2.2.2.1
theorem dX8_move_39 : decode cX8_move 39 = .ok (.aload_n 0, 1) := dX8_move_24_g.2.2.2.2.2.2.2
theorem dX8_move_40_g : (decode cX8_move 40 = .ok (.aload_n 0, 1)) ∧ (decode cX8_move 41 = .ok (.getfield 19, 3)) ∧ (decode cX8_move 44 = .ok (.iload_n 1, 1)) ∧ (decode cX8_move 45 = .ok (.iload_n 2, 1)) ∧ (decode cX8_move 46 = .ok (.invokevirtual 146, 3)) ∧ (decode cX8_move 49 = .ok (.putfield 73, 3)) ∧ (decode cX8_move 52 = .ok (.aload_n 0, 1)) ∧ (decode cX8_move 53 = .ok (.iconst 0, 1)) := by decide +kernel
theorem dX8_move_40 : decode cX8_move 40 = .ok (.aload_n 0, 1) := dX8_move_40_g.1
theorem dX8_move_41 : decode cX8_move 41 = .ok (.getfield 19, 3) := dX8_move_40_g.2.1
theorem dX8_move_44 : decode cX8_move 44 = .ok (.iload_n 1, 1) := dX8_move_40_g.2.2.1
theorem dX8_move_45 : decode cX8_move 45 = .ok (.iload_n 2, 1) := dX8_move_40_g.2.2.2.1
theorem dX8_move_46 : decode cX8_move 46 = .ok (.invokevirtual 146, 3) := dX8_move_40_g.2.2.2.2.1
theorem dX8_move_49 : decode cX8_move 49 = .ok (.putfield 73, 3) := dX8_move_40_g.2.2.2.2.2.1
theorem dX8_move_52 : decode cX8_move 52 = .ok (.aload_n 0, 1) := dX8_move_40_g.2.2.2.2.2.2.1
theorem dX8_move_53 : decode cX8_move 53 = .ok (.iconst 0, 1) := dX8_move_40_g.2.2.2.2.2.2.2
theorem dX8_move_54_g : (decode cX8_move 54 = .ok (.putfield 149, 3)) ∧ (decode cX8_move 57 = .ok (.aload_n 0, 1)) ∧ (decode cX8_move 58 = .ok (.getfield 19, 3)) ∧ (decode cX8_move 61 = .ok (.iload_n 1, 1)) ∧ (decode cX8_move 62 = .ok (.invokevirtual 152, 3)) ∧ (decode cX8_move 65 = .ok (.ireturn, 1)) := by decide +kernel
theorem dX8_move_54 : decode cX8_move 54 = .ok (.putfield 149, 3) := dX8_move_54_g.1
theorem dX8_move_57 : decode cX8_move 57 = .ok (.aload_n 0, 1) := dX8_move_54_g.2.1
theorem dX8_move_58 : decode cX8_move 58 = .ok (.getfield 19, 3) := dX8_move_54_g.2.2.1
theorem dX8_move_61 : decode cX8_move 61 = .ok (.iload_n 1, 1) := dX8_move_54_g.2.2.2.1
theorem dX8_move_62 : decode cX8_move 62 = .ok (.invokevirtual 152, 3) := dX8_move_54_g.2.2.2.2.1
theorem dX8_move_65 : decode cX8_move 65 = .ok (.ireturn, 1) := dX8_move_54_g.2.2.2.2.2
theorem dX8_undo_0_g : (decode cX8_undo 0 = .ok (.aload_n 0, 1)) ∧ (decode cX8_undo 1 = .ok (.getfield 26, 3)) ∧ (decode cX8_undo 4 = .ok (.getfield 155, 3)) ∧ (decode cX8_undo 7 = .ok (.ifCond .ne 5, 3)) ∧ (decode cX8_undo 10 = .ok (.iconst 0, 1)) ∧ (decode cX8_undo 11 = .ok (.ireturn, 1)) ∧ (decode cX8_undo 12 = .ok (.aload_n 0, 1)) ∧ (decode cX8_undo 13 = .ok (.aload_n 0, 1)) := by decide +kernel
theorem dX8_undo_0 : decode cX8_undo 0 = .ok (.aload_n 0, 1) := dX8_undo_0_g.1
theorem dX8_undo_1 : decode cX8_undo 1 = .ok (.getfield 26, 3) := dX8_undo_0_g.2.1
theorem dX8_undo_4 : decode cX8_undo 4 = .ok (.getfield 155, 3) := dX8_undo_0_g.2.2.1
theorem dX8_undo_7 : decode cX8_undo 7 = .ok (.ifCond .ne 5, 3) := dX8_undo_0_g.2.2.2.1
theorem dX8_undo_10 : decode cX8_undo 10 = .ok (.iconst 0, 1) := dX8_undo_0_g.2.2.2.2.1
theorem dX8_undo_11 : decode cX8_undo 11 = .ok (.ireturn, 1) := dX8_undo_0_g.2.2.2.2.2.1
theorem dX8_undo_12 : decode cX8_undo 12 = .ok (.aload_n 0, 1) := dX8_undo_0_g.2.2.2.2.2.2.1
theorem dX8_undo_13 : decode cX8_undo 13 = .ok (.aload_n 0, 1) := dX8_undo_0_g.2.2.2.2.2.2.2
theorem dX8_undo_14_g : (decode cX8_undo 14 = .ok (.getfield 26, 3)) ∧ (decode cX8_undo 17 = .ok (.aload_n 0, 1)) ∧ (decode cX8_undo 18 = .ok (.getfield 73, 3)) ∧ (decode cX8_undo 21 = .ok (.invokevirtual 158, 3)) ∧ (decode cX8_undo 24 = .ok (.putfield 73, 3)) ∧ (decode cX8_undo 27 = .ok (.iconst 1, 1)) ∧ (decode cX8_undo 28 = .ok (.ireturn, 1)) := by decide +kernel
theorem dX8_undo_14 : decode cX8_undo 14 = .ok (.getfield 26, 3) := dX8_undo_14_g.1
theorem dX8_undo_17 : decode cX8_undo 17 = .ok (.aload_n 0, 1) := dX8_undo_14_g.2.1
theorem dX8_undo_18 : decode cX8_undo 18 = .ok (.getfield 73, 3) := dX8_undo_14_g.2.2.1
theorem dX8_undo_21 : decode cX8_undo 21 = .ok (.invokevirtual 158, 3) := dX8_undo_14_g.2.2.2.1
theorem dX8_undo_24 : decode cX8_undo 24 = .ok (.putfield 73, 3) := dX8_undo_14_g.2.2.2.2.1
theorem dX8_undo_27 : decode cX8_undo 27 = .ok (.iconst 1, 1) := dX8_undo_14_g.2.2.2.2.2.1
theorem dX8_undo_28 : decode cX8_undo 28 = .ok (.ireturn, 1) := dX8_undo_14_g.2.2.2.2.2.2
theorem dX8_redo_0_g : (decode cX8_redo 0 = .ok (.aload_n 0, 1)) ∧ (decode cX8_redo 1 = .ok (.getfield 26, 3)) ∧ (decode cX8_redo 4 = .ok (.getfield 161, 3)) ∧ (decode cX8_redo 7 = .ok (.ifCond .ne 5, 3)) ∧ (decode cX8_redo 10 = .ok (.iconst 0, 1)) ∧ (decode cX8_redo 11 = .ok (.ireturn, 1)) ∧ (decode cX8_redo 12 = .ok (.aload_n 0, 1)) ∧ (decode cX8_redo 13 = .ok (.aload_n 0, 1)) := by decide +kernel
theorem dX8_redo_0 : decode cX8_redo 0 = .ok (.aload_n 0, 1) := dX8_redo_0_g.1
theorem dX8_redo_1 : decode cX8_redo 1 = .ok (.getfield 26, 3) := dX8_redo_0_g.2.1
theorem dX8_redo_4 : decode cX8_redo 4 = .ok (.getfield 161, 3) := dX8_redo_0_g.2.2.1
theorem dX8_redo_7 : decode cX8_redo 7 = .ok (.ifCond .ne 5, 3) := dX8_redo_0_g.2.2.2.1
theorem dX8_redo_10 : decode cX8_redo 10 = .ok (.iconst 0, 1) := dX8_redo_0_g.2.2.2.2.1
theorem dX8_redo_11 : decode cX8_redo 11 = .ok (.ireturn, 1) := dX8_redo_0_g.2.2.2.2.2.1
theorem dX8_redo_12 : decode cX8_redo 12 = .ok (.aload_n 0, 1) := dX8_redo_0_g.2.2.2.2.2.2.1
theorem dX8_redo_13 : decode cX8_redo 13 = .ok (.aload_n 0, 1) := dX8_redo_0_g.2.2.2.2.2.2.2
theorem dX8_redo_14_g : (decode cX8_redo 14 = .ok (.getfield 26, 3)) ∧ (decode cX8_redo 17 = .ok (.aload_n 0, 1)) ∧ (decode cX8_redo 18 = .ok (.getfield 73, 3)) ∧ (decode cX8_redo 21 = .ok (.invokevirtual 164, 3)) ∧ (decode cX8_redo 24 = .ok (.putfield 73, 3)) ∧ (decode cX8_redo 27 = .ok (.iconst 1, 1)) ∧ (decode cX8_redo 28 = .ok (.ireturn, 1)) := by decide +kernel
theorem dX8_redo_14 : decode cX8_redo 14 = .ok (.getfield 26, 3) := dX8_redo_14_g.1
theorem dX8_redo_17 : decode cX8_redo 17 = .ok (.aload_n 0, 1) := dX8_redo_14_g.2.1
theorem dX8_redo_18 : decode cX8_redo 18 = .ok (.getfield 73, 3) := dX8_redo_14_g.2.2.1
theorem dX8_redo_21 : decode cX8_redo 21 = .ok (.invokevirtual 164, 3) := dX8_redo_14_g.2.2.2.1
theorem dX8_redo_24 : decode cX8_redo 24 = .ok (.putfield 73, 3) := dX8_redo_14_g.2.2.2.2.1
theorem dX8_redo_27 : decode cX8_redo 27 = .ok (.iconst 1, 1) := dX8_redo_14_g.2.2.2.2.2.1
theorem dX8_redo_28 : decode cX8_redo 28 = .ok (.ireturn, 1) := dX8_redo_14_g.2.2.2.2.2.2
theorem dX8_moves_0_g : (decode cX8_moves 0 = .ok (.aload_n 0, 1)) ∧ (decode cX8_moves 1 = .ok (.getfield 19, 3)) ∧ (decode cX8_moves 4 = .ok (.aload_n 0, 1)) ∧ (decode cX8_moves 5 = .ok (.getfield 10, 3)) ∧ (decode cX8_moves 8 = .ok (.aload_n 0, 1)) ∧ (decode cX8_moves 9 = .ok (.getfield 73, 3)) ∧ (decode cX8_moves 12 = .ok (.invokevirtual 120, 3)) ∧ (decode cX8_moves 15 = .ok (.aload_n 0, 1)) := by decide +kernel
theorem dX8_moves_0 : decode cX8_moves 0 = .ok (.aload_n 0, 1) := dX8_moves_0_g.1
theorem dX8_moves_1 : decode cX8_moves 1 = .ok (.getfield 19, 3) := dX8_moves_0_g.2.1
theorem dX8_moves_4 : decode cX8_moves 4 = .ok (.aload_n 0, 1) := dX8_moves_0_g.2.2.1
theorem dX8_moves_5 : decode cX8_moves 5 = .ok (.getfield 10, 3) := dX8_moves_0_g.2.2.2.1
theorem dX8_moves_8 : decode cX8_moves 8 = .ok (.aload_n 0, 1) := dX8_moves_0_g.2.2.2.2.1
theorem dX8_moves_9 : decode cX8_moves 9 = .ok (.getfield 73, 3) := dX8_moves_0_g.2.2.2.2.2.1
theorem dX8_moves_12 : decode cX8_moves 12 = .ok (.invokevirtual 120, 3) := dX8_moves_0_g.2.2.2.2.2.2.1
theorem dX8_moves_15 : decode cX8_moves 15 = .ok (.aload_n 0, 1) := dX8_moves_0_g.2.2.2.2.2.2.2
theorem dX8_moves_16_g : (decode cX8_moves 16 = .ok (.getfield 19, 3)) ∧ (decode cX8_moves 19 = .ok (.aload_n 0, 1)) ∧ (decode cX8_moves 20 = .ok (.getfield 10, 3)) ∧ (decode cX8_moves 23 = .ok (.invokevirtual 167, 3)) ∧ (decode cX8_moves 26 = .ok (.aload_n 0, 1)) ∧ (decode cX8_moves 27 = .ok (.getfield 19, 3)) ∧ (decode cX8_moves 30 = .ok (.getfield 171, 3)) ∧ (decode cX8_moves 33 = .ok (.ireturn, 1)) := by decide +kernel
theorem dX8_moves_16 : decode cX8_moves 16 = .ok (.getfield 19, 3) := dX8_moves_16_g.1
theorem dX8_moves_19 : decode cX8_moves 19 = .ok (.aload_n 0, 1) := dX8_moves_16_g.2.1
theorem dX8_moves_20 : decode cX8_moves 20 = .ok (.getfield 10, 3) := dX8_moves_16_g.2.2.1
theorem dX8_moves_23 : decode cX8_moves 23 = .ok (.invokevirtual 167, 3) := dX8_moves_16_g.2.2.2.1
theorem dX8_moves_26 : decode cX8_moves 26 = .ok (.aload_n 0, 1) := dX8_moves_16_g.2.2.2.2.1
theorem dX8_moves_27 : decode cX8_moves 27 = .ok (.getfield 19, 3) := dX8_moves_16_g.2.2.2.2.2.1
theorem dX8_moves_30 : decode cX8_moves 30 = .ok (.getfield 171, 3) := dX8_moves_16_g.2.2.2.2.2.2.1
theorem dX8_moves_33 : decode cX8_moves 33 = .ok (.ireturn, 1) := dX8_moves_16_g.2.2.2.2.2.2.2
theorem dX8_fewest_0_g : (decode cX8_fewest 0 = .ok (.aload_n 0, 1)) ∧ (decode cX8_fewest 1 = .ok (.invokevirtual 174, 3)) ∧ (decode cX8_fewest 4 = .ok (.ifCond .ne 5, 3)) ∧ (decode cX8_fewest 7 = .ok (.iconst (-1), 1)) ∧ (decode cX8_fewest 8 = .ok (.ireturn, 1)) ∧ (decode cX8_fewest 9 = .ok (.aload_n 0, 1)) ∧ (decode cX8_fewest 10 = .ok (.getfield 40, 3)) ∧ (decode cX8_fewest 13 = .ok (.aload_n 0, 1)) := by decide +kernel
theorem dX8_fewest_0 : decode cX8_fewest 0 = .ok (.aload_n 0, 1) := dX8_fewest_0_g.1
theorem dX8_fewest_1 : decode cX8_fewest 1 = .ok (.invokevirtual 174, 3) := dX8_fewest_0_g.2.1
theorem dX8_fewest_4 : decode cX8_fewest 4 = .ok (.ifCond .ne 5, 3) := dX8_fewest_0_g.2.2.1
theorem dX8_fewest_7 : decode cX8_fewest 7 = .ok (.iconst (-1), 1) := dX8_fewest_0_g.2.2.2.1
theorem dX8_fewest_8 : decode cX8_fewest 8 = .ok (.ireturn, 1) := dX8_fewest_0_g.2.2.2.2.1
theorem dX8_fewest_9 : decode cX8_fewest 9 = .ok (.aload_n 0, 1) := dX8_fewest_0_g.2.2.2.2.2.1
theorem dX8_fewest_10 : decode cX8_fewest 10 = .ok (.getfield 40, 3) := dX8_fewest_0_g.2.2.2.2.2.2.1
theorem dX8_fewest_13 : decode cX8_fewest 13 = .ok (.aload_n 0, 1) := dX8_fewest_0_g.2.2.2.2.2.2.2
theorem dX8_fewest_14_g : (decode cX8_fewest 14 = .ok (.getfield 77, 3)) ∧ (decode cX8_fewest 17 = .ok (.invokevirtual 177, 3)) ∧ (decode cX8_fewest 20 = .ok (.istore_n 1, 1)) ∧ (decode cX8_fewest 21 = .ok (.iload_n 1, 1)) ∧ (decode cX8_fewest 22 = .ok (.iconst (-1), 1)) ∧ (decode cX8_fewest 23 = .ok (.if_icmp .ne 8, 3)) ∧ (decode cX8_fewest 26 = .ok (.bipush (-2), 2)) ∧ (decode cX8_fewest 28 = .ok (.goto 4, 3)) := by decide +kernel
theorem dX8_fewest_14 : decode cX8_fewest 14 = .ok (.getfield 77, 3) := dX8_fewest_14_g.1
theorem dX8_fewest_17 : decode cX8_fewest 17 = .ok (.invokevirtual 177, 3) := dX8_fewest_14_g.2.1
theorem dX8_fewest_20 : decode cX8_fewest 20 = .ok (.istore_n 1, 1) := dX8_fewest_14_g.2.2.1
theorem dX8_fewest_21 : decode cX8_fewest 21 = .ok (.iload_n 1, 1) := dX8_fewest_14_g.2.2.2.1
theorem dX8_fewest_22 : decode cX8_fewest 22 = .ok (.iconst (-1), 1) := dX8_fewest_14_g.2.2.2.2.1
theorem dX8_fewest_23 : decode cX8_fewest 23 = .ok (.if_icmp .ne 8, 3) := dX8_fewest_14_g.2.2.2.2.2.1
theorem dX8_fewest_26 : decode cX8_fewest 26 = .ok (.bipush (-2), 2) := dX8_fewest_14_g.2.2.2.2.2.2.1
theorem dX8_fewest_28 : decode cX8_fewest 28 = .ok (.goto 4, 3) := dX8_fewest_14_g.2.2.2.2.2.2.2
theorem dX8_fewest_31_g : (decode cX8_fewest 31 = .ok (.iload_n 1, 1)) ∧ (decode cX8_fewest 32 = .ok (.ireturn, 1)) := by decide +kernel
theorem dX8_fewest_31 : decode cX8_fewest 31 = .ok (.iload_n 1, 1) := dX8_fewest_31_g.1
theorem dX8_fewest_32 : decode cX8_fewest 32 = .ok (.ireturn, 1) := dX8_fewest_31_g.2
theorem dX8_plan_0_g : (decode cX8_plan 0 = .ok (.aload_n 0, 1)) ∧ (decode cX8_plan 1 = .ok (.invokevirtual 174, 3)) ∧ (decode cX8_plan 4 = .ok (.ifCond .ne 5, 3)) ∧ (decode cX8_plan 7 = .ok (.iconst (-1), 1)) ∧ (decode cX8_plan 8 = .ok (.ireturn, 1)) ∧ (decode cX8_plan 9 = .ok (.aload_n 0, 1)) ∧ (decode cX8_plan 10 = .ok (.getfield 40, 3)) ∧ (decode cX8_plan 13 = .ok (.aload_n 0, 1)) := by decide +kernel
theorem dX8_plan_0 : decode cX8_plan 0 = .ok (.aload_n 0, 1) := dX8_plan_0_g.1
theorem dX8_plan_1 : decode cX8_plan 1 = .ok (.invokevirtual 174, 3) := dX8_plan_0_g.2.1
theorem dX8_plan_4 : decode cX8_plan 4 = .ok (.ifCond .ne 5, 3) := dX8_plan_0_g.2.2.1
theorem dX8_plan_7 : decode cX8_plan 7 = .ok (.iconst (-1), 1) := dX8_plan_0_g.2.2.2.1
theorem dX8_plan_8 : decode cX8_plan 8 = .ok (.ireturn, 1) := dX8_plan_0_g.2.2.2.2.1
theorem dX8_plan_9 : decode cX8_plan 9 = .ok (.aload_n 0, 1) := dX8_plan_0_g.2.2.2.2.2.1
theorem dX8_plan_10 : decode cX8_plan 10 = .ok (.getfield 40, 3) := dX8_plan_0_g.2.2.2.2.2.2.1
theorem dX8_plan_13 : decode cX8_plan 13 = .ok (.aload_n 0, 1) := dX8_plan_0_g.2.2.2.2.2.2.2
theorem dX8_plan_14_g : (decode cX8_plan 14 = .ok (.getfield 77, 3)) ∧ (decode cX8_plan 17 = .ok (.invokevirtual 177, 3)) ∧ (decode cX8_plan 20 = .ok (.iconst (-1), 1)) ∧ (decode cX8_plan 21 = .ok (.if_icmp .ne 6, 3)) ∧ (decode cX8_plan 24 = .ok (.bipush (-2), 2)) ∧ (decode cX8_plan 26 = .ok (.ireturn, 1)) ∧ (decode cX8_plan 27 = .ok (.aload_n 0, 1)) ∧ (decode cX8_plan 28 = .ok (.getfield 40, 3)) := by decide +kernel
theorem dX8_plan_14 : decode cX8_plan 14 = .ok (.getfield 77, 3) := dX8_plan_14_g.1
theorem dX8_plan_17 : decode cX8_plan 17 = .ok (.invokevirtual 177, 3) := dX8_plan_14_g.2.1
theorem dX8_plan_20 : decode cX8_plan 20 = .ok (.iconst (-1), 1) := dX8_plan_14_g.2.2.1
theorem dX8_plan_21 : decode cX8_plan 21 = .ok (.if_icmp .ne 6, 3) := dX8_plan_14_g.2.2.2.1
theorem dX8_plan_24 : decode cX8_plan 24 = .ok (.bipush (-2), 2) := dX8_plan_14_g.2.2.2.2.1
theorem dX8_plan_26 : decode cX8_plan 26 = .ok (.ireturn, 1) := dX8_plan_14_g.2.2.2.2.2.1
theorem dX8_plan_27 : decode cX8_plan 27 = .ok (.aload_n 0, 1) := dX8_plan_14_g.2.2.2.2.2.2.1
theorem dX8_plan_28 : decode cX8_plan 28 = .ok (.getfield 40, 3) := dX8_plan_14_g.2.2.2.2.2.2.2
theorem dX8_plan_31_g : (decode cX8_plan 31 = .ok (.aload_n 0, 1)) ∧ (decode cX8_plan 32 = .ok (.getfield 10, 3)) ∧ (decode cX8_plan 35 = .ok (.aload_n 0, 1)) ∧ (decode cX8_plan 36 = .ok (.getfield 19, 3)) ∧ (decode cX8_plan 39 = .ok (.aload_n 0, 1)) ∧ (decode cX8_plan 40 = .ok (.getfield 77, 3)) ∧ (decode cX8_plan 43 = .ok (.aload_n 0, 1)) ∧ (decode cX8_plan 44 = .ok (.getfield 33, 3)) := by decide +kernel
theorem dX8_plan_31 : decode cX8_plan 31 = .ok (.aload_n 0, 1) := dX8_plan_31_g.1
theorem dX8_plan_32 : decode cX8_plan 32 = .ok (.getfield 10, 3) := dX8_plan_31_g.2.1
theorem dX8_plan_35 : decode cX8_plan 35 = .ok (.aload_n 0, 1) := dX8_plan_31_g.2.2.1
theorem dX8_plan_36 : decode cX8_plan 36 = .ok (.getfield 19, 3) := dX8_plan_31_g.2.2.2.1
theorem dX8_plan_39 : decode cX8_plan 39 = .ok (.aload_n 0, 1) := dX8_plan_31_g.2.2.2.2.1
theorem dX8_plan_40 : decode cX8_plan 40 = .ok (.getfield 77, 3) := dX8_plan_31_g.2.2.2.2.2.1
theorem dX8_plan_43 : decode cX8_plan 43 = .ok (.aload_n 0, 1) := dX8_plan_31_g.2.2.2.2.2.2.1
theorem dX8_plan_44 : decode cX8_plan 44 = .ok (.getfield 33, 3) := dX8_plan_31_g.2.2.2.2.2.2.2
theorem dX8_plan_47_g : (decode cX8_plan 47 = .ok (.invokevirtual 180, 3)) ∧ (decode cX8_plan 50 = .ok (.aload_n 0, 1)) ∧ (decode cX8_plan 51 = .ok (.getfield 33, 3)) ∧ (decode cX8_plan 54 = .ok (.getfield 184, 3)) ∧ (decode cX8_plan 57 = .ok (.ireturn, 1)) := by decide +kernel
theorem dX8_plan_47 : decode cX8_plan 47 = .ok (.invokevirtual 180, 3) := dX8_plan_47_g.1
theorem dX8_plan_50 : decode cX8_plan 50 = .ok (.aload_n 0, 1) := dX8_plan_47_g.2.1
theorem dX8_plan_51 : decode cX8_plan 51 = .ok (.getfield 33, 3) := dX8_plan_47_g.2.2.1
theorem dX8_plan_54 : decode cX8_plan 54 = .ok (.getfield 184, 3) := dX8_plan_47_g.2.2.2.1
theorem dX8_plan_57 : decode cX8_plan 57 = .ok (.ireturn, 1) := dX8_plan_47_g.2.2.2.2
theorem dX8_planned_0_g : (decode cX8_planned 0 = .ok (.iload_n 1, 1)) ∧ (decode cX8_planned 1 = .ok (.ifCond .lt 14, 3)) ∧ (decode cX8_planned 4 = .ok (.iload_n 1, 1)) ∧ (decode cX8_planned 5 = .ok (.aload_n 0, 1)) ∧ (decode cX8_planned 6 = .ok (.getfield 33, 3)) ∧ (decode cX8_planned 9 = .ok (.getfield 184, 3)) ∧ (decode cX8_planned 12 = .ok (.if_icmp .lt 5, 3)) ∧ (decode cX8_planned 15 = .ok (.iconst (-1), 1)) := by decide +kernel
theorem dX8_planned_0 : decode cX8_planned 0 = .ok (.iload_n 1, 1) := dX8_planned_0_g.1
theorem dX8_planned_1 : decode cX8_planned 1 = .ok (.ifCond .lt 14, 3) := dX8_planned_0_g.2.1
theorem dX8_planned_4 : decode cX8_planned 4 = .ok (.iload_n 1, 1) := dX8_planned_0_g.2.2.1
theorem dX8_planned_5 : decode cX8_planned 5 = .ok (.aload_n 0, 1) := dX8_planned_0_g.2.2.2.1
theorem dX8_planned_6 : decode cX8_planned 6 = .ok (.getfield 33, 3) := dX8_planned_0_g.2.2.2.2.1
theorem dX8_planned_9 : decode cX8_planned 9 = .ok (.getfield 184, 3) := dX8_planned_0_g.2.2.2.2.2.1
theorem dX8_planned_12 : decode cX8_planned 12 = .ok (.if_icmp .lt 5, 3) := dX8_planned_0_g.2.2.2.2.2.2.1
theorem dX8_planned_15 : decode cX8_planned 15 = .ok (.iconst (-1), 1) := dX8_planned_0_g.2.2.2.2.2.2.2
theorem dX8_planned_16_g : (decode cX8_planned 16 = .ok (.ireturn, 1)) ∧ (decode cX8_planned 17 = .ok (.aload_n 0, 1)) ∧ (decode cX8_planned 18 = .ok (.getfield 33, 3)) ∧ (decode cX8_planned 21 = .ok (.getfield 187, 3)) ∧ (decode cX8_planned 24 = .ok (.iload_n 1, 1)) ∧ (decode cX8_planned 25 = .ok (.iaload, 1)) ∧ (decode cX8_planned 26 = .ok (.ireturn, 1)) := by decide +kernel
theorem dX8_planned_16 : decode cX8_planned 16 = .ok (.ireturn, 1) := dX8_planned_16_g.1
theorem dX8_planned_17 : decode cX8_planned 17 = .ok (.aload_n 0, 1) := dX8_planned_16_g.2.1
theorem dX8_planned_18 : decode cX8_planned 18 = .ok (.getfield 33, 3) := dX8_planned_16_g.2.2.1
theorem dX8_planned_21 : decode cX8_planned 21 = .ok (.getfield 187, 3) := dX8_planned_16_g.2.2.2.1
theorem dX8_planned_24 : decode cX8_planned 24 = .ok (.iload_n 1, 1) := dX8_planned_16_g.2.2.2.2.1
theorem dX8_planned_25 : decode cX8_planned 25 = .ok (.iaload, 1) := dX8_planned_16_g.2.2.2.2.2.1
theorem dX8_planned_26 : decode cX8_planned 26 = .ok (.ireturn, 1) := dX8_planned_16_g.2.2.2.2.2.2
theorem dX8_ways_0_g : (decode cX8_ways 0 = .ok (.aload_n 0, 1)) ∧ (decode cX8_ways 1 = .ok (.invokevirtual 174, 3)) ∧ (decode cX8_ways 4 = .ok (.ifCond .ne 7, 3)) ∧ (decode cX8_ways 7 = .ok (.ldc2_w 190, 3)) ∧ (decode cX8_ways 10 = .ok (.lreturn, 1)) ∧ (decode cX8_ways 11 = .ok (.aload_n 0, 1)) ∧ (decode cX8_ways 12 = .ok (.getfield 40, 3)) ∧ (decode cX8_ways 15 = .ok (.aload_n 0, 1)) := by decide +kernel
theorem dX8_ways_0 : decode cX8_ways 0 = .ok (.aload_n 0, 1) := dX8_ways_0_g.1
theorem dX8_ways_1 : decode cX8_ways 1 = .ok (.invokevirtual 174, 3) := dX8_ways_0_g.2.1
theorem dX8_ways_4 : decode cX8_ways 4 = .ok (.ifCond .ne 7, 3) := dX8_ways_0_g.2.2.1
theorem dX8_ways_7 : decode cX8_ways 7 = .ok (.ldc2_w 190, 3) := dX8_ways_0_g.2.2.2.1
theorem dX8_ways_10 : decode cX8_ways 10 = .ok (.lreturn, 1) := dX8_ways_0_g.2.2.2.2.1
theorem dX8_ways_11 : decode cX8_ways 11 = .ok (.aload_n 0, 1) := dX8_ways_0_g.2.2.2.2.2.1
theorem dX8_ways_12 : decode cX8_ways 12 = .ok (.getfield 40, 3) := dX8_ways_0_g.2.2.2.2.2.2.1
theorem dX8_ways_15 : decode cX8_ways 15 = .ok (.aload_n 0, 1) := dX8_ways_0_g.2.2.2.2.2.2.2
theorem dX8_ways_16_g : (decode cX8_ways 16 = .ok (.getfield 77, 3)) ∧ (decode cX8_ways 19 = .ok (.invokevirtual 192, 3)) ∧ (decode cX8_ways 22 = .ok (.lreturn, 1)) := by decide +kernel
theorem dX8_ways_16 : decode cX8_ways 16 = .ok (.getfield 77, 3) := dX8_ways_16_g.1
theorem dX8_ways_19 : decode cX8_ways 19 = .ok (.invokevirtual 192, 3) := dX8_ways_16_g.2.1
theorem dX8_ways_22 : decode cX8_ways 22 = .ok (.lreturn, 1) := dX8_ways_16_g.2.2
theorem dX8_reach_0_g : (decode cX8_reach 0 = .ok (.aload_n 0, 1)) ∧ (decode cX8_reach 1 = .ok (.invokevirtual 174, 3)) ∧ (decode cX8_reach 4 = .ok (.ifCond .eq 13, 3)) ∧ (decode cX8_reach 7 = .ok (.aload_n 0, 1)) ∧ (decode cX8_reach 8 = .ok (.getfield 40, 3)) ∧ (decode cX8_reach 11 = .ok (.getfield 196, 3)) ∧ (decode cX8_reach 14 = .ok (.goto 4, 3)) ∧ (decode cX8_reach 17 = .ok (.iconst (-1), 1)) := by decide +kernel
theorem dX8_reach_0 : decode cX8_reach 0 = .ok (.aload_n 0, 1) := dX8_reach_0_g.1
theorem dX8_reach_1 : decode cX8_reach 1 = .ok (.invokevirtual 174, 3) := dX8_reach_0_g.2.1
theorem dX8_reach_4 : decode cX8_reach 4 = .ok (.ifCond .eq 13, 3) := dX8_reach_0_g.2.2.1
theorem dX8_reach_7 : decode cX8_reach 7 = .ok (.aload_n 0, 1) := dX8_reach_0_g.2.2.2.1
theorem dX8_reach_8 : decode cX8_reach 8 = .ok (.getfield 40, 3) := dX8_reach_0_g.2.2.2.2.1
theorem dX8_reach_11 : decode cX8_reach 11 = .ok (.getfield 196, 3) := dX8_reach_0_g.2.2.2.2.2.1
theorem dX8_reach_14 : decode cX8_reach 14 = .ok (.goto 4, 3) := dX8_reach_0_g.2.2.2.2.2.2.1
theorem dX8_reach_17 : decode cX8_reach 17 = .ok (.iconst (-1), 1) := dX8_reach_0_g.2.2.2.2.2.2.2
theorem dX8_reach_18 : decode cX8_reach 18 = .ok (.ireturn, 1) := by decide +kernel
theorem dX8_far_0_g : (decode cX8_far 0 = .ok (.aload_n 0, 1)) ∧ (decode cX8_far 1 = .ok (.invokevirtual 174, 3)) ∧ (decode cX8_far 4 = .ok (.ifCond .eq 13, 3)) ∧ (decode cX8_far 7 = .ok (.aload_n 0, 1)) ∧ (decode cX8_far 8 = .ok (.getfield 40, 3)) ∧ (decode cX8_far 11 = .ok (.invokevirtual 199, 3)) ∧ (decode cX8_far 14 = .ok (.goto 4, 3)) ∧ (decode cX8_far 17 = .ok (.iconst (-1), 1)) := by decide +kernel
theorem dX8_far_0 : decode cX8_far 0 = .ok (.aload_n 0, 1) := dX8_far_0_g.1
theorem dX8_far_1 : decode cX8_far 1 = .ok (.invokevirtual 174, 3) := dX8_far_0_g.2.1
theorem dX8_far_4 : decode cX8_far 4 = .ok (.ifCond .eq 13, 3) := dX8_far_0_g.2.2.1
theorem dX8_far_7 : decode cX8_far 7 = .ok (.aload_n 0, 1) := dX8_far_0_g.2.2.2.1
theorem dX8_far_8 : decode cX8_far 8 = .ok (.getfield 40, 3) := dX8_far_0_g.2.2.2.2.1
theorem dX8_far_11 : decode cX8_far 11 = .ok (.invokevirtual 199, 3) := dX8_far_0_g.2.2.2.2.2.1
theorem dX8_far_14 : decode cX8_far 14 = .ok (.goto 4, 3) := dX8_far_0_g.2.2.2.2.2.2.1
theorem dX8_far_17 : decode cX8_far 17 = .ok (.iconst (-1), 1) := dX8_far_0_g.2.2.2.2.2.2.2
theorem dX8_far_18 : decode cX8_far 18 = .ok (.ireturn, 1) := by decide +kernel
theorem dX8_farthest_0_g : (decode cX8_farthest 0 = .ok (.aload_n 0, 1)) ∧ (decode cX8_farthest 1 = .ok (.invokevirtual 174, 3)) ∧ (decode cX8_farthest 4 = .ok (.ifCond .eq 13, 3)) ∧ (decode cX8_farthest 7 = .ok (.aload_n 0, 1)) ∧ (decode cX8_farthest 8 = .ok (.getfield 40, 3)) ∧ (decode cX8_farthest 11 = .ok (.invokevirtual 202, 3)) ∧ (decode cX8_farthest 14 = .ok (.goto 4, 3)) ∧ (decode cX8_farthest 17 = .ok (.iconst (-1), 1)) := by decide +kernel
theorem dX8_farthest_0 : decode cX8_farthest 0 = .ok (.aload_n 0, 1) := dX8_farthest_0_g.1
theorem dX8_farthest_1 : decode cX8_farthest 1 = .ok (.invokevirtual 174, 3) := dX8_farthest_0_g.2.1
theorem dX8_farthest_4 : decode cX8_farthest 4 = .ok (.ifCond .eq 13, 3) := dX8_farthest_0_g.2.2.1
theorem dX8_farthest_7 : decode cX8_farthest 7 = .ok (.aload_n 0, 1) := dX8_farthest_0_g.2.2.2.1
theorem dX8_farthest_8 : decode cX8_farthest 8 = .ok (.getfield 40, 3) := dX8_farthest_0_g.2.2.2.2.1
theorem dX8_farthest_11 : decode cX8_farthest 11 = .ok (.invokevirtual 202, 3) := dX8_farthest_0_g.2.2.2.2.2.1
theorem dX8_farthest_14 : decode cX8_farthest 14 = .ok (.goto 4, 3) := dX8_farthest_0_g.2.2.2.2.2.2.1
theorem dX8_farthest_17 : decode cX8_farthest 17 = .ok (.iconst (-1), 1) := dX8_farthest_0_g.2.2.2.2.2.2.2
theorem dX8_farthest_18 : decode cX8_farthest 18 = .ok (.ireturn, 1) := by decide +kernel
theorem dX8_joined_0_g : (decode cX8_joined 0 = .ok (.aload_n 0, 1)) ∧ (decode cX8_joined 1 = .ok (.getfield 10, 3)) ∧ (decode cX8_joined 4 = .ok (.getfield 114, 3)) ∧ (decode cX8_joined 7 = .ok (.sipush 20000, 3)) ∧ (decode cX8_joined 10 = .ok (.if_icmp .le 9, 3)) ∧ (decode cX8_joined 13 = .ok (.aload_n 0, 1)) ∧ (decode cX8_joined 14 = .ok (.iconst 2, 1)) ∧ (decode cX8_joined 15 = .ok (.invokevirtual 138, 3)) := by decide +kernel
theorem dX8_joined_0 : decode cX8_joined 0 = .ok (.aload_n 0, 1) := dX8_joined_0_g.1
theorem dX8_joined_1 : decode cX8_joined 1 = .ok (.getfield 10, 3) := dX8_joined_0_g.2.1
theorem dX8_joined_4 : decode cX8_joined 4 = .ok (.getfield 114, 3) := dX8_joined_0_g.2.2.1
theorem dX8_joined_7 : decode cX8_joined 7 = .ok (.sipush 20000, 3) := dX8_joined_0_g.2.2.2.1
theorem dX8_joined_10 : decode cX8_joined 10 = .ok (.if_icmp .le 9, 3) := dX8_joined_0_g.2.2.2.2.1
theorem dX8_joined_13 : decode cX8_joined 13 = .ok (.aload_n 0, 1) := dX8_joined_0_g.2.2.2.2.2.1
theorem dX8_joined_14 : decode cX8_joined 14 = .ok (.iconst 2, 1) := dX8_joined_0_g.2.2.2.2.2.2.1
theorem dX8_joined_15 : decode cX8_joined 15 = .ok (.invokevirtual 138, 3) := dX8_joined_0_g.2.2.2.2.2.2.2
theorem dX8_joined_18_g : (decode cX8_joined 18 = .ok (.ireturn, 1)) ∧ (decode cX8_joined 19 = .ok (.iload_n 1, 1)) ∧ (decode cX8_joined 20 = .ok (.ifCond .lt 8, 3)) ∧ (decode cX8_joined 23 = .ok (.iload_n 1, 1)) ∧ (decode cX8_joined 24 = .ok (.iconst 3, 1)) ∧ (decode cX8_joined 25 = .ok (.if_icmp .le 9, 3)) ∧ (decode cX8_joined 28 = .ok (.aload_n 0, 1)) ∧ (decode cX8_joined 29 = .ok (.iconst 1, 1)) := by decide +kernel
theorem dX8_joined_18 : decode cX8_joined 18 = .ok (.ireturn, 1) := dX8_joined_18_g.1
theorem dX8_joined_19 : decode cX8_joined 19 = .ok (.iload_n 1, 1) := dX8_joined_18_g.2.1
theorem dX8_joined_20 : decode cX8_joined 20 = .ok (.ifCond .lt 8, 3) := dX8_joined_18_g.2.2.1
theorem dX8_joined_23 : decode cX8_joined 23 = .ok (.iload_n 1, 1) := dX8_joined_18_g.2.2.2.1
theorem dX8_joined_24 : decode cX8_joined 24 = .ok (.iconst 3, 1) := dX8_joined_18_g.2.2.2.2.1
theorem dX8_joined_25 : decode cX8_joined 25 = .ok (.if_icmp .le 9, 3) := dX8_joined_18_g.2.2.2.2.2.1
theorem dX8_joined_28 : decode cX8_joined 28 = .ok (.aload_n 0, 1) := dX8_joined_18_g.2.2.2.2.2.2.1
theorem dX8_joined_29 : decode cX8_joined 29 = .ok (.iconst 1, 1) := dX8_joined_18_g.2.2.2.2.2.2.2
theorem dX8_joined_30_g : (decode cX8_joined 30 = .ok (.invokevirtual 138, 3)) ∧ (decode cX8_joined 33 = .ok (.ireturn, 1)) ∧ (decode cX8_joined 34 = .ok (.aload_n 0, 1)) ∧ (decode cX8_joined 35 = .ok (.iconst 0, 1)) ∧ (decode cX8_joined 36 = .ok (.putfield 149, 3)) ∧ (decode cX8_joined 39 = .ok (.aload_n 0, 1)) ∧ (decode cX8_joined 40 = .ok (.getfield 47, 3)) ∧ (decode cX8_joined 43 = .ok (.aload_n 0, 1)) := by decide +kernel
theorem dX8_joined_30 : decode cX8_joined 30 = .ok (.invokevirtual 138, 3) := dX8_joined_30_g.1
theorem dX8_joined_33 : decode cX8_joined 33 = .ok (.ireturn, 1) := dX8_joined_30_g.2.1
theorem dX8_joined_34 : decode cX8_joined 34 = .ok (.aload_n 0, 1) := dX8_joined_30_g.2.2.1
theorem dX8_joined_35 : decode cX8_joined 35 = .ok (.iconst 0, 1) := dX8_joined_30_g.2.2.2.1
theorem dX8_joined_36 : decode cX8_joined 36 = .ok (.putfield 149, 3) := dX8_joined_30_g.2.2.2.2.1
theorem dX8_joined_39 : decode cX8_joined 39 = .ok (.aload_n 0, 1) := dX8_joined_30_g.2.2.2.2.2.1
theorem dX8_joined_40 : decode cX8_joined 40 = .ok (.getfield 47, 3) := dX8_joined_30_g.2.2.2.2.2.2.1
theorem dX8_joined_43 : decode cX8_joined 43 = .ok (.aload_n 0, 1) := dX8_joined_30_g.2.2.2.2.2.2.2
theorem dX8_joined_44_g : (decode cX8_joined 44 = .ok (.getfield 10, 3)) ∧ (decode cX8_joined 47 = .ok (.aload_n 0, 1)) ∧ (decode cX8_joined 48 = .ok (.getfield 19, 3)) ∧ (decode cX8_joined 51 = .ok (.invokevirtual 205, 3)) ∧ (decode cX8_joined 54 = .ok (.iload_n 1, 1)) ∧ (decode cX8_joined 55 = .ok (.tableswitch 53 0 2 #[25, 33, 45], 25)) ∧ (decode cX8_joined 80 = .ok (.aload_n 0, 1)) ∧ (decode cX8_joined 81 = .ok (.getfield 47, 3)) := by decide +kernel
theorem dX8_joined_44 : decode cX8_joined 44 = .ok (.getfield 10, 3) := dX8_joined_44_g.1
theorem dX8_joined_47 : decode cX8_joined 47 = .ok (.aload_n 0, 1) := dX8_joined_44_g.2.1
theorem dX8_joined_48 : decode cX8_joined 48 = .ok (.getfield 19, 3) := dX8_joined_44_g.2.2.1
theorem dX8_joined_51 : decode cX8_joined 51 = .ok (.invokevirtual 205, 3) := dX8_joined_44_g.2.2.2.1
theorem dX8_joined_54 : decode cX8_joined 54 = .ok (.iload_n 1, 1) := dX8_joined_44_g.2.2.2.2.1
theorem dX8_joined_55 : decode cX8_joined 55 = .ok (.tableswitch 53 0 2 #[25, 33, 45], 25) := dX8_joined_44_g.2.2.2.2.2.1
theorem dX8_joined_80 : decode cX8_joined 80 = .ok (.aload_n 0, 1) := dX8_joined_44_g.2.2.2.2.2.2.1
theorem dX8_joined_81 : decode cX8_joined 81 = .ok (.getfield 47, 3) := dX8_joined_44_g.2.2.2.2.2.2.2
theorem dX8_joined_84_g : (decode cX8_joined 84 = .ok (.getfield 209, 3)) ∧ (decode cX8_joined 87 = .ok (.ireturn, 1)) ∧ (decode cX8_joined 88 = .ok (.aload_n 0, 1)) ∧ (decode cX8_joined 89 = .ok (.getfield 47, 3)) ∧ (decode cX8_joined 92 = .ok (.aload_n 0, 1)) ∧ (decode cX8_joined 93 = .ok (.getfield 73, 3)) ∧ (decode cX8_joined 96 = .ok (.invokevirtual 212, 3)) ∧ (decode cX8_joined 99 = .ok (.ireturn, 1)) := by decide +kernel
theorem dX8_joined_84 : decode cX8_joined 84 = .ok (.getfield 209, 3) := dX8_joined_84_g.1
theorem dX8_joined_87 : decode cX8_joined 87 = .ok (.ireturn, 1) := dX8_joined_84_g.2.1
theorem dX8_joined_88 : decode cX8_joined 88 = .ok (.aload_n 0, 1) := dX8_joined_84_g.2.2.1
theorem dX8_joined_89 : decode cX8_joined 89 = .ok (.getfield 47, 3) := dX8_joined_84_g.2.2.2.1
theorem dX8_joined_92 : decode cX8_joined 92 = .ok (.aload_n 0, 1) := dX8_joined_84_g.2.2.2.2.1
theorem dX8_joined_93 : decode cX8_joined 93 = .ok (.getfield 73, 3) := dX8_joined_84_g.2.2.2.2.2.1
theorem dX8_joined_96 : decode cX8_joined 96 = .ok (.invokevirtual 212, 3) := dX8_joined_84_g.2.2.2.2.2.2.1
theorem dX8_joined_99 : decode cX8_joined 99 = .ok (.ireturn, 1) := dX8_joined_84_g.2.2.2.2.2.2.2
theorem dX8_joined_100_g : (decode cX8_joined 100 = .ok (.aload_n 0, 1)) ∧ (decode cX8_joined 101 = .ok (.getfield 47, 3)) ∧ (decode cX8_joined 104 = .ok (.invokevirtual 215, 3)) ∧ (decode cX8_joined 107 = .ok (.ireturn, 1)) ∧ (decode cX8_joined 108 = .ok (.aload_n 0, 1)) ∧ (decode cX8_joined 109 = .ok (.getfield 47, 3)) ∧ (decode cX8_joined 112 = .ok (.invokevirtual 218, 3)) ∧ (decode cX8_joined 115 = .ok (.ireturn, 1)) := by decide +kernel
theorem dX8_joined_100 : decode cX8_joined 100 = .ok (.aload_n 0, 1) := dX8_joined_100_g.1
theorem dX8_joined_101 : decode cX8_joined 101 = .ok (.getfield 47, 3) := dX8_joined_100_g.2.1
theorem dX8_joined_104 : decode cX8_joined 104 = .ok (.invokevirtual 215, 3) := dX8_joined_100_g.2.2.1
theorem dX8_joined_107 : decode cX8_joined 107 = .ok (.ireturn, 1) := dX8_joined_100_g.2.2.2.1
theorem dX8_joined_108 : decode cX8_joined 108 = .ok (.aload_n 0, 1) := dX8_joined_100_g.2.2.2.2.1
theorem dX8_joined_109 : decode cX8_joined 109 = .ok (.getfield 47, 3) := dX8_joined_100_g.2.2.2.2.2.1
theorem dX8_joined_112 : decode cX8_joined 112 = .ok (.invokevirtual 218, 3) := dX8_joined_100_g.2.2.2.2.2.2.1
theorem dX8_joined_115 : decode cX8_joined 115 = .ok (.ireturn, 1) := dX8_joined_100_g.2.2.2.2.2.2.2
theorem dX8_rename_0_g : (decode cX8_rename 0 = .ok (.iconst 5, 1)) ∧ (decode cX8_rename 1 = .ok (.newarray .int, 2)) ∧ (decode cX8_rename 3 = .ok (.dup, 1)) ∧ (decode cX8_rename 4 = .ok (.iconst 0, 1)) ∧ (decode cX8_rename 5 = .ok (.iload_n 1, 1)) ∧ (decode cX8_rename 6 = .ok (.iastore, 1)) ∧ (decode cX8_rename 7 = .ok (.dup, 1)) ∧ (decode cX8_rename 8 = .ok (.iconst 1, 1)) := by decide +kernel
theorem dX8_rename_0 : decode cX8_rename 0 = .ok (.iconst 5, 1) := dX8_rename_0_g.1
theorem dX8_rename_1 : decode cX8_rename 1 = .ok (.newarray .int, 2) := dX8_rename_0_g.2.1
theorem dX8_rename_3 : decode cX8_rename 3 = .ok (.dup, 1) := dX8_rename_0_g.2.2.1
theorem dX8_rename_4 : decode cX8_rename 4 = .ok (.iconst 0, 1) := dX8_rename_0_g.2.2.2.1
theorem dX8_rename_5 : decode cX8_rename 5 = .ok (.iload_n 1, 1) := dX8_rename_0_g.2.2.2.2.1
theorem dX8_rename_6 : decode cX8_rename 6 = .ok (.iastore, 1) := dX8_rename_0_g.2.2.2.2.2.1
theorem dX8_rename_7 : decode cX8_rename 7 = .ok (.dup, 1) := dX8_rename_0_g.2.2.2.2.2.2.1
theorem dX8_rename_8 : decode cX8_rename 8 = .ok (.iconst 1, 1) := dX8_rename_0_g.2.2.2.2.2.2.2
theorem dX8_rename_9_g : (decode cX8_rename 9 = .ok (.iload_n 2, 1)) ∧ (decode cX8_rename 10 = .ok (.iastore, 1)) ∧ (decode cX8_rename 11 = .ok (.dup, 1)) ∧ (decode cX8_rename 12 = .ok (.iconst 2, 1)) ∧ (decode cX8_rename 13 = .ok (.iload_n 3, 1)) ∧ (decode cX8_rename 14 = .ok (.iastore, 1)) ∧ (decode cX8_rename 15 = .ok (.dup, 1)) ∧ (decode cX8_rename 16 = .ok (.iconst 3, 1)) := by decide +kernel
theorem dX8_rename_9 : decode cX8_rename 9 = .ok (.iload_n 2, 1) := dX8_rename_9_g.1
theorem dX8_rename_10 : decode cX8_rename 10 = .ok (.iastore, 1) := dX8_rename_9_g.2.1
theorem dX8_rename_11 : decode cX8_rename 11 = .ok (.dup, 1) := dX8_rename_9_g.2.2.1
theorem dX8_rename_12 : decode cX8_rename 12 = .ok (.iconst 2, 1) := dX8_rename_9_g.2.2.2.1
theorem dX8_rename_13 : decode cX8_rename 13 = .ok (.iload_n 3, 1) := dX8_rename_9_g.2.2.2.2.1
theorem dX8_rename_14 : decode cX8_rename 14 = .ok (.iastore, 1) := dX8_rename_9_g.2.2.2.2.2.1
theorem dX8_rename_15 : decode cX8_rename 15 = .ok (.dup, 1) := dX8_rename_9_g.2.2.2.2.2.2.1
theorem dX8_rename_16 : decode cX8_rename 16 = .ok (.iconst 3, 1) := dX8_rename_9_g.2.2.2.2.2.2.2
theorem dX8_rename_17_g : (decode cX8_rename 17 = .ok (.iload 4, 2)) ∧ (decode cX8_rename 19 = .ok (.iastore, 1)) ∧ (decode cX8_rename 20 = .ok (.dup, 1)) ∧ (decode cX8_rename 21 = .ok (.iconst 4, 1)) ∧ (decode cX8_rename 22 = .ok (.iload 5, 2)) ∧ (decode cX8_rename 24 = .ok (.iastore, 1)) ∧ (decode cX8_rename 25 = .ok (.astore 6, 2)) ∧ (decode cX8_rename 27 = .ok (.aload 6, 2)) := by decide +kernel
theorem dX8_rename_17 : decode cX8_rename 17 = .ok (.iload 4, 2) := dX8_rename_17_g.1
theorem dX8_rename_19 : decode cX8_rename 19 = .ok (.iastore, 1) := dX8_rename_17_g.2.1
theorem dX8_rename_20 : decode cX8_rename 20 = .ok (.dup, 1) := dX8_rename_17_g.2.2.1
theorem dX8_rename_21 : decode cX8_rename 21 = .ok (.iconst 4, 1) := dX8_rename_17_g.2.2.2.1
theorem dX8_rename_22 : decode cX8_rename 22 = .ok (.iload 5, 2) := dX8_rename_17_g.2.2.2.2.1
theorem dX8_rename_24 : decode cX8_rename 24 = .ok (.iastore, 1) := dX8_rename_17_g.2.2.2.2.2.1
theorem dX8_rename_25 : decode cX8_rename 25 = .ok (.astore 6, 2) := dX8_rename_17_g.2.2.2.2.2.2.1
theorem dX8_rename_27 : decode cX8_rename 27 = .ok (.aload 6, 2) := dX8_rename_17_g.2.2.2.2.2.2.2
theorem dX8_rename_29_g : (decode cX8_rename 29 = .ok (.aload_n 0, 1)) ∧ (decode cX8_rename 30 = .ok (.getfield 10, 3)) ∧ (decode cX8_rename 33 = .ok (.getfield 221, 3)) ∧ (decode cX8_rename 36 = .ok (.invokestatic 224, 3)) ∧ (decode cX8_rename 39 = .ok (.ifCond .ne 9, 3)) ∧ (decode cX8_rename 42 = .ok (.aload_n 0, 1)) ∧ (decode cX8_rename 43 = .ok (.iconst 1, 1)) ∧ (decode cX8_rename 44 = .ok (.invokevirtual 65, 3)) := by decide +kernel
theorem dX8_rename_29 : decode cX8_rename 29 = .ok (.aload_n 0, 1) := dX8_rename_29_g.1
theorem dX8_rename_30 : decode cX8_rename 30 = .ok (.getfield 10, 3) := dX8_rename_29_g.2.1
theorem dX8_rename_33 : decode cX8_rename 33 = .ok (.getfield 221, 3) := dX8_rename_29_g.2.2.1
theorem dX8_rename_36 : decode cX8_rename 36 = .ok (.invokestatic 224, 3) := dX8_rename_29_g.2.2.2.1
theorem dX8_rename_39 : decode cX8_rename 39 = .ok (.ifCond .ne 9, 3) := dX8_rename_29_g.2.2.2.2.1
theorem dX8_rename_42 : decode cX8_rename 42 = .ok (.aload_n 0, 1) := dX8_rename_29_g.2.2.2.2.2.1
theorem dX8_rename_43 : decode cX8_rename 43 = .ok (.iconst 1, 1) := dX8_rename_29_g.2.2.2.2.2.2.1
theorem dX8_rename_44 : decode cX8_rename 44 = .ok (.invokevirtual 65, 3) := dX8_rename_29_g.2.2.2.2.2.2.2
theorem dX8_rename_47_g : (decode cX8_rename 47 = .ok (.ireturn, 1)) ∧ (decode cX8_rename 48 = .ok (.aload_n 0, 1)) ∧ (decode cX8_rename 49 = .ok (.aload_n 0, 1)) ∧ (decode cX8_rename 50 = .ok (.aload_n 0, 1)) ∧ (decode cX8_rename 51 = .ok (.getfield 73, 3)) ∧ (decode cX8_rename 54 = .ok (.aload 6, 2)) ∧ (decode cX8_rename 56 = .ok (.invokevirtual 228, 3)) ∧ (decode cX8_rename 59 = .ok (.putfield 73, 3)) := by decide +kernel
theorem dX8_rename_47 : decode cX8_rename 47 = .ok (.ireturn, 1) := dX8_rename_47_g.1
theorem dX8_rename_48 : decode cX8_rename 48 = .ok (.aload_n 0, 1) := dX8_rename_47_g.2.1
theorem dX8_rename_49 : decode cX8_rename 49 = .ok (.aload_n 0, 1) := dX8_rename_47_g.2.2.1
theorem dX8_rename_50 : decode cX8_rename 50 = .ok (.aload_n 0, 1) := dX8_rename_47_g.2.2.2.1
theorem dX8_rename_51 : decode cX8_rename 51 = .ok (.getfield 73, 3) := dX8_rename_47_g.2.2.2.2.1
theorem dX8_rename_54 : decode cX8_rename 54 = .ok (.aload 6, 2) := dX8_rename_47_g.2.2.2.2.2.1
theorem dX8_rename_56 : decode cX8_rename 56 = .ok (.invokevirtual 228, 3) := dX8_rename_47_g.2.2.2.2.2.2.1
theorem dX8_rename_59 : decode cX8_rename 59 = .ok (.putfield 73, 3) := dX8_rename_47_g.2.2.2.2.2.2.2
theorem dX8_rename_62_g : (decode cX8_rename 62 = .ok (.aload_n 0, 1)) ∧ (decode cX8_rename 63 = .ok (.aload_n 0, 1)) ∧ (decode cX8_rename 64 = .ok (.aload_n 0, 1)) ∧ (decode cX8_rename 65 = .ok (.getfield 77, 3)) ∧ (decode cX8_rename 68 = .ok (.aload 6, 2)) ∧ (decode cX8_rename 70 = .ok (.invokevirtual 228, 3)) ∧ (decode cX8_rename 73 = .ok (.putfield 77, 3)) ∧ (decode cX8_rename 76 = .ok (.aload_n 0, 1)) := by decide +kernel
theorem dX8_rename_62 : decode cX8_rename 62 = .ok (.aload_n 0, 1) := dX8_rename_62_g.1
theorem dX8_rename_63 : decode cX8_rename 63 = .ok (.aload_n 0, 1) := dX8_rename_62_g.2.1
theorem dX8_rename_64 : decode cX8_rename 64 = .ok (.aload_n 0, 1) := dX8_rename_62_g.2.2.1
theorem dX8_rename_65 : decode cX8_rename 65 = .ok (.getfield 77, 3) := dX8_rename_62_g.2.2.2.1
theorem dX8_rename_68 : decode cX8_rename 68 = .ok (.aload 6, 2) := dX8_rename_62_g.2.2.2.2.1
theorem dX8_rename_70 : decode cX8_rename 70 = .ok (.invokevirtual 228, 3) := dX8_rename_62_g.2.2.2.2.2.1
theorem dX8_rename_73 : decode cX8_rename 73 = .ok (.putfield 77, 3) := dX8_rename_62_g.2.2.2.2.2.2.1
theorem dX8_rename_76 : decode cX8_rename 76 = .ok (.aload_n 0, 1) := dX8_rename_62_g.2.2.2.2.2.2.2
theorem dX8_rename_77_g : (decode cX8_rename 77 = .ok (.getfield 10, 3)) ∧ (decode cX8_rename 80 = .ok (.aload 6, 2)) ∧ (decode cX8_rename 82 = .ok (.invokevirtual 232, 3)) ∧ (decode cX8_rename 85 = .ok (.aload_n 0, 1)) ∧ (decode cX8_rename 86 = .ok (.invokevirtual 80, 3)) ∧ (decode cX8_rename 89 = .ok (.aload_n 0, 1)) ∧ (decode cX8_rename 90 = .ok (.invokevirtual 83, 3)) ∧ (decode cX8_rename 93 = .ok (.ireturn, 1)) := by decide +kernel
theorem dX8_rename_77 : decode cX8_rename 77 = .ok (.getfield 10, 3) := dX8_rename_77_g.1
theorem dX8_rename_80 : decode cX8_rename 80 = .ok (.aload 6, 2) := dX8_rename_77_g.2.1
theorem dX8_rename_82 : decode cX8_rename 82 = .ok (.invokevirtual 232, 3) := dX8_rename_77_g.2.2.1
theorem dX8_rename_85 : decode cX8_rename 85 = .ok (.aload_n 0, 1) := dX8_rename_77_g.2.2.2.1
theorem dX8_rename_86 : decode cX8_rename 86 = .ok (.invokevirtual 80, 3) := dX8_rename_77_g.2.2.2.2.1
theorem dX8_rename_89 : decode cX8_rename 89 = .ok (.aload_n 0, 1) := dX8_rename_77_g.2.2.2.2.2.1
theorem dX8_rename_90 : decode cX8_rename 90 = .ok (.invokevirtual 83, 3) := dX8_rename_77_g.2.2.2.2.2.2.1
theorem dX8_rename_93 : decode cX8_rename 93 = .ok (.ireturn, 1) := dX8_rename_77_g.2.2.2.2.2.2.2
theorem dX8_about_0_g : (decode cX8_about 0 = .ok (.aload_n 0, 1)) ∧ (decode cX8_about 1 = .ok (.getfield 10, 3)) ∧ (decode cX8_about 4 = .ok (.invokevirtual 236, 3)) ∧ (decode cX8_about 7 = .ok (.aload_n 0, 1)) ∧ (decode cX8_about 8 = .ok (.getfield 73, 3)) ∧ (decode cX8_about 11 = .ok (.istore_n 1, 1)) ∧ (decode cX8_about 12 = .ok (.aload_n 0, 1)) ∧ (decode cX8_about 13 = .ok (.aload_n 0, 1)) := by decide +kernel
theorem dX8_about_0 : decode cX8_about 0 = .ok (.aload_n 0, 1) := dX8_about_0_g.1
theorem dX8_about_1 : decode cX8_about 1 = .ok (.getfield 10, 3) := dX8_about_0_g.2.1
theorem dX8_about_4 : decode cX8_about 4 = .ok (.invokevirtual 236, 3) := dX8_about_0_g.2.2.1
theorem dX8_about_7 : decode cX8_about 7 = .ok (.aload_n 0, 1) := dX8_about_0_g.2.2.2.1
theorem dX8_about_8 : decode cX8_about 8 = .ok (.getfield 73, 3) := dX8_about_0_g.2.2.2.2.1
theorem dX8_about_11 : decode cX8_about 11 = .ok (.istore_n 1, 1) := dX8_about_0_g.2.2.2.2.2.1
theorem dX8_about_12 : decode cX8_about 12 = .ok (.aload_n 0, 1) := dX8_about_0_g.2.2.2.2.2.2.1
theorem dX8_about_13 : decode cX8_about 13 = .ok (.aload_n 0, 1) := dX8_about_0_g.2.2.2.2.2.2.2
theorem dX8_about_14_g : (decode cX8_about 14 = .ok (.getfield 77, 3)) ∧ (decode cX8_about 17 = .ok (.putfield 73, 3)) ∧ (decode cX8_about 20 = .ok (.aload_n 0, 1)) ∧ (decode cX8_about 21 = .ok (.iload_n 1, 1)) ∧ (decode cX8_about 22 = .ok (.putfield 77, 3)) ∧ (decode cX8_about 25 = .ok (.aload_n 0, 1)) ∧ (decode cX8_about 26 = .ok (.invokevirtual 80, 3)) ∧ (decode cX8_about 29 = .ok (.aload_n 0, 1)) := by decide +kernel
theorem dX8_about_14 : decode cX8_about 14 = .ok (.getfield 77, 3) := dX8_about_14_g.1
theorem dX8_about_17 : decode cX8_about 17 = .ok (.putfield 73, 3) := dX8_about_14_g.2.1
theorem dX8_about_20 : decode cX8_about 20 = .ok (.aload_n 0, 1) := dX8_about_14_g.2.2.1
theorem dX8_about_21 : decode cX8_about 21 = .ok (.iload_n 1, 1) := dX8_about_14_g.2.2.2.1
theorem dX8_about_22 : decode cX8_about 22 = .ok (.putfield 77, 3) := dX8_about_14_g.2.2.2.2.1
theorem dX8_about_25 : decode cX8_about 25 = .ok (.aload_n 0, 1) := dX8_about_14_g.2.2.2.2.2.1
theorem dX8_about_26 : decode cX8_about 26 = .ok (.invokevirtual 80, 3) := dX8_about_14_g.2.2.2.2.2.2.1
theorem dX8_about_29 : decode cX8_about 29 = .ok (.aload_n 0, 1) := dX8_about_14_g.2.2.2.2.2.2.2
theorem dX8_about_30_g : (decode cX8_about 30 = .ok (.getfield 10, 3)) ∧ (decode cX8_about 33 = .ok (.invokevirtual 107, 3)) ∧ (decode cX8_about 36 = .ok (.ireturn, 1)) := by decide +kernel
theorem dX8_about_30 : decode cX8_about 30 = .ok (.getfield 10, 3) := dX8_about_30_g.1
theorem dX8_about_33 : decode cX8_about 33 = .ok (.invokevirtual 107, 3) := dX8_about_30_g.2.1
theorem dX8_about_36 : decode cX8_about 36 = .ok (.ireturn, 1) := dX8_about_30_g.2.2
theorem dX8_scheme_0_g : (decode cX8_scheme 0 = .ok (.aload_n 0, 1)) ∧ (decode cX8_scheme 1 = .ok (.getfield 54, 3)) ∧ (decode cX8_scheme 4 = .ok (.getfield 239, 3)) ∧ (decode cX8_scheme 7 = .ok (.bipush 8, 2)) ∧ (decode cX8_scheme 9 = .ok (.if_icmp .lt 9, 3)) ∧ (decode cX8_scheme 12 = .ok (.aload_n 0, 1)) ∧ (decode cX8_scheme 13 = .ok (.iconst 5, 1)) ∧ (decode cX8_scheme 14 = .ok (.invokevirtual 138, 3)) := by decide +kernel
theorem dX8_scheme_0 : decode cX8_scheme 0 = .ok (.aload_n 0, 1) := dX8_scheme_0_g.1
theorem dX8_scheme_1 : decode cX8_scheme 1 = .ok (.getfield 54, 3) := dX8_scheme_0_g.2.1
theorem dX8_scheme_4 : decode cX8_scheme 4 = .ok (.getfield 239, 3) := dX8_scheme_0_g.2.2.1
theorem dX8_scheme_7 : decode cX8_scheme 7 = .ok (.bipush 8, 2) := dX8_scheme_0_g.2.2.2.1
theorem dX8_scheme_9 : decode cX8_scheme 9 = .ok (.if_icmp .lt 9, 3) := dX8_scheme_0_g.2.2.2.2.1
theorem dX8_scheme_12 : decode cX8_scheme 12 = .ok (.aload_n 0, 1) := dX8_scheme_0_g.2.2.2.2.2.1
theorem dX8_scheme_13 : decode cX8_scheme 13 = .ok (.iconst 5, 1) := dX8_scheme_0_g.2.2.2.2.2.2.1
theorem dX8_scheme_14 : decode cX8_scheme 14 = .ok (.invokevirtual 138, 3) := dX8_scheme_0_g.2.2.2.2.2.2.2
theorem dX8_scheme_17_g : (decode cX8_scheme 17 = .ok (.ireturn, 1)) ∧ (decode cX8_scheme 18 = .ok (.aload_n 0, 1)) ∧ (decode cX8_scheme 19 = .ok (.iconst 0, 1)) ∧ (decode cX8_scheme 20 = .ok (.putfield 149, 3)) ∧ (decode cX8_scheme 23 = .ok (.aload_n 0, 1)) ∧ (decode cX8_scheme 24 = .ok (.getfield 54, 3)) ∧ (decode cX8_scheme 27 = .ok (.invokevirtual 242, 3)) ∧ (decode cX8_scheme 30 = .ok (.ireturn, 1)) := by decide +kernel
theorem dX8_scheme_17 : decode cX8_scheme 17 = .ok (.ireturn, 1) := dX8_scheme_17_g.1
theorem dX8_scheme_18 : decode cX8_scheme 18 = .ok (.aload_n 0, 1) := dX8_scheme_17_g.2.1
theorem dX8_scheme_19 : decode cX8_scheme 19 = .ok (.iconst 0, 1) := dX8_scheme_17_g.2.2.1
theorem dX8_scheme_20 : decode cX8_scheme 20 = .ok (.putfield 149, 3) := dX8_scheme_17_g.2.2.2.1
theorem dX8_scheme_23 : decode cX8_scheme 23 = .ok (.aload_n 0, 1) := dX8_scheme_17_g.2.2.2.2.1
theorem dX8_scheme_24 : decode cX8_scheme 24 = .ok (.getfield 54, 3) := dX8_scheme_17_g.2.2.2.2.2.1
theorem dX8_scheme_27 : decode cX8_scheme 27 = .ok (.invokevirtual 242, 3) := dX8_scheme_17_g.2.2.2.2.2.2.1
theorem dX8_scheme_30 : decode cX8_scheme 30 = .ok (.ireturn, 1) := dX8_scheme_17_g.2.2.2.2.2.2.2
theorem dX8_single_0_g : (decode cX8_single 0 = .ok (.aload_n 0, 1)) ∧ (decode cX8_single 1 = .ok (.getfield 54, 3)) ∧ (decode cX8_single 4 = .ok (.iload_n 1, 1)) ∧ (decode cX8_single 5 = .ok (.invokevirtual 245, 3)) ∧ (decode cX8_single 8 = .ok (.ifCond .eq 22, 3)) ∧ (decode cX8_single 11 = .ok (.iload_n 2, 1)) ∧ (decode cX8_single 12 = .ok (.invokestatic 248, 3)) ∧ (decode cX8_single 15 = .ok (.ifCond .eq 15, 3)) := by decide +kernel
theorem dX8_single_0 : decode cX8_single 0 = .ok (.aload_n 0, 1) := dX8_single_0_g.1
theorem dX8_single_1 : decode cX8_single 1 = .ok (.getfield 54, 3) := dX8_single_0_g.2.1
theorem dX8_single_4 : decode cX8_single 4 = .ok (.iload_n 1, 1) := dX8_single_0_g.2.2.1
theorem dX8_single_5 : decode cX8_single 5 = .ok (.invokevirtual 245, 3) := dX8_single_0_g.2.2.2.1
theorem dX8_single_8 : decode cX8_single 8 = .ok (.ifCond .eq 22, 3) := dX8_single_0_g.2.2.2.2.1
theorem dX8_single_11 : decode cX8_single 11 = .ok (.iload_n 2, 1) := dX8_single_0_g.2.2.2.2.2.1
theorem dX8_single_12 : decode cX8_single 12 = .ok (.invokestatic 248, 3) := dX8_single_0_g.2.2.2.2.2.2.1
theorem dX8_single_15 : decode cX8_single 15 = .ok (.ifCond .eq 15, 3) := dX8_single_0_g.2.2.2.2.2.2.2
theorem dX8_single_18_g : (decode cX8_single 18 = .ok (.iload_n 3, 1)) ∧ (decode cX8_single 19 = .ok (.invokestatic 248, 3)) ∧ (decode cX8_single 22 = .ok (.ifCond .eq 8, 3)) ∧ (decode cX8_single 25 = .ok (.iload_n 2, 1)) ∧ (decode cX8_single 26 = .ok (.iload_n 3, 1)) ∧ (decode cX8_single 27 = .ok (.if_icmp .ne 9, 3)) ∧ (decode cX8_single 30 = .ok (.aload_n 0, 1)) ∧ (decode cX8_single 31 = .ok (.iconst 1, 1)) := by decide +kernel
theorem dX8_single_18 : decode cX8_single 18 = .ok (.iload_n 3, 1) := dX8_single_18_g.1
theorem dX8_single_19 : decode cX8_single 19 = .ok (.invokestatic 248, 3) := dX8_single_18_g.2.1
theorem dX8_single_22 : decode cX8_single 22 = .ok (.ifCond .eq 8, 3) := dX8_single_18_g.2.2.1
theorem dX8_single_25 : decode cX8_single 25 = .ok (.iload_n 2, 1) := dX8_single_18_g.2.2.2.1
theorem dX8_single_26 : decode cX8_single 26 = .ok (.iload_n 3, 1) := dX8_single_18_g.2.2.2.2.1
theorem dX8_single_27 : decode cX8_single 27 = .ok (.if_icmp .ne 9, 3) := dX8_single_18_g.2.2.2.2.2.1
theorem dX8_single_30 : decode cX8_single 30 = .ok (.aload_n 0, 1) := dX8_single_18_g.2.2.2.2.2.2.1
theorem dX8_single_31 : decode cX8_single 31 = .ok (.iconst 1, 1) := dX8_single_18_g.2.2.2.2.2.2.2
theorem dX8_single_32_g : (decode cX8_single 32 = .ok (.invokevirtual 138, 3)) ∧ (decode cX8_single 35 = .ok (.ireturn, 1)) ∧ (decode cX8_single 36 = .ok (.iconst 2, 1)) ∧ (decode cX8_single 37 = .ok (.newarray .int, 2)) ∧ (decode cX8_single 39 = .ok (.dup, 1)) ∧ (decode cX8_single 40 = .ok (.iconst 0, 1)) ∧ (decode cX8_single 41 = .ok (.iload_n 2, 1)) ∧ (decode cX8_single 42 = .ok (.iastore, 1)) := by decide +kernel
theorem dX8_single_32 : decode cX8_single 32 = .ok (.invokevirtual 138, 3) := dX8_single_32_g.1
theorem dX8_single_35 : decode cX8_single 35 = .ok (.ireturn, 1) := dX8_single_32_g.2.1
theorem dX8_single_36 : decode cX8_single 36 = .ok (.iconst 2, 1) := dX8_single_32_g.2.2.1
theorem dX8_single_37 : decode cX8_single 37 = .ok (.newarray .int, 2) := dX8_single_32_g.2.2.2.1
theorem dX8_single_39 : decode cX8_single 39 = .ok (.dup, 1) := dX8_single_32_g.2.2.2.2.1
theorem dX8_single_40 : decode cX8_single 40 = .ok (.iconst 0, 1) := dX8_single_32_g.2.2.2.2.2.1
theorem dX8_single_41 : decode cX8_single 41 = .ok (.iload_n 2, 1) := dX8_single_32_g.2.2.2.2.2.2.1
theorem dX8_single_42 : decode cX8_single 42 = .ok (.iastore, 1) := dX8_single_32_g.2.2.2.2.2.2.2
theorem dX8_single_43_g : (decode cX8_single 43 = .ok (.dup, 1)) ∧ (decode cX8_single 44 = .ok (.iconst 1, 1)) ∧ (decode cX8_single 45 = .ok (.iload_n 3, 1)) ∧ (decode cX8_single 46 = .ok (.iastore, 1)) ∧ (decode cX8_single 47 = .ok (.astore 4, 2)) ∧ (decode cX8_single 49 = .ok (.aload_n 0, 1)) ∧ (decode cX8_single 50 = .ok (.iload_n 1, 1)) ∧ (decode cX8_single 51 = .ok (.iconst (-1), 1)) := by decide +kernel
theorem dX8_single_43 : decode cX8_single 43 = .ok (.dup, 1) := dX8_single_43_g.1
theorem dX8_single_44 : decode cX8_single 44 = .ok (.iconst 1, 1) := dX8_single_43_g.2.1
theorem dX8_single_45 : decode cX8_single 45 = .ok (.iload_n 3, 1) := dX8_single_43_g.2.2.1
theorem dX8_single_46 : decode cX8_single 46 = .ok (.iastore, 1) := dX8_single_43_g.2.2.2.1
theorem dX8_single_47 : decode cX8_single 47 = .ok (.astore 4, 2) := dX8_single_43_g.2.2.2.2.1
theorem dX8_single_49 : decode cX8_single 49 = .ok (.aload_n 0, 1) := dX8_single_43_g.2.2.2.2.2.1
theorem dX8_single_50 : decode cX8_single 50 = .ok (.iload_n 1, 1) := dX8_single_43_g.2.2.2.2.2.2.1
theorem dX8_single_51 : decode cX8_single 51 = .ok (.iconst (-1), 1) := dX8_single_43_g.2.2.2.2.2.2.2
theorem dX8_single_52_g : (decode cX8_single 52 = .ok (.iconst 0, 1)) ∧ (decode cX8_single 53 = .ok (.aload 4, 2)) ∧ (decode cX8_single 55 = .ok (.invokevirtual 251, 3)) ∧ (decode cX8_single 58 = .ok (.ireturn, 1)) := by decide +kernel
theorem dX8_single_52 : decode cX8_single 52 = .ok (.iconst 0, 1) := dX8_single_52_g.1
theorem dX8_single_53 : decode cX8_single 53 = .ok (.aload 4, 2) := dX8_single_52_g.2.1
theorem dX8_single_55 : decode cX8_single 55 = .ok (.invokevirtual 251, 3) := dX8_single_52_g.2.2.1
theorem dX8_single_58 : decode cX8_single 58 = .ok (.ireturn, 1) := dX8_single_52_g.2.2.2
theorem dX8_call_0_g : (decode cX8_call 0 = .ok (.iconst 5, 1)) ∧ (decode cX8_call 1 = .ok (.newarray .int, 2)) ∧ (decode cX8_call 3 = .ok (.dup, 1)) ∧ (decode cX8_call 4 = .ok (.iconst 0, 1)) ∧ (decode cX8_call 5 = .ok (.iload 4, 2)) ∧ (decode cX8_call 7 = .ok (.iastore, 1)) ∧ (decode cX8_call 8 = .ok (.dup, 1)) ∧ (decode cX8_call 9 = .ok (.iconst 1, 1)) := by decide +kernel
theorem dX8_call_0 : decode cX8_call 0 = .ok (.iconst 5, 1) := dX8_call_0_g.1
theorem dX8_call_1 : decode cX8_call 1 = .ok (.newarray .int, 2) := dX8_call_0_g.2.1
theorem dX8_call_3 : decode cX8_call 3 = .ok (.dup, 1) := dX8_call_0_g.2.2.1
theorem dX8_call_4 : decode cX8_call 4 = .ok (.iconst 0, 1) := dX8_call_0_g.2.2.2.1
theorem dX8_call_5 : decode cX8_call 5 = .ok (.iload 4, 2) := dX8_call_0_g.2.2.2.2.1
theorem dX8_call_7 : decode cX8_call 7 = .ok (.iastore, 1) := dX8_call_0_g.2.2.2.2.2.1
theorem dX8_call_8 : decode cX8_call 8 = .ok (.dup, 1) := dX8_call_0_g.2.2.2.2.2.2.1
theorem dX8_call_9 : decode cX8_call 9 = .ok (.iconst 1, 1) := dX8_call_0_g.2.2.2.2.2.2.2
theorem dX8_call_10_g : (decode cX8_call 10 = .ok (.iload 5, 2)) ∧ (decode cX8_call 12 = .ok (.iastore, 1)) ∧ (decode cX8_call 13 = .ok (.dup, 1)) ∧ (decode cX8_call 14 = .ok (.iconst 2, 1)) ∧ (decode cX8_call 15 = .ok (.iload 6, 2)) ∧ (decode cX8_call 17 = .ok (.iastore, 1)) ∧ (decode cX8_call 18 = .ok (.dup, 1)) ∧ (decode cX8_call 19 = .ok (.iconst 3, 1)) := by decide +kernel
theorem dX8_call_10 : decode cX8_call 10 = .ok (.iload 5, 2) := dX8_call_10_g.1
theorem dX8_call_12 : decode cX8_call 12 = .ok (.iastore, 1) := dX8_call_10_g.2.1
theorem dX8_call_13 : decode cX8_call 13 = .ok (.dup, 1) := dX8_call_10_g.2.2.1
theorem dX8_call_14 : decode cX8_call 14 = .ok (.iconst 2, 1) := dX8_call_10_g.2.2.2.1
theorem dX8_call_15 : decode cX8_call 15 = .ok (.iload 6, 2) := dX8_call_10_g.2.2.2.2.1
theorem dX8_call_17 : decode cX8_call 17 = .ok (.iastore, 1) := dX8_call_10_g.2.2.2.2.2.1
theorem dX8_call_18 : decode cX8_call 18 = .ok (.dup, 1) := dX8_call_10_g.2.2.2.2.2.2.1
theorem dX8_call_19 : decode cX8_call 19 = .ok (.iconst 3, 1) := dX8_call_10_g.2.2.2.2.2.2.2
theorem dX8_call_20_g : (decode cX8_call 20 = .ok (.iload 7, 2)) ∧ (decode cX8_call 22 = .ok (.iastore, 1)) ∧ (decode cX8_call 23 = .ok (.dup, 1)) ∧ (decode cX8_call 24 = .ok (.iconst 4, 1)) ∧ (decode cX8_call 25 = .ok (.iload 8, 2)) ∧ (decode cX8_call 27 = .ok (.iastore, 1)) ∧ (decode cX8_call 28 = .ok (.astore 9, 2)) ∧ (decode cX8_call 30 = .ok (.aload_n 0, 1)) := by decide +kernel
theorem dX8_call_20 : decode cX8_call 20 = .ok (.iload 7, 2) := dX8_call_20_g.1
theorem dX8_call_22 : decode cX8_call 22 = .ok (.iastore, 1) := dX8_call_20_g.2.1
theorem dX8_call_23 : decode cX8_call 23 = .ok (.dup, 1) := dX8_call_20_g.2.2.1
theorem dX8_call_24 : decode cX8_call 24 = .ok (.iconst 4, 1) := dX8_call_20_g.2.2.2.1
theorem dX8_call_25 : decode cX8_call 25 = .ok (.iload 8, 2) := dX8_call_20_g.2.2.2.2.1
theorem dX8_call_27 : decode cX8_call 27 = .ok (.iastore, 1) := dX8_call_20_g.2.2.2.2.2.1
theorem dX8_call_28 : decode cX8_call 28 = .ok (.astore 9, 2) := dX8_call_20_g.2.2.2.2.2.2.1
theorem dX8_call_30 : decode cX8_call 30 = .ok (.aload_n 0, 1) := dX8_call_20_g.2.2.2.2.2.2.2
theorem dX8_call_31_g : (decode cX8_call 31 = .ok (.getfield 54, 3)) ∧ (decode cX8_call 34 = .ok (.iload_n 1, 1)) ∧ (decode cX8_call 35 = .ok (.invokevirtual 245, 3)) ∧ (decode cX8_call 38 = .ok (.ifCond .eq 33, 3)) ∧ (decode cX8_call 41 = .ok (.aload_n 0, 1)) ∧ (decode cX8_call 42 = .ok (.getfield 54, 3)) ∧ (decode cX8_call 45 = .ok (.iload_n 2, 1)) ∧ (decode cX8_call 46 = .ok (.invokevirtual 245, 3)) := by decide +kernel
theorem dX8_call_31 : decode cX8_call 31 = .ok (.getfield 54, 3) := dX8_call_31_g.1
theorem dX8_call_34 : decode cX8_call 34 = .ok (.iload_n 1, 1) := dX8_call_31_g.2.1
theorem dX8_call_35 : decode cX8_call 35 = .ok (.invokevirtual 245, 3) := dX8_call_31_g.2.2.1
theorem dX8_call_38 : decode cX8_call 38 = .ok (.ifCond .eq 33, 3) := dX8_call_31_g.2.2.2.1
theorem dX8_call_41 : decode cX8_call 41 = .ok (.aload_n 0, 1) := dX8_call_31_g.2.2.2.2.1
theorem dX8_call_42 : decode cX8_call 42 = .ok (.getfield 54, 3) := dX8_call_31_g.2.2.2.2.2.1
theorem dX8_call_45 : decode cX8_call 45 = .ok (.iload_n 2, 1) := dX8_call_31_g.2.2.2.2.2.2.1
theorem dX8_call_46 : decode cX8_call 46 = .ok (.invokevirtual 245, 3) := dX8_call_31_g.2.2.2.2.2.2.2
theorem dX8_call_49_g : (decode cX8_call 49 = .ok (.ifCond .eq 22, 3)) ∧ (decode cX8_call 52 = .ok (.iload_n 3, 1)) ∧ (decode cX8_call 53 = .ok (.iconst 1, 1)) ∧ (decode cX8_call 54 = .ok (.if_icmp .lt 17, 3)) ∧ (decode cX8_call 57 = .ok (.iload_n 3, 1)) ∧ (decode cX8_call 58 = .ok (.iconst 4, 1)) ∧ (decode cX8_call 59 = .ok (.if_icmp .gt 12, 3)) ∧ (decode cX8_call 62 = .ok (.aload 9, 2)) := by decide +kernel
theorem dX8_call_49 : decode cX8_call 49 = .ok (.ifCond .eq 22, 3) := dX8_call_49_g.1
theorem dX8_call_52 : decode cX8_call 52 = .ok (.iload_n 3, 1) := dX8_call_49_g.2.1
theorem dX8_call_53 : decode cX8_call 53 = .ok (.iconst 1, 1) := dX8_call_49_g.2.2.1
theorem dX8_call_54 : decode cX8_call 54 = .ok (.if_icmp .lt 17, 3) := dX8_call_49_g.2.2.2.1
theorem dX8_call_57 : decode cX8_call 57 = .ok (.iload_n 3, 1) := dX8_call_49_g.2.2.2.2.1
theorem dX8_call_58 : decode cX8_call 58 = .ok (.iconst 4, 1) := dX8_call_49_g.2.2.2.2.2.1
theorem dX8_call_59 : decode cX8_call 59 = .ok (.if_icmp .gt 12, 3) := dX8_call_49_g.2.2.2.2.2.2.1
theorem dX8_call_62 : decode cX8_call 62 = .ok (.aload 9, 2) := dX8_call_49_g.2.2.2.2.2.2.2
theorem dX8_call_64_g : (decode cX8_call 64 = .ok (.iconst 5, 1)) ∧ (decode cX8_call 65 = .ok (.invokestatic 224, 3)) ∧ (decode cX8_call 68 = .ok (.ifCond .ne 9, 3)) ∧ (decode cX8_call 71 = .ok (.aload_n 0, 1)) ∧ (decode cX8_call 72 = .ok (.iconst 1, 1)) ∧ (decode cX8_call 73 = .ok (.invokevirtual 138, 3)) ∧ (decode cX8_call 76 = .ok (.ireturn, 1)) ∧ (decode cX8_call 77 = .ok (.aload_n 0, 1)) := by decide +kernel
theorem dX8_call_64 : decode cX8_call 64 = .ok (.iconst 5, 1) := dX8_call_64_g.1
theorem dX8_call_65 : decode cX8_call 65 = .ok (.invokestatic 224, 3) := dX8_call_64_g.2.1
theorem dX8_call_68 : decode cX8_call 68 = .ok (.ifCond .ne 9, 3) := dX8_call_64_g.2.2.1
theorem dX8_call_71 : decode cX8_call 71 = .ok (.aload_n 0, 1) := dX8_call_64_g.2.2.2.1
theorem dX8_call_72 : decode cX8_call 72 = .ok (.iconst 1, 1) := dX8_call_64_g.2.2.2.2.1
theorem dX8_call_73 : decode cX8_call 73 = .ok (.invokevirtual 138, 3) := dX8_call_64_g.2.2.2.2.2.1
theorem dX8_call_76 : decode cX8_call 76 = .ok (.ireturn, 1) := dX8_call_64_g.2.2.2.2.2.2.1
theorem dX8_call_77 : decode cX8_call 77 = .ok (.aload_n 0, 1) := dX8_call_64_g.2.2.2.2.2.2.2
theorem dX8_call_78_g : (decode cX8_call 78 = .ok (.iload_n 1, 1)) ∧ (decode cX8_call 79 = .ok (.iload_n 2, 1)) ∧ (decode cX8_call 80 = .ok (.iload_n 3, 1)) ∧ (decode cX8_call 81 = .ok (.aload 9, 2)) ∧ (decode cX8_call 83 = .ok (.invokevirtual 251, 3)) ∧ (decode cX8_call 86 = .ok (.ireturn, 1)) := by decide +kernel
theorem dX8_call_78 : decode cX8_call 78 = .ok (.iload_n 1, 1) := dX8_call_78_g.1
theorem dX8_call_79 : decode cX8_call 79 = .ok (.iload_n 2, 1) := dX8_call_78_g.2.1
theorem dX8_call_80 : decode cX8_call 80 = .ok (.iload_n 3, 1) := dX8_call_78_g.2.2.1
theorem dX8_call_81 : decode cX8_call 81 = .ok (.aload 9, 2) := dX8_call_78_g.2.2.2.1
theorem dX8_call_83 : decode cX8_call 83 = .ok (.invokevirtual 251, 3) := dX8_call_78_g.2.2.2.2.1
theorem dX8_call_86 : decode cX8_call 86 = .ok (.ireturn, 1) := dX8_call_78_g.2.2.2.2.2
theorem dX8_count_0_g : (decode cX8_count 0 = .ok (.aload_n 0, 1)) ∧ (decode cX8_count 1 = .ok (.getfield 54, 3)) ∧ (decode cX8_count 4 = .ok (.iload_n 1, 1)) ∧ (decode cX8_count 5 = .ok (.invokevirtual 245, 3)) ∧ (decode cX8_count 8 = .ok (.ifCond .eq 13, 3)) ∧ (decode cX8_count 11 = .ok (.iload_n 2, 1)) ∧ (decode cX8_count 12 = .ok (.ifCond .lt 9, 3)) ∧ (decode cX8_count 15 = .ok (.iload_n 2, 1)) := by decide +kernel
theorem dX8_count_0 : decode cX8_count 0 = .ok (.aload_n 0, 1) := dX8_count_0_g.1
theorem dX8_count_1 : decode cX8_count 1 = .ok (.getfield 54, 3) := dX8_count_0_g.2.1
theorem dX8_count_4 : decode cX8_count 4 = .ok (.iload_n 1, 1) := dX8_count_0_g.2.2.1
theorem dX8_count_5 : decode cX8_count 5 = .ok (.invokevirtual 245, 3) := dX8_count_0_g.2.2.2.1
theorem dX8_count_8 : decode cX8_count 8 = .ok (.ifCond .eq 13, 3) := dX8_count_0_g.2.2.2.2.1
theorem dX8_count_11 : decode cX8_count 11 = .ok (.iload_n 2, 1) := dX8_count_0_g.2.2.2.2.2.1
theorem dX8_count_12 : decode cX8_count 12 = .ok (.ifCond .lt 9, 3) := dX8_count_0_g.2.2.2.2.2.2.1
theorem dX8_count_15 : decode cX8_count 15 = .ok (.iload_n 2, 1) := dX8_count_0_g.2.2.2.2.2.2.2
theorem dX8_count_16_g : (decode cX8_count 16 = .ok (.bipush 60, 2)) ∧ (decode cX8_count 18 = .ok (.if_icmp .le 10, 3)) ∧ (decode cX8_count 21 = .ok (.aload_n 0, 1)) ∧ (decode cX8_count 22 = .ok (.iconst 1, 1)) ∧ (decode cX8_count 23 = .ok (.invokevirtual 138, 3)) ∧ (decode cX8_count 26 = .ok (.i2l, 1)) ∧ (decode cX8_count 27 = .ok (.lreturn, 1)) ∧ (decode cX8_count 28 = .ok (.aload_n 0, 1)) := by decide +kernel
theorem dX8_count_16 : decode cX8_count 16 = .ok (.bipush 60, 2) := dX8_count_16_g.1
theorem dX8_count_18 : decode cX8_count 18 = .ok (.if_icmp .le 10, 3) := dX8_count_16_g.2.1
theorem dX8_count_21 : decode cX8_count 21 = .ok (.aload_n 0, 1) := dX8_count_16_g.2.2.1
theorem dX8_count_22 : decode cX8_count 22 = .ok (.iconst 1, 1) := dX8_count_16_g.2.2.2.1
theorem dX8_count_23 : decode cX8_count 23 = .ok (.invokevirtual 138, 3) := dX8_count_16_g.2.2.2.2.1
theorem dX8_count_26 : decode cX8_count 26 = .ok (.i2l, 1) := dX8_count_16_g.2.2.2.2.2.1
theorem dX8_count_27 : decode cX8_count 27 = .ok (.lreturn, 1) := dX8_count_16_g.2.2.2.2.2.2.1
theorem dX8_count_28 : decode cX8_count 28 = .ok (.aload_n 0, 1) := dX8_count_16_g.2.2.2.2.2.2.2
theorem dX8_count_29_g : (decode cX8_count 29 = .ok (.iconst 0, 1)) ∧ (decode cX8_count 30 = .ok (.putfield 149, 3)) ∧ (decode cX8_count 33 = .ok (.aload_n 0, 1)) ∧ (decode cX8_count 34 = .ok (.getfield 54, 3)) ∧ (decode cX8_count 37 = .ok (.iload_n 1, 1)) ∧ (decode cX8_count 38 = .ok (.iload_n 2, 1)) ∧ (decode cX8_count 39 = .ok (.invokevirtual 255, 3)) ∧ (decode cX8_count 42 = .ok (.lreturn, 1)) := by decide +kernel
theorem dX8_count_29 : decode cX8_count 29 = .ok (.iconst 0, 1) := dX8_count_29_g.1
theorem dX8_count_30 : decode cX8_count 30 = .ok (.putfield 149, 3) := dX8_count_29_g.2.1
theorem dX8_count_33 : decode cX8_count 33 = .ok (.aload_n 0, 1) := dX8_count_29_g.2.2.1
theorem dX8_count_34 : decode cX8_count 34 = .ok (.getfield 54, 3) := dX8_count_29_g.2.2.2.1
theorem dX8_count_37 : decode cX8_count 37 = .ok (.iload_n 1, 1) := dX8_count_29_g.2.2.2.2.1
theorem dX8_count_38 : decode cX8_count 38 = .ok (.iload_n 2, 1) := dX8_count_29_g.2.2.2.2.2.1
theorem dX8_count_39 : decode cX8_count 39 = .ok (.invokevirtual 255, 3) := dX8_count_29_g.2.2.2.2.2.2.1
theorem dX8_count_42 : decode cX8_count 42 = .ok (.lreturn, 1) := dX8_count_29_g.2.2.2.2.2.2.2
theorem dX8_tried_0_g : (decode cX8_tried 0 = .ok (.iconst 5, 1)) ∧ (decode cX8_tried 1 = .ok (.newarray .int, 2)) ∧ (decode cX8_tried 3 = .ok (.dup, 1)) ∧ (decode cX8_tried 4 = .ok (.iconst 0, 1)) ∧ (decode cX8_tried 5 = .ok (.iload_n 3, 1)) ∧ (decode cX8_tried 6 = .ok (.iastore, 1)) ∧ (decode cX8_tried 7 = .ok (.dup, 1)) ∧ (decode cX8_tried 8 = .ok (.iconst 1, 1)) := by decide +kernel
theorem dX8_tried_0 : decode cX8_tried 0 = .ok (.iconst 5, 1) := dX8_tried_0_g.1
theorem dX8_tried_1 : decode cX8_tried 1 = .ok (.newarray .int, 2) := dX8_tried_0_g.2.1
theorem dX8_tried_3 : decode cX8_tried 3 = .ok (.dup, 1) := dX8_tried_0_g.2.2.1
theorem dX8_tried_4 : decode cX8_tried 4 = .ok (.iconst 0, 1) := dX8_tried_0_g.2.2.2.1
theorem dX8_tried_5 : decode cX8_tried 5 = .ok (.iload_n 3, 1) := dX8_tried_0_g.2.2.2.2.1
theorem dX8_tried_6 : decode cX8_tried 6 = .ok (.iastore, 1) := dX8_tried_0_g.2.2.2.2.2.1
theorem dX8_tried_7 : decode cX8_tried 7 = .ok (.dup, 1) := dX8_tried_0_g.2.2.2.2.2.2.1
theorem dX8_tried_8 : decode cX8_tried 8 = .ok (.iconst 1, 1) := dX8_tried_0_g.2.2.2.2.2.2.2
theorem dX8_tried_9_g : (decode cX8_tried 9 = .ok (.iload 4, 2)) ∧ (decode cX8_tried 11 = .ok (.iastore, 1)) ∧ (decode cX8_tried 12 = .ok (.dup, 1)) ∧ (decode cX8_tried 13 = .ok (.iconst 2, 1)) ∧ (decode cX8_tried 14 = .ok (.iload 5, 2)) ∧ (decode cX8_tried 16 = .ok (.iastore, 1)) ∧ (decode cX8_tried 17 = .ok (.dup, 1)) ∧ (decode cX8_tried 18 = .ok (.iconst 3, 1)) := by decide +kernel
theorem dX8_tried_9 : decode cX8_tried 9 = .ok (.iload 4, 2) := dX8_tried_9_g.1
theorem dX8_tried_11 : decode cX8_tried 11 = .ok (.iastore, 1) := dX8_tried_9_g.2.1
theorem dX8_tried_12 : decode cX8_tried 12 = .ok (.dup, 1) := dX8_tried_9_g.2.2.1
theorem dX8_tried_13 : decode cX8_tried 13 = .ok (.iconst 2, 1) := dX8_tried_9_g.2.2.2.1
theorem dX8_tried_14 : decode cX8_tried 14 = .ok (.iload 5, 2) := dX8_tried_9_g.2.2.2.2.1
theorem dX8_tried_16 : decode cX8_tried 16 = .ok (.iastore, 1) := dX8_tried_9_g.2.2.2.2.2.1
theorem dX8_tried_17 : decode cX8_tried 17 = .ok (.dup, 1) := dX8_tried_9_g.2.2.2.2.2.2.1
theorem dX8_tried_18 : decode cX8_tried 18 = .ok (.iconst 3, 1) := dX8_tried_9_g.2.2.2.2.2.2.2
theorem dX8_tried_19_g : (decode cX8_tried 19 = .ok (.iload 6, 2)) ∧ (decode cX8_tried 21 = .ok (.iastore, 1)) ∧ (decode cX8_tried 22 = .ok (.dup, 1)) ∧ (decode cX8_tried 23 = .ok (.iconst 4, 1)) ∧ (decode cX8_tried 24 = .ok (.iload 7, 2)) ∧ (decode cX8_tried 26 = .ok (.iastore, 1)) ∧ (decode cX8_tried 27 = .ok (.astore 8, 2)) ∧ (decode cX8_tried 29 = .ok (.aload_n 0, 1)) := by decide +kernel
theorem dX8_tried_19 : decode cX8_tried 19 = .ok (.iload 6, 2) := dX8_tried_19_g.1
theorem dX8_tried_21 : decode cX8_tried 21 = .ok (.iastore, 1) := dX8_tried_19_g.2.1
theorem dX8_tried_22 : decode cX8_tried 22 = .ok (.dup, 1) := dX8_tried_19_g.2.2.1
theorem dX8_tried_23 : decode cX8_tried 23 = .ok (.iconst 4, 1) := dX8_tried_19_g.2.2.2.1
theorem dX8_tried_24 : decode cX8_tried 24 = .ok (.iload 7, 2) := dX8_tried_19_g.2.2.2.2.1
theorem dX8_tried_26 : decode cX8_tried 26 = .ok (.iastore, 1) := dX8_tried_19_g.2.2.2.2.2.1
theorem dX8_tried_27 : decode cX8_tried 27 = .ok (.astore 8, 2) := dX8_tried_19_g.2.2.2.2.2.2.1
theorem dX8_tried_29 : decode cX8_tried 29 = .ok (.aload_n 0, 1) := dX8_tried_19_g.2.2.2.2.2.2.2
theorem dX8_tried_30_g : (decode cX8_tried 30 = .ok (.getfield 61, 3)) ∧ (decode cX8_tried 33 = .ok (.iconst (-1), 1)) ∧ (decode cX8_tried 34 = .ok (.putfield 259, 3)) ∧ (decode cX8_tried 37 = .ok (.aload_n 0, 1)) ∧ (decode cX8_tried 38 = .ok (.getfield 54, 3)) ∧ (decode cX8_tried 41 = .ok (.iload_n 1, 1)) ∧ (decode cX8_tried 42 = .ok (.invokevirtual 245, 3)) ∧ (decode cX8_tried 45 = .ok (.ifCond .eq 34, 3)) := by decide +kernel
theorem dX8_tried_30 : decode cX8_tried 30 = .ok (.getfield 61, 3) := dX8_tried_30_g.1
theorem dX8_tried_33 : decode cX8_tried 33 = .ok (.iconst (-1), 1) := dX8_tried_30_g.2.1
theorem dX8_tried_34 : decode cX8_tried 34 = .ok (.putfield 259, 3) := dX8_tried_30_g.2.2.1
theorem dX8_tried_37 : decode cX8_tried 37 = .ok (.aload_n 0, 1) := dX8_tried_30_g.2.2.2.1
theorem dX8_tried_38 : decode cX8_tried 38 = .ok (.getfield 54, 3) := dX8_tried_30_g.2.2.2.2.1
theorem dX8_tried_41 : decode cX8_tried 41 = .ok (.iload_n 1, 1) := dX8_tried_30_g.2.2.2.2.2.1
theorem dX8_tried_42 : decode cX8_tried 42 = .ok (.invokevirtual 245, 3) := dX8_tried_30_g.2.2.2.2.2.2.1
theorem dX8_tried_45 : decode cX8_tried 45 = .ok (.ifCond .eq 34, 3) := dX8_tried_30_g.2.2.2.2.2.2.2
theorem dX8_tried_48_g : (decode cX8_tried 48 = .ok (.iload_n 2, 1)) ∧ (decode cX8_tried 49 = .ok (.iconst 1, 1)) ∧ (decode cX8_tried 50 = .ok (.if_icmp .lt 29, 3)) ∧ (decode cX8_tried 53 = .ok (.iload_n 2, 1)) ∧ (decode cX8_tried 54 = .ok (.aload_n 0, 1)) ∧ (decode cX8_tried 55 = .ok (.getfield 10, 3)) ∧ (decode cX8_tried 58 = .ok (.getfield 127, 3)) ∧ (decode cX8_tried 61 = .ok (.if_icmp .gt 18, 3)) := by decide +kernel
theorem dX8_tried_48 : decode cX8_tried 48 = .ok (.iload_n 2, 1) := dX8_tried_48_g.1
theorem dX8_tried_49 : decode cX8_tried 49 = .ok (.iconst 1, 1) := dX8_tried_48_g.2.1
theorem dX8_tried_50 : decode cX8_tried 50 = .ok (.if_icmp .lt 29, 3) := dX8_tried_48_g.2.2.1
theorem dX8_tried_53 : decode cX8_tried 53 = .ok (.iload_n 2, 1) := dX8_tried_48_g.2.2.2.1
theorem dX8_tried_54 : decode cX8_tried 54 = .ok (.aload_n 0, 1) := dX8_tried_48_g.2.2.2.2.1
theorem dX8_tried_55 : decode cX8_tried 55 = .ok (.getfield 10, 3) := dX8_tried_48_g.2.2.2.2.2.1
theorem dX8_tried_58 : decode cX8_tried 58 = .ok (.getfield 127, 3) := dX8_tried_48_g.2.2.2.2.2.2.1
theorem dX8_tried_61 : decode cX8_tried 61 = .ok (.if_icmp .gt 18, 3) := dX8_tried_48_g.2.2.2.2.2.2.2
theorem dX8_tried_64_g : (decode cX8_tried 64 = .ok (.aload 8, 2)) ∧ (decode cX8_tried 66 = .ok (.aload_n 0, 1)) ∧ (decode cX8_tried 67 = .ok (.getfield 10, 3)) ∧ (decode cX8_tried 70 = .ok (.getfield 221, 3)) ∧ (decode cX8_tried 73 = .ok (.invokestatic 224, 3)) ∧ (decode cX8_tried 76 = .ok (.ifCond .ne 9, 3)) ∧ (decode cX8_tried 79 = .ok (.aload_n 0, 1)) ∧ (decode cX8_tried 80 = .ok (.iconst 1, 1)) := by decide +kernel
theorem dX8_tried_64 : decode cX8_tried 64 = .ok (.aload 8, 2) := dX8_tried_64_g.1
theorem dX8_tried_66 : decode cX8_tried 66 = .ok (.aload_n 0, 1) := dX8_tried_64_g.2.1
theorem dX8_tried_67 : decode cX8_tried 67 = .ok (.getfield 10, 3) := dX8_tried_64_g.2.2.1
theorem dX8_tried_70 : decode cX8_tried 70 = .ok (.getfield 221, 3) := dX8_tried_64_g.2.2.2.1
theorem dX8_tried_73 : decode cX8_tried 73 = .ok (.invokestatic 224, 3) := dX8_tried_64_g.2.2.2.2.1
theorem dX8_tried_76 : decode cX8_tried 76 = .ok (.ifCond .ne 9, 3) := dX8_tried_64_g.2.2.2.2.2.1
theorem dX8_tried_79 : decode cX8_tried 79 = .ok (.aload_n 0, 1) := dX8_tried_64_g.2.2.2.2.2.2.1
theorem dX8_tried_80 : decode cX8_tried 80 = .ok (.iconst 1, 1) := dX8_tried_64_g.2.2.2.2.2.2.2
theorem dX8_tried_81_g : (decode cX8_tried 81 = .ok (.invokevirtual 138, 3)) ∧ (decode cX8_tried 84 = .ok (.ireturn, 1)) ∧ (decode cX8_tried 85 = .ok (.aload_n 0, 1)) ∧ (decode cX8_tried 86 = .ok (.iconst 0, 1)) ∧ (decode cX8_tried 87 = .ok (.putfield 149, 3)) ∧ (decode cX8_tried 90 = .ok (.aload_n 0, 1)) ∧ (decode cX8_tried 91 = .ok (.getfield 61, 3)) ∧ (decode cX8_tried 94 = .ok (.aload_n 0, 1)) := by decide +kernel
theorem dX8_tried_81 : decode cX8_tried 81 = .ok (.invokevirtual 138, 3) := dX8_tried_81_g.1
theorem dX8_tried_84 : decode cX8_tried 84 = .ok (.ireturn, 1) := dX8_tried_81_g.2.1
theorem dX8_tried_85 : decode cX8_tried 85 = .ok (.aload_n 0, 1) := dX8_tried_81_g.2.2.1
theorem dX8_tried_86 : decode cX8_tried 86 = .ok (.iconst 0, 1) := dX8_tried_81_g.2.2.2.1
theorem dX8_tried_87 : decode cX8_tried 87 = .ok (.putfield 149, 3) := dX8_tried_81_g.2.2.2.2.1
theorem dX8_tried_90 : decode cX8_tried 90 = .ok (.aload_n 0, 1) := dX8_tried_81_g.2.2.2.2.2.1
theorem dX8_tried_91 : decode cX8_tried 91 = .ok (.getfield 61, 3) := dX8_tried_81_g.2.2.2.2.2.2.1
theorem dX8_tried_94 : decode cX8_tried 94 = .ok (.aload_n 0, 1) := dX8_tried_81_g.2.2.2.2.2.2.2
theorem dX8_tried_95_g : (decode cX8_tried 95 = .ok (.getfield 10, 3)) ∧ (decode cX8_tried 98 = .ok (.aload 8, 2)) ∧ (decode cX8_tried 100 = .ok (.invokevirtual 262, 3)) ∧ (decode cX8_tried 103 = .ok (.aload_n 0, 1)) ∧ (decode cX8_tried 104 = .ok (.getfield 61, 3)) ∧ (decode cX8_tried 107 = .ok (.aload_n 0, 1)) ∧ (decode cX8_tried 108 = .ok (.getfield 10, 3)) ∧ (decode cX8_tried 111 = .ok (.aload_n 0, 1)) := by decide +kernel
theorem dX8_tried_95 : decode cX8_tried 95 = .ok (.getfield 10, 3) := dX8_tried_95_g.1
theorem dX8_tried_98 : decode cX8_tried 98 = .ok (.aload 8, 2) := dX8_tried_95_g.2.1
theorem dX8_tried_100 : decode cX8_tried 100 = .ok (.invokevirtual 262, 3) := dX8_tried_95_g.2.2.1
theorem dX8_tried_103 : decode cX8_tried 103 = .ok (.aload_n 0, 1) := dX8_tried_95_g.2.2.2.1
theorem dX8_tried_104 : decode cX8_tried 104 = .ok (.getfield 61, 3) := dX8_tried_95_g.2.2.2.2.1
theorem dX8_tried_107 : decode cX8_tried 107 = .ok (.aload_n 0, 1) := dX8_tried_95_g.2.2.2.2.2.1
theorem dX8_tried_108 : decode cX8_tried 108 = .ok (.getfield 10, 3) := dX8_tried_95_g.2.2.2.2.2.2.1
theorem dX8_tried_111 : decode cX8_tried 111 = .ok (.aload_n 0, 1) := dX8_tried_95_g.2.2.2.2.2.2.2
theorem dX8_tried_112_g : (decode cX8_tried 112 = .ok (.getfield 19, 3)) ∧ (decode cX8_tried 115 = .ok (.aload_n 0, 1)) ∧ (decode cX8_tried 116 = .ok (.getfield 54, 3)) ∧ (decode cX8_tried 119 = .ok (.iload_n 1, 1)) ∧ (decode cX8_tried 120 = .ok (.iload_n 2, 1)) ∧ (decode cX8_tried 121 = .ok (.invokevirtual 266, 3)) ∧ (decode cX8_tried 124 = .ok (.ireturn, 1)) := by decide +kernel
theorem dX8_tried_112 : decode cX8_tried 112 = .ok (.getfield 19, 3) := dX8_tried_112_g.1
theorem dX8_tried_115 : decode cX8_tried 115 = .ok (.aload_n 0, 1) := dX8_tried_112_g.2.1
theorem dX8_tried_116 : decode cX8_tried 116 = .ok (.getfield 54, 3) := dX8_tried_112_g.2.2.1
theorem dX8_tried_119 : decode cX8_tried 119 = .ok (.iload_n 1, 1) := dX8_tried_112_g.2.2.2.1
theorem dX8_tried_120 : decode cX8_tried 120 = .ok (.iload_n 2, 1) := dX8_tried_112_g.2.2.2.2.1
theorem dX8_tried_121 : decode cX8_tried 121 = .ok (.invokevirtual 266, 3) := dX8_tried_112_g.2.2.2.2.2.1
theorem dX8_tried_124 : decode cX8_tried 124 = .ok (.ireturn, 1) := dX8_tried_112_g.2.2.2.2.2.2
theorem dX8_failed_0_g : (decode cX8_failed 0 = .ok (.aload_n 0, 1)) ∧ (decode cX8_failed 1 = .ok (.getfield 61, 3)) ∧ (decode cX8_failed 4 = .ok (.getfield 259, 3)) ∧ (decode cX8_failed 7 = .ok (.ireturn, 1)) := by decide +kernel
theorem dX8_failed_0 : decode cX8_failed 0 = .ok (.aload_n 0, 1) := dX8_failed_0_g.1
theorem dX8_failed_1 : decode cX8_failed 1 = .ok (.getfield 61, 3) := dX8_failed_0_g.2.1
theorem dX8_failed_4 : decode cX8_failed 4 = .ok (.getfield 259, 3) := dX8_failed_0_g.2.2.1
theorem dX8_failed_7 : decode cX8_failed 7 = .ok (.ireturn, 1) := dX8_failed_0_g.2.2.2
theorem dX8_trouble_0_g : (decode cX8_trouble 0 = .ok (.aload_n 0, 1)) ∧ (decode cX8_trouble 1 = .ok (.getfield 149, 3)) ∧ (decode cX8_trouble 4 = .ok (.ireturn, 1)) := by decide +kernel
theorem dX8_trouble_0 : decode cX8_trouble 0 = .ok (.aload_n 0, 1) := dX8_trouble_0_g.1
theorem dX8_trouble_1 : decode cX8_trouble 1 = .ok (.getfield 149, 3) := dX8_trouble_0_g.2.1
theorem dX8_trouble_4 : decode cX8_trouble 4 = .ok (.ireturn, 1) := dX8_trouble_0_g.2.2
theorem dX8_size_0_g : (decode cX8_size 0 = .ok (.iload_n 1, 1)) ∧ (decode cX8_size 1 = .ok (.tableswitch 111 0 7 #[47, 55, 63, 71, 79, 87, 95, 103], 47)) ∧ (decode cX8_size 48 = .ok (.aload_n 0, 1)) ∧ (decode cX8_size 49 = .ok (.getfield 10, 3)) ∧ (decode cX8_size 52 = .ok (.getfield 221, 3)) ∧ (decode cX8_size 55 = .ok (.ireturn, 1)) ∧ (decode cX8_size 56 = .ok (.aload_n 0, 1)) ∧ (decode cX8_size 57 = .ok (.getfield 10, 3)) := by decide +kernel
theorem dX8_size_0 : decode cX8_size 0 = .ok (.iload_n 1, 1) := dX8_size_0_g.1
theorem dX8_size_1 : decode cX8_size 1 = .ok (.tableswitch 111 0 7 #[47, 55, 63, 71, 79, 87, 95, 103], 47) := dX8_size_0_g.2.1
theorem dX8_size_48 : decode cX8_size 48 = .ok (.aload_n 0, 1) := dX8_size_0_g.2.2.1
theorem dX8_size_49 : decode cX8_size 49 = .ok (.getfield 10, 3) := dX8_size_0_g.2.2.2.1
theorem dX8_size_52 : decode cX8_size 52 = .ok (.getfield 221, 3) := dX8_size_0_g.2.2.2.2.1
theorem dX8_size_55 : decode cX8_size 55 = .ok (.ireturn, 1) := dX8_size_0_g.2.2.2.2.2.1
theorem dX8_size_56 : decode cX8_size 56 = .ok (.aload_n 0, 1) := dX8_size_0_g.2.2.2.2.2.2.1
theorem dX8_size_57 : decode cX8_size 57 = .ok (.getfield 10, 3) := dX8_size_0_g.2.2.2.2.2.2.2
theorem dX8_size_60_g : (decode cX8_size 60 = .ok (.getfield 127, 3)) ∧ (decode cX8_size 63 = .ok (.ireturn, 1)) ∧ (decode cX8_size 64 = .ok (.aload_n 0, 1)) ∧ (decode cX8_size 65 = .ok (.getfield 10, 3)) ∧ (decode cX8_size 68 = .ok (.invokevirtual 107, 3)) ∧ (decode cX8_size 71 = .ok (.ireturn, 1)) ∧ (decode cX8_size 72 = .ok (.aload_n 0, 1)) ∧ (decode cX8_size 73 = .ok (.getfield 54, 3)) := by decide +kernel
theorem dX8_size_60 : decode cX8_size 60 = .ok (.getfield 127, 3) := dX8_size_60_g.1
theorem dX8_size_63 : decode cX8_size 63 = .ok (.ireturn, 1) := dX8_size_60_g.2.1
theorem dX8_size_64 : decode cX8_size 64 = .ok (.aload_n 0, 1) := dX8_size_60_g.2.2.1
theorem dX8_size_65 : decode cX8_size 65 = .ok (.getfield 10, 3) := dX8_size_60_g.2.2.2.1
theorem dX8_size_68 : decode cX8_size 68 = .ok (.invokevirtual 107, 3) := dX8_size_60_g.2.2.2.2.1
theorem dX8_size_71 : decode cX8_size 71 = .ok (.ireturn, 1) := dX8_size_60_g.2.2.2.2.2.1
theorem dX8_size_72 : decode cX8_size 72 = .ok (.aload_n 0, 1) := dX8_size_60_g.2.2.2.2.2.2.1
theorem dX8_size_73 : decode cX8_size 73 = .ok (.getfield 54, 3) := dX8_size_60_g.2.2.2.2.2.2.2
theorem dX8_size_76_g : (decode cX8_size 76 = .ok (.getfield 239, 3)) ∧ (decode cX8_size 79 = .ok (.ireturn, 1)) ∧ (decode cX8_size 80 = .ok (.aload_n 0, 1)) ∧ (decode cX8_size 81 = .ok (.getfield 26, 3)) ∧ (decode cX8_size 84 = .ok (.getfield 155, 3)) ∧ (decode cX8_size 87 = .ok (.ireturn, 1)) ∧ (decode cX8_size 88 = .ok (.aload_n 0, 1)) ∧ (decode cX8_size 89 = .ok (.getfield 26, 3)) := by decide +kernel
theorem dX8_size_76 : decode cX8_size 76 = .ok (.getfield 239, 3) := dX8_size_76_g.1
theorem dX8_size_79 : decode cX8_size 79 = .ok (.ireturn, 1) := dX8_size_76_g.2.1
theorem dX8_size_80 : decode cX8_size 80 = .ok (.aload_n 0, 1) := dX8_size_76_g.2.2.1
theorem dX8_size_81 : decode cX8_size 81 = .ok (.getfield 26, 3) := dX8_size_76_g.2.2.2.1
theorem dX8_size_84 : decode cX8_size 84 = .ok (.getfield 155, 3) := dX8_size_76_g.2.2.2.2.1
theorem dX8_size_87 : decode cX8_size 87 = .ok (.ireturn, 1) := dX8_size_76_g.2.2.2.2.2.1
theorem dX8_size_88 : decode cX8_size 88 = .ok (.aload_n 0, 1) := dX8_size_76_g.2.2.2.2.2.2.1
theorem dX8_size_89 : decode cX8_size 89 = .ok (.getfield 26, 3) := dX8_size_76_g.2.2.2.2.2.2.2
theorem dX8_size_92_g : (decode cX8_size 92 = .ok (.getfield 161, 3)) ∧ (decode cX8_size 95 = .ok (.ireturn, 1)) ∧ (decode cX8_size 96 = .ok (.aload_n 0, 1)) ∧ (decode cX8_size 97 = .ok (.getfield 33, 3)) ∧ (decode cX8_size 100 = .ok (.getfield 184, 3)) ∧ (decode cX8_size 103 = .ok (.ireturn, 1)) ∧ (decode cX8_size 104 = .ok (.aload_n 0, 1)) ∧ (decode cX8_size 105 = .ok (.getfield 10, 3)) := by decide +kernel
theorem dX8_size_92 : decode cX8_size 92 = .ok (.getfield 161, 3) := dX8_size_92_g.1
theorem dX8_size_95 : decode cX8_size 95 = .ok (.ireturn, 1) := dX8_size_92_g.2.1
theorem dX8_size_96 : decode cX8_size 96 = .ok (.aload_n 0, 1) := dX8_size_92_g.2.2.1
theorem dX8_size_97 : decode cX8_size 97 = .ok (.getfield 33, 3) := dX8_size_92_g.2.2.2.1
theorem dX8_size_100 : decode cX8_size 100 = .ok (.getfield 184, 3) := dX8_size_92_g.2.2.2.2.1
theorem dX8_size_103 : decode cX8_size 103 = .ok (.ireturn, 1) := dX8_size_92_g.2.2.2.2.2.1
theorem dX8_size_104 : decode cX8_size 104 = .ok (.aload_n 0, 1) := dX8_size_92_g.2.2.2.2.2.2.1
theorem dX8_size_105 : decode cX8_size 105 = .ok (.getfield 10, 3) := dX8_size_92_g.2.2.2.2.2.2.2
theorem dX8_size_108_g : (decode cX8_size 108 = .ok (.invokevirtual 270, 3)) ∧ (decode cX8_size 111 = .ok (.ireturn, 1)) ∧ (decode cX8_size 112 = .ok (.iconst (-1), 1)) ∧ (decode cX8_size 113 = .ok (.ireturn, 1)) := by decide +kernel
theorem dX8_size_108 : decode cX8_size 108 = .ok (.invokevirtual 270, 3) := dX8_size_108_g.1
theorem dX8_size_111 : decode cX8_size 111 = .ok (.ireturn, 1) := dX8_size_108_g.2.1
theorem dX8_size_112 : decode cX8_size 112 = .ok (.iconst (-1), 1) := dX8_size_108_g.2.2.1
theorem dX8_size_113 : decode cX8_size 113 = .ok (.ireturn, 1) := dX8_size_108_g.2.2.2
theorem dX8_accept_0_g : (decode cX8_accept 0 = .ok (.aload_n 0, 1)) ∧ (decode cX8_accept 1 = .ok (.iconst 0, 1)) ∧ (decode cX8_accept 2 = .ok (.putfield 149, 3)) ∧ (decode cX8_accept 5 = .ok (.iconst 1, 1)) ∧ (decode cX8_accept 6 = .ok (.ireturn, 1)) := by decide +kernel
theorem dX8_accept_0 : decode cX8_accept 0 = .ok (.aload_n 0, 1) := dX8_accept_0_g.1
theorem dX8_accept_1 : decode cX8_accept 1 = .ok (.iconst 0, 1) := dX8_accept_0_g.2.1
theorem dX8_accept_2 : decode cX8_accept 2 = .ok (.putfield 149, 3) := dX8_accept_0_g.2.2.1
theorem dX8_accept_5 : decode cX8_accept 5 = .ok (.iconst 1, 1) := dX8_accept_0_g.2.2.2.1
theorem dX8_accept_6 : decode cX8_accept 6 = .ok (.ireturn, 1) := dX8_accept_0_g.2.2.2.2
theorem dX8_refuse_0_g : (decode cX8_refuse 0 = .ok (.aload_n 0, 1)) ∧ (decode cX8_refuse 1 = .ok (.iload_n 1, 1)) ∧ (decode cX8_refuse 2 = .ok (.putfield 149, 3)) ∧ (decode cX8_refuse 5 = .ok (.iconst 0, 1)) ∧ (decode cX8_refuse 6 = .ok (.ireturn, 1)) := by decide +kernel
theorem dX8_refuse_0 : decode cX8_refuse 0 = .ok (.aload_n 0, 1) := dX8_refuse_0_g.1
theorem dX8_refuse_1 : decode cX8_refuse 1 = .ok (.iload_n 1, 1) := dX8_refuse_0_g.2.1
theorem dX8_refuse_2 : decode cX8_refuse 2 = .ok (.putfield 149, 3) := dX8_refuse_0_g.2.2.1
theorem dX8_refuse_5 : decode cX8_refuse 5 = .ok (.iconst 0, 1) := dX8_refuse_0_g.2.2.2.1
theorem dX8_refuse_6 : decode cX8_refuse 6 = .ok (.ireturn, 1) := dX8_refuse_0_g.2.2.2.2
theorem dX8_none_0_g : (decode cX8_none 0 = .ok (.aload_n 0, 1)) ∧ (decode cX8_none 1 = .ok (.iload_n 1, 1)) ∧ (decode cX8_none 2 = .ok (.putfield 149, 3)) ∧ (decode cX8_none 5 = .ok (.iconst (-1), 1)) ∧ (decode cX8_none 6 = .ok (.ireturn, 1)) := by decide +kernel
theorem dX8_none_0 : decode cX8_none 0 = .ok (.aload_n 0, 1) := dX8_none_0_g.1
theorem dX8_none_1 : decode cX8_none 1 = .ok (.iload_n 1, 1) := dX8_none_0_g.2.1
theorem dX8_none_2 : decode cX8_none 2 = .ok (.putfield 149, 3) := dX8_none_0_g.2.2.1
theorem dX8_none_5 : decode cX8_none 5 = .ok (.iconst (-1), 1) := dX8_none_0_g.2.2.2.1
theorem dX8_none_6 : decode cX8_none 6 = .ok (.ireturn, 1) := dX8_none_0_g.2.2.2.2
theorem dX8_forgetAll_0_g : (decode cX8_forgetAll 0 = .ok (.aload_n 0, 1)) ∧ (decode cX8_forgetAll 1 = .ok (.getfield 26, 3)) ∧ (decode cX8_forgetAll 4 = .ok (.invokevirtual 117, 3)) ∧ (decode cX8_forgetAll 7 = .ok (.aload_n 0, 1)) ∧ (decode cX8_forgetAll 8 = .ok (.getfield 40, 3)) ∧ (decode cX8_forgetAll 11 = .ok (.invokevirtual 273, 3)) ∧ (decode cX8_forgetAll 14 = .ok (.aload_n 0, 1)) ∧ (decode cX8_forgetAll 15 = .ok (.getfield 47, 3)) := by decide +kernel
theorem dX8_forgetAll_0 : decode cX8_forgetAll 0 = .ok (.aload_n 0, 1) := dX8_forgetAll_0_g.1
theorem dX8_forgetAll_1 : decode cX8_forgetAll 1 = .ok (.getfield 26, 3) := dX8_forgetAll_0_g.2.1
theorem dX8_forgetAll_4 : decode cX8_forgetAll 4 = .ok (.invokevirtual 117, 3) := dX8_forgetAll_0_g.2.2.1
theorem dX8_forgetAll_7 : decode cX8_forgetAll 7 = .ok (.aload_n 0, 1) := dX8_forgetAll_0_g.2.2.2.1
theorem dX8_forgetAll_8 : decode cX8_forgetAll 8 = .ok (.getfield 40, 3) := dX8_forgetAll_0_g.2.2.2.2.1
theorem dX8_forgetAll_11 : decode cX8_forgetAll 11 = .ok (.invokevirtual 273, 3) := dX8_forgetAll_0_g.2.2.2.2.2.1
theorem dX8_forgetAll_14 : decode cX8_forgetAll 14 = .ok (.aload_n 0, 1) := dX8_forgetAll_0_g.2.2.2.2.2.2.1
theorem dX8_forgetAll_15 : decode cX8_forgetAll 15 = .ok (.getfield 47, 3) := dX8_forgetAll_0_g.2.2.2.2.2.2.2
theorem dX8_forgetAll_18_g : (decode cX8_forgetAll 18 = .ok (.invokevirtual 274, 3)) ∧ (decode cX8_forgetAll 21 = .ok (.return_, 1)) := by decide +kernel
theorem dX8_forgetAll_18 : decode cX8_forgetAll 18 = .ok (.invokevirtual 274, 3) := dX8_forgetAll_18_g.1
theorem dX8_forgetAll_21 : decode cX8_forgetAll 21 = .ok (.return_, 1) := dX8_forgetAll_18_g.2
theorem dX8_isRight_0_g : (decode cX8_isRight 0 = .ok (.aload_n 0, 1)) ∧ (decode cX8_isRight 1 = .ok (.getfield 19, 3)) ∧ (decode cX8_isRight 4 = .ok (.aload_n 0, 1)) ∧ (decode cX8_isRight 5 = .ok (.getfield 10, 3)) ∧ (decode cX8_isRight 8 = .ok (.iload_n 1, 1)) ∧ (decode cX8_isRight 9 = .ok (.invokevirtual 120, 3)) ∧ (decode cX8_isRight 12 = .ok (.aload_n 0, 1)) ∧ (decode cX8_isRight 13 = .ok (.getfield 19, 3)) := by decide +kernel
theorem dX8_isRight_0 : decode cX8_isRight 0 = .ok (.aload_n 0, 1) := dX8_isRight_0_g.1
theorem dX8_isRight_1 : decode cX8_isRight 1 = .ok (.getfield 19, 3) := dX8_isRight_0_g.2.1
theorem dX8_isRight_4 : decode cX8_isRight 4 = .ok (.aload_n 0, 1) := dX8_isRight_0_g.2.2.1
theorem dX8_isRight_5 : decode cX8_isRight 5 = .ok (.getfield 10, 3) := dX8_isRight_0_g.2.2.2.1
theorem dX8_isRight_8 : decode cX8_isRight 8 = .ok (.iload_n 1, 1) := dX8_isRight_0_g.2.2.2.2.1
theorem dX8_isRight_9 : decode cX8_isRight 9 = .ok (.invokevirtual 120, 3) := dX8_isRight_0_g.2.2.2.2.2.1
theorem dX8_isRight_12 : decode cX8_isRight 12 = .ok (.aload_n 0, 1) := dX8_isRight_0_g.2.2.2.2.2.2.1
theorem dX8_isRight_13 : decode cX8_isRight 13 = .ok (.getfield 19, 3) := dX8_isRight_0_g.2.2.2.2.2.2.2
theorem dX8_isRight_16_g : (decode cX8_isRight 16 = .ok (.getfield 275, 3)) ∧ (decode cX8_isRight 19 = .ok (.ireturn, 1)) := by decide +kernel
theorem dX8_isRight_16 : decode cX8_isRight 16 = .ok (.getfield 275, 3) := dX8_isRight_16_g.1
theorem dX8_isRight_19 : decode cX8_isRight 19 = .ok (.ireturn, 1) := dX8_isRight_16_g.2
theorem dX8_searched_0_g : (decode cX8_searched 0 = .ok (.aload_n 0, 1)) ∧ (decode cX8_searched 1 = .ok (.getfield 10, 3)) ∧ (decode cX8_searched 4 = .ok (.getfield 114, 3)) ∧ (decode cX8_searched 7 = .ok (.sipush 20000, 3)) ∧ (decode cX8_searched 10 = .ok (.if_icmp .le 9, 3)) ∧ (decode cX8_searched 13 = .ok (.aload_n 0, 1)) ∧ (decode cX8_searched 14 = .ok (.iconst 2, 1)) ∧ (decode cX8_searched 15 = .ok (.invokevirtual 65, 3)) := by decide +kernel
theorem dX8_searched_0 : decode cX8_searched 0 = .ok (.aload_n 0, 1) := dX8_searched_0_g.1
theorem dX8_searched_1 : decode cX8_searched 1 = .ok (.getfield 10, 3) := dX8_searched_0_g.2.1
theorem dX8_searched_4 : decode cX8_searched 4 = .ok (.getfield 114, 3) := dX8_searched_0_g.2.2.1
theorem dX8_searched_7 : decode cX8_searched 7 = .ok (.sipush 20000, 3) := dX8_searched_0_g.2.2.2.1
theorem dX8_searched_10 : decode cX8_searched 10 = .ok (.if_icmp .le 9, 3) := dX8_searched_0_g.2.2.2.2.1
theorem dX8_searched_13 : decode cX8_searched 13 = .ok (.aload_n 0, 1) := dX8_searched_0_g.2.2.2.2.2.1
theorem dX8_searched_14 : decode cX8_searched 14 = .ok (.iconst 2, 1) := dX8_searched_0_g.2.2.2.2.2.2.1
theorem dX8_searched_15 : decode cX8_searched 15 = .ok (.invokevirtual 65, 3) := dX8_searched_0_g.2.2.2.2.2.2.2
theorem dX8_searched_18_g : (decode cX8_searched 18 = .ok (.ireturn, 1)) ∧ (decode cX8_searched 19 = .ok (.aload_n 0, 1)) ∧ (decode cX8_searched 20 = .ok (.getfield 40, 3)) ∧ (decode cX8_searched 23 = .ok (.aload_n 0, 1)) ∧ (decode cX8_searched 24 = .ok (.getfield 10, 3)) ∧ (decode cX8_searched 27 = .ok (.aload_n 0, 1)) ∧ (decode cX8_searched 28 = .ok (.getfield 19, 3)) ∧ (decode cX8_searched 31 = .ok (.aload_n 0, 1)) := by decide +kernel
theorem dX8_searched_18 : decode cX8_searched 18 = .ok (.ireturn, 1) := dX8_searched_18_g.1
theorem dX8_searched_19 : decode cX8_searched 19 = .ok (.aload_n 0, 1) := dX8_searched_18_g.2.1
theorem dX8_searched_20 : decode cX8_searched 20 = .ok (.getfield 40, 3) := dX8_searched_18_g.2.2.1
theorem dX8_searched_23 : decode cX8_searched 23 = .ok (.aload_n 0, 1) := dX8_searched_18_g.2.2.2.1
theorem dX8_searched_24 : decode cX8_searched 24 = .ok (.getfield 10, 3) := dX8_searched_18_g.2.2.2.2.1
theorem dX8_searched_27 : decode cX8_searched 27 = .ok (.aload_n 0, 1) := dX8_searched_18_g.2.2.2.2.2.1
theorem dX8_searched_28 : decode cX8_searched 28 = .ok (.getfield 19, 3) := dX8_searched_18_g.2.2.2.2.2.2.1
theorem dX8_searched_31 : decode cX8_searched 31 = .ok (.aload_n 0, 1) := dX8_searched_18_g.2.2.2.2.2.2.2
theorem dX8_searched_32_g : (decode cX8_searched 32 = .ok (.getfield 73, 3)) ∧ (decode cX8_searched 35 = .ok (.invokevirtual 279, 3)) ∧ (decode cX8_searched 38 = .ok (.aload_n 0, 1)) ∧ (decode cX8_searched 39 = .ok (.invokevirtual 83, 3)) ∧ (decode cX8_searched 42 = .ok (.ireturn, 1)) := by decide +kernel
theorem dX8_searched_32 : decode cX8_searched 32 = .ok (.getfield 73, 3) := dX8_searched_32_g.1
theorem dX8_searched_35 : decode cX8_searched 35 = .ok (.invokevirtual 279, 3) := dX8_searched_32_g.2.1
theorem dX8_searched_38 : decode cX8_searched 38 = .ok (.aload_n 0, 1) := dX8_searched_32_g.2.2.1
theorem dX8_searched_39 : decode cX8_searched 39 = .ok (.invokevirtual 83, 3) := dX8_searched_32_g.2.2.2.1
theorem dX8_searched_42 : decode cX8_searched 42 = .ok (.ireturn, 1) := dX8_searched_32_g.2.2.2.2
theorem dX8_renamed_0_g : (decode cX8_renamed 0 = .ok (.aload_n 0, 1)) ∧ (decode cX8_renamed 1 = .ok (.getfield 19, 3)) ∧ (decode cX8_renamed 4 = .ok (.aload_n 0, 1)) ∧ (decode cX8_renamed 5 = .ok (.getfield 10, 3)) ∧ (decode cX8_renamed 8 = .ok (.iload_n 1, 1)) ∧ (decode cX8_renamed 9 = .ok (.invokevirtual 120, 3)) ∧ (decode cX8_renamed 12 = .ok (.iconst 0, 1)) ∧ (decode cX8_renamed 13 = .ok (.istore_n 3, 1)) := by decide +kernel
theorem dX8_renamed_0 : decode cX8_renamed 0 = .ok (.aload_n 0, 1) := dX8_renamed_0_g.1
theorem dX8_renamed_1 : decode cX8_renamed 1 = .ok (.getfield 19, 3) := dX8_renamed_0_g.2.1
theorem dX8_renamed_4 : decode cX8_renamed 4 = .ok (.aload_n 0, 1) := dX8_renamed_0_g.2.2.1
theorem dX8_renamed_5 : decode cX8_renamed 5 = .ok (.getfield 10, 3) := dX8_renamed_0_g.2.2.2.1
theorem dX8_renamed_8 : decode cX8_renamed 8 = .ok (.iload_n 1, 1) := dX8_renamed_0_g.2.2.2.2.1
theorem dX8_renamed_9 : decode cX8_renamed 9 = .ok (.invokevirtual 120, 3) := dX8_renamed_0_g.2.2.2.2.2.1
theorem dX8_renamed_12 : decode cX8_renamed 12 = .ok (.iconst 0, 1) := dX8_renamed_0_g.2.2.2.2.2.2.1
theorem dX8_renamed_13 : decode cX8_renamed 13 = .ok (.istore_n 3, 1) := dX8_renamed_0_g.2.2.2.2.2.2.2
theorem dX8_renamed_14_g : (decode cX8_renamed 14 = .ok (.iconst 0, 1)) ∧ (decode cX8_renamed 15 = .ok (.istore 4, 2)) ∧ (decode cX8_renamed 17 = .ok (.iload 4, 2)) ∧ (decode cX8_renamed 19 = .ok (.aload_n 0, 1)) ∧ (decode cX8_renamed 20 = .ok (.getfield 10, 3)) ∧ (decode cX8_renamed 23 = .ok (.getfield 127, 3)) ∧ (decode cX8_renamed 26 = .ok (.if_icmp .ge 35, 3)) ∧ (decode cX8_renamed 29 = .ok (.iload_n 3, 1)) := by decide +kernel
theorem dX8_renamed_14 : decode cX8_renamed 14 = .ok (.iconst 0, 1) := dX8_renamed_14_g.1
theorem dX8_renamed_15 : decode cX8_renamed 15 = .ok (.istore 4, 2) := dX8_renamed_14_g.2.1
theorem dX8_renamed_17 : decode cX8_renamed 17 = .ok (.iload 4, 2) := dX8_renamed_14_g.2.2.1
theorem dX8_renamed_19 : decode cX8_renamed 19 = .ok (.aload_n 0, 1) := dX8_renamed_14_g.2.2.2.1
theorem dX8_renamed_20 : decode cX8_renamed 20 = .ok (.getfield 10, 3) := dX8_renamed_14_g.2.2.2.2.1
theorem dX8_renamed_23 : decode cX8_renamed 23 = .ok (.getfield 127, 3) := dX8_renamed_14_g.2.2.2.2.2.1
theorem dX8_renamed_26 : decode cX8_renamed 26 = .ok (.if_icmp .ge 35, 3) := dX8_renamed_14_g.2.2.2.2.2.2.1
theorem dX8_renamed_29 : decode cX8_renamed 29 = .ok (.iload_n 3, 1) := dX8_renamed_14_g.2.2.2.2.2.2.2
theorem dX8_renamed_30_g : (decode cX8_renamed 30 = .ok (.aload_n 2, 1)) ∧ (decode cX8_renamed 31 = .ok (.aload_n 0, 1)) ∧ (decode cX8_renamed 32 = .ok (.getfield 19, 3)) ∧ (decode cX8_renamed 35 = .ok (.getfield 124, 3)) ∧ (decode cX8_renamed 38 = .ok (.iload 4, 2)) ∧ (decode cX8_renamed 40 = .ok (.iaload, 1)) ∧ (decode cX8_renamed 41 = .ok (.iaload, 1)) ∧ (decode cX8_renamed 42 = .ok (.aload_n 0, 1)) := by decide +kernel
theorem dX8_renamed_30 : decode cX8_renamed 30 = .ok (.aload_n 2, 1) := dX8_renamed_30_g.1
theorem dX8_renamed_31 : decode cX8_renamed 31 = .ok (.aload_n 0, 1) := dX8_renamed_30_g.2.1
theorem dX8_renamed_32 : decode cX8_renamed 32 = .ok (.getfield 19, 3) := dX8_renamed_30_g.2.2.1
theorem dX8_renamed_35 : decode cX8_renamed 35 = .ok (.getfield 124, 3) := dX8_renamed_30_g.2.2.2.1
theorem dX8_renamed_38 : decode cX8_renamed 38 = .ok (.iload 4, 2) := dX8_renamed_30_g.2.2.2.2.1
theorem dX8_renamed_40 : decode cX8_renamed 40 = .ok (.iaload, 1) := dX8_renamed_30_g.2.2.2.2.2.1
theorem dX8_renamed_41 : decode cX8_renamed 41 = .ok (.iaload, 1) := dX8_renamed_30_g.2.2.2.2.2.2.1
theorem dX8_renamed_42 : decode cX8_renamed 42 = .ok (.aload_n 0, 1) := dX8_renamed_30_g.2.2.2.2.2.2.2
theorem dX8_renamed_43_g : (decode cX8_renamed 43 = .ok (.getfield 10, 3)) ∧ (decode cX8_renamed 46 = .ok (.getfield 283, 3)) ∧ (decode cX8_renamed 49 = .ok (.iload 4, 2)) ∧ (decode cX8_renamed 51 = .ok (.iaload, 1)) ∧ (decode cX8_renamed 52 = .ok (.imul, 1)) ∧ (decode cX8_renamed 53 = .ok (.iadd, 1)) ∧ (decode cX8_renamed 54 = .ok (.istore_n 3, 1)) ∧ (decode cX8_renamed 55 = .ok (.iinc 4 1, 3)) := by decide +kernel
theorem dX8_renamed_43 : decode cX8_renamed 43 = .ok (.getfield 10, 3) := dX8_renamed_43_g.1
theorem dX8_renamed_46 : decode cX8_renamed 46 = .ok (.getfield 283, 3) := dX8_renamed_43_g.2.1
theorem dX8_renamed_49 : decode cX8_renamed 49 = .ok (.iload 4, 2) := dX8_renamed_43_g.2.2.1
theorem dX8_renamed_51 : decode cX8_renamed 51 = .ok (.iaload, 1) := dX8_renamed_43_g.2.2.2.1
theorem dX8_renamed_52 : decode cX8_renamed 52 = .ok (.imul, 1) := dX8_renamed_43_g.2.2.2.2.1
theorem dX8_renamed_53 : decode cX8_renamed 53 = .ok (.iadd, 1) := dX8_renamed_43_g.2.2.2.2.2.1
theorem dX8_renamed_54 : decode cX8_renamed 54 = .ok (.istore_n 3, 1) := dX8_renamed_43_g.2.2.2.2.2.2.1
theorem dX8_renamed_55 : decode cX8_renamed 55 = .ok (.iinc 4 1, 3) := dX8_renamed_43_g.2.2.2.2.2.2.2
theorem dX8_renamed_58_g : (decode cX8_renamed 58 = .ok (.goto (-41), 3)) ∧ (decode cX8_renamed 61 = .ok (.iload_n 3, 1)) ∧ (decode cX8_renamed 62 = .ok (.ireturn, 1)) := by decide +kernel
theorem dX8_renamed_58 : decode cX8_renamed 58 = .ok (.goto (-41), 3) := dX8_renamed_58_g.1
theorem dX8_renamed_61 : decode cX8_renamed 61 = .ok (.iload_n 3, 1) := dX8_renamed_58_g.2.1
theorem dX8_renamed_62 : decode cX8_renamed 62 = .ok (.ireturn, 1) := dX8_renamed_58_g.2.2
theorem dX8_addStep_0_g : (decode cX8_addStep 0 = .ok (.aload_n 0, 1)) ∧ (decode cX8_addStep 1 = .ok (.getfield 54, 3)) ∧ (decode cX8_addStep 4 = .ok (.iload_n 1, 1)) ∧ (decode cX8_addStep 5 = .ok (.invokevirtual 286, 3)) ∧ (decode cX8_addStep 8 = .ok (.ifCond .eq 9, 3)) ∧ (decode cX8_addStep 11 = .ok (.aload_n 0, 1)) ∧ (decode cX8_addStep 12 = .ok (.iconst 5, 1)) ∧ (decode cX8_addStep 13 = .ok (.invokevirtual 138, 3)) := by decide +kernel
theorem dX8_addStep_0 : decode cX8_addStep 0 = .ok (.aload_n 0, 1) := dX8_addStep_0_g.1
theorem dX8_addStep_1 : decode cX8_addStep 1 = .ok (.getfield 54, 3) := dX8_addStep_0_g.2.1
theorem dX8_addStep_4 : decode cX8_addStep 4 = .ok (.iload_n 1, 1) := dX8_addStep_0_g.2.2.1
theorem dX8_addStep_5 : decode cX8_addStep 5 = .ok (.invokevirtual 286, 3) := dX8_addStep_0_g.2.2.2.1
theorem dX8_addStep_8 : decode cX8_addStep 8 = .ok (.ifCond .eq 9, 3) := dX8_addStep_0_g.2.2.2.2.1
theorem dX8_addStep_11 : decode cX8_addStep 11 = .ok (.aload_n 0, 1) := dX8_addStep_0_g.2.2.2.2.2.1
theorem dX8_addStep_12 : decode cX8_addStep 12 = .ok (.iconst 5, 1) := dX8_addStep_0_g.2.2.2.2.2.2.1
theorem dX8_addStep_13 : decode cX8_addStep 13 = .ok (.invokevirtual 138, 3) := dX8_addStep_0_g.2.2.2.2.2.2.2
theorem dX8_addStep_16_g : (decode cX8_addStep 16 = .ok (.ireturn, 1)) ∧ (decode cX8_addStep 17 = .ok (.aload_n 0, 1)) ∧ (decode cX8_addStep 18 = .ok (.iconst 0, 1)) ∧ (decode cX8_addStep 19 = .ok (.putfield 149, 3)) ∧ (decode cX8_addStep 22 = .ok (.aload_n 0, 1)) ∧ (decode cX8_addStep 23 = .ok (.getfield 54, 3)) ∧ (decode cX8_addStep 26 = .ok (.iload_n 1, 1)) ∧ (decode cX8_addStep 27 = .ok (.iload_n 2, 1)) := by decide +kernel
theorem dX8_addStep_16 : decode cX8_addStep 16 = .ok (.ireturn, 1) := dX8_addStep_16_g.1
theorem dX8_addStep_17 : decode cX8_addStep 17 = .ok (.aload_n 0, 1) := dX8_addStep_16_g.2.1
theorem dX8_addStep_18 : decode cX8_addStep 18 = .ok (.iconst 0, 1) := dX8_addStep_16_g.2.2.1
theorem dX8_addStep_19 : decode cX8_addStep 19 = .ok (.putfield 149, 3) := dX8_addStep_16_g.2.2.2.1
theorem dX8_addStep_22 : decode cX8_addStep 22 = .ok (.aload_n 0, 1) := dX8_addStep_16_g.2.2.2.2.1
theorem dX8_addStep_23 : decode cX8_addStep 23 = .ok (.getfield 54, 3) := dX8_addStep_16_g.2.2.2.2.2.1
theorem dX8_addStep_26 : decode cX8_addStep 26 = .ok (.iload_n 1, 1) := dX8_addStep_16_g.2.2.2.2.2.2.1
theorem dX8_addStep_27 : decode cX8_addStep 27 = .ok (.iload_n 2, 1) := dX8_addStep_16_g.2.2.2.2.2.2.2
theorem dX8_addStep_28_g : (decode cX8_addStep 28 = .ok (.iload_n 3, 1)) ∧ (decode cX8_addStep 29 = .ok (.aload 4, 2)) ∧ (decode cX8_addStep 31 = .ok (.invokevirtual 289, 3)) ∧ (decode cX8_addStep 34 = .ok (.ireturn, 1)) := by decide +kernel
theorem dX8_addStep_28 : decode cX8_addStep 28 = .ok (.iload_n 3, 1) := dX8_addStep_28_g.1
theorem dX8_addStep_29 : decode cX8_addStep 29 = .ok (.aload 4, 2) := dX8_addStep_28_g.2.1
theorem dX8_addStep_31 : decode cX8_addStep 31 = .ok (.invokevirtual 289, 3) := dX8_addStep_28_g.2.2.1
theorem dX8_addStep_34 : decode cX8_addStep 34 = .ok (.ireturn, 1) := dX8_addStep_28_g.2.2.2
theorem dX8_isRole_0_g : (decode cX8_isRole 0 = .ok (.iload_n 0, 1)) ∧ (decode cX8_isRole 1 = .ok (.ifCond .lt 12, 3)) ∧ (decode cX8_isRole 4 = .ok (.iload_n 0, 1)) ∧ (decode cX8_isRole 5 = .ok (.iconst 5, 1)) ∧ (decode cX8_isRole 6 = .ok (.if_icmp .ge 7, 3)) ∧ (decode cX8_isRole 9 = .ok (.iconst 1, 1)) ∧ (decode cX8_isRole 10 = .ok (.goto 4, 3)) ∧ (decode cX8_isRole 13 = .ok (.iconst 0, 1)) := by decide +kernel
theorem dX8_isRole_0 : decode cX8_isRole 0 = .ok (.iload_n 0, 1) := dX8_isRole_0_g.1
theorem dX8_isRole_1 : decode cX8_isRole 1 = .ok (.ifCond .lt 12, 3) := dX8_isRole_0_g.2.1
theorem dX8_isRole_4 : decode cX8_isRole 4 = .ok (.iload_n 0, 1) := dX8_isRole_0_g.2.2.1
theorem dX8_isRole_5 : decode cX8_isRole 5 = .ok (.iconst 5, 1) := dX8_isRole_0_g.2.2.2.1
theorem dX8_isRole_6 : decode cX8_isRole 6 = .ok (.if_icmp .ge 7, 3) := dX8_isRole_0_g.2.2.2.2.1
theorem dX8_isRole_9 : decode cX8_isRole 9 = .ok (.iconst 1, 1) := dX8_isRole_0_g.2.2.2.2.2.1
theorem dX8_isRole_10 : decode cX8_isRole 10 = .ok (.goto 4, 3) := dX8_isRole_0_g.2.2.2.2.2.2.1
theorem dX8_isRole_13 : decode cX8_isRole 13 = .ok (.iconst 0, 1) := dX8_isRole_0_g.2.2.2.2.2.2.2
theorem dX8_isRole_14 : decode cX8_isRole 14 = .ok (.ireturn, 1) := by decide +kernel
theorem dX8_isRearrangement_0_g : (decode cX8_isRearrangement 0 = .ok (.iconst 0, 1)) ∧ (decode cX8_isRearrangement 1 = .ok (.istore_n 2, 1)) ∧ (decode cX8_isRearrangement 2 = .ok (.iconst 0, 1)) ∧ (decode cX8_isRearrangement 3 = .ok (.istore_n 3, 1)) ∧ (decode cX8_isRearrangement 4 = .ok (.iload_n 3, 1)) ∧ (decode cX8_isRearrangement 5 = .ok (.iload_n 1, 1)) ∧ (decode cX8_isRearrangement 6 = .ok (.if_icmp .ge 32, 3)) ∧ (decode cX8_isRearrangement 9 = .ok (.aload_n 0, 1)) := by decide +kernel
theorem dX8_isRearrangement_0 : decode cX8_isRearrangement 0 = .ok (.iconst 0, 1) := dX8_isRearrangement_0_g.1
theorem dX8_isRearrangement_1 : decode cX8_isRearrangement 1 = .ok (.istore_n 2, 1) := dX8_isRearrangement_0_g.2.1
theorem dX8_isRearrangement_2 : decode cX8_isRearrangement 2 = .ok (.iconst 0, 1) := dX8_isRearrangement_0_g.2.2.1
theorem dX8_isRearrangement_3 : decode cX8_isRearrangement 3 = .ok (.istore_n 3, 1) := dX8_isRearrangement_0_g.2.2.2.1
theorem dX8_isRearrangement_4 : decode cX8_isRearrangement 4 = .ok (.iload_n 3, 1) := dX8_isRearrangement_0_g.2.2.2.2.1
theorem dX8_isRearrangement_5 : decode cX8_isRearrangement 5 = .ok (.iload_n 1, 1) := dX8_isRearrangement_0_g.2.2.2.2.2.1
theorem dX8_isRearrangement_6 : decode cX8_isRearrangement 6 = .ok (.if_icmp .ge 32, 3) := dX8_isRearrangement_0_g.2.2.2.2.2.2.1
theorem dX8_isRearrangement_9 : decode cX8_isRearrangement 9 = .ok (.aload_n 0, 1) := dX8_isRearrangement_0_g.2.2.2.2.2.2.2
theorem dX8_isRearrangement_10_g : (decode cX8_isRearrangement 10 = .ok (.iload_n 3, 1)) ∧ (decode cX8_isRearrangement 11 = .ok (.iaload, 1)) ∧ (decode cX8_isRearrangement 12 = .ok (.ifCond .lt 10, 3)) ∧ (decode cX8_isRearrangement 15 = .ok (.aload_n 0, 1)) ∧ (decode cX8_isRearrangement 16 = .ok (.iload_n 3, 1)) ∧ (decode cX8_isRearrangement 17 = .ok (.iaload, 1)) ∧ (decode cX8_isRearrangement 18 = .ok (.iload_n 1, 1)) ∧ (decode cX8_isRearrangement 19 = .ok (.if_icmp .lt 5, 3)) := by decide +kernel
theorem dX8_isRearrangement_10 : decode cX8_isRearrangement 10 = .ok (.iload_n 3, 1) := dX8_isRearrangement_10_g.1
theorem dX8_isRearrangement_11 : decode cX8_isRearrangement 11 = .ok (.iaload, 1) := dX8_isRearrangement_10_g.2.1
theorem dX8_isRearrangement_12 : decode cX8_isRearrangement 12 = .ok (.ifCond .lt 10, 3) := dX8_isRearrangement_10_g.2.2.1
theorem dX8_isRearrangement_15 : decode cX8_isRearrangement 15 = .ok (.aload_n 0, 1) := dX8_isRearrangement_10_g.2.2.2.1
theorem dX8_isRearrangement_16 : decode cX8_isRearrangement 16 = .ok (.iload_n 3, 1) := dX8_isRearrangement_10_g.2.2.2.2.1
theorem dX8_isRearrangement_17 : decode cX8_isRearrangement 17 = .ok (.iaload, 1) := dX8_isRearrangement_10_g.2.2.2.2.2.1
theorem dX8_isRearrangement_18 : decode cX8_isRearrangement 18 = .ok (.iload_n 1, 1) := dX8_isRearrangement_10_g.2.2.2.2.2.2.1
theorem dX8_isRearrangement_19 : decode cX8_isRearrangement 19 = .ok (.if_icmp .lt 5, 3) := dX8_isRearrangement_10_g.2.2.2.2.2.2.2
theorem dX8_isRearrangement_22_g : (decode cX8_isRearrangement 22 = .ok (.iconst 0, 1)) ∧ (decode cX8_isRearrangement 23 = .ok (.ireturn, 1)) ∧ (decode cX8_isRearrangement 24 = .ok (.iload_n 2, 1)) ∧ (decode cX8_isRearrangement 25 = .ok (.iconst 1, 1)) ∧ (decode cX8_isRearrangement 26 = .ok (.aload_n 0, 1)) ∧ (decode cX8_isRearrangement 27 = .ok (.iload_n 3, 1)) ∧ (decode cX8_isRearrangement 28 = .ok (.iaload, 1)) ∧ (decode cX8_isRearrangement 29 = .ok (.ishl, 1)) := by decide +kernel
theorem dX8_isRearrangement_22 : decode cX8_isRearrangement 22 = .ok (.iconst 0, 1) := dX8_isRearrangement_22_g.1
theorem dX8_isRearrangement_23 : decode cX8_isRearrangement 23 = .ok (.ireturn, 1) := dX8_isRearrangement_22_g.2.1
theorem dX8_isRearrangement_24 : decode cX8_isRearrangement 24 = .ok (.iload_n 2, 1) := dX8_isRearrangement_22_g.2.2.1
theorem dX8_isRearrangement_25 : decode cX8_isRearrangement 25 = .ok (.iconst 1, 1) := dX8_isRearrangement_22_g.2.2.2.1
theorem dX8_isRearrangement_26 : decode cX8_isRearrangement 26 = .ok (.aload_n 0, 1) := dX8_isRearrangement_22_g.2.2.2.2.1
theorem dX8_isRearrangement_27 : decode cX8_isRearrangement 27 = .ok (.iload_n 3, 1) := dX8_isRearrangement_22_g.2.2.2.2.2.1
theorem dX8_isRearrangement_28 : decode cX8_isRearrangement 28 = .ok (.iaload, 1) := dX8_isRearrangement_22_g.2.2.2.2.2.2.1
theorem dX8_isRearrangement_29 : decode cX8_isRearrangement 29 = .ok (.ishl, 1) := dX8_isRearrangement_22_g.2.2.2.2.2.2.2
theorem dX8_isRearrangement_30_g : (decode cX8_isRearrangement 30 = .ok (.ior, 1)) ∧ (decode cX8_isRearrangement 31 = .ok (.istore_n 2, 1)) ∧ (decode cX8_isRearrangement 32 = .ok (.iinc 3 1, 3)) ∧ (decode cX8_isRearrangement 35 = .ok (.goto (-31), 3)) ∧ (decode cX8_isRearrangement 38 = .ok (.iload_n 2, 1)) ∧ (decode cX8_isRearrangement 39 = .ok (.iconst 1, 1)) ∧ (decode cX8_isRearrangement 40 = .ok (.iload_n 1, 1)) ∧ (decode cX8_isRearrangement 41 = .ok (.ishl, 1)) := by decide +kernel
theorem dX8_isRearrangement_30 : decode cX8_isRearrangement 30 = .ok (.ior, 1) := dX8_isRearrangement_30_g.1
theorem dX8_isRearrangement_31 : decode cX8_isRearrangement 31 = .ok (.istore_n 2, 1) := dX8_isRearrangement_30_g.2.1
theorem dX8_isRearrangement_32 : decode cX8_isRearrangement 32 = .ok (.iinc 3 1, 3) := dX8_isRearrangement_30_g.2.2.1
theorem dX8_isRearrangement_35 : decode cX8_isRearrangement 35 = .ok (.goto (-31), 3) := dX8_isRearrangement_30_g.2.2.2.1
theorem dX8_isRearrangement_38 : decode cX8_isRearrangement 38 = .ok (.iload_n 2, 1) := dX8_isRearrangement_30_g.2.2.2.2.1
theorem dX8_isRearrangement_39 : decode cX8_isRearrangement 39 = .ok (.iconst 1, 1) := dX8_isRearrangement_30_g.2.2.2.2.2.1
theorem dX8_isRearrangement_40 : decode cX8_isRearrangement 40 = .ok (.iload_n 1, 1) := dX8_isRearrangement_30_g.2.2.2.2.2.2.1
theorem dX8_isRearrangement_41 : decode cX8_isRearrangement 41 = .ok (.ishl, 1) := dX8_isRearrangement_30_g.2.2.2.2.2.2.2
theorem dX8_isRearrangement_42_g : (decode cX8_isRearrangement 42 = .ok (.iconst 1, 1)) ∧ (decode cX8_isRearrangement 43 = .ok (.isub, 1)) ∧ (decode cX8_isRearrangement 44 = .ok (.if_icmp .ne 7, 3)) ∧ (decode cX8_isRearrangement 47 = .ok (.iconst 1, 1)) ∧ (decode cX8_isRearrangement 48 = .ok (.goto 4, 3)) ∧ (decode cX8_isRearrangement 51 = .ok (.iconst 0, 1)) ∧ (decode cX8_isRearrangement 52 = .ok (.ireturn, 1)) := by decide +kernel
theorem dX8_isRearrangement_42 : decode cX8_isRearrangement 42 = .ok (.iconst 1, 1) := dX8_isRearrangement_42_g.1
theorem dX8_isRearrangement_43 : decode cX8_isRearrangement 43 = .ok (.isub, 1) := dX8_isRearrangement_42_g.2.1
theorem dX8_isRearrangement_44 : decode cX8_isRearrangement 44 = .ok (.if_icmp .ne 7, 3) := dX8_isRearrangement_42_g.2.2.1
theorem dX8_isRearrangement_47 : decode cX8_isRearrangement 47 = .ok (.iconst 1, 1) := dX8_isRearrangement_42_g.2.2.2.1
theorem dX8_isRearrangement_48 : decode cX8_isRearrangement 48 = .ok (.goto 4, 3) := dX8_isRearrangement_42_g.2.2.2.2.1
theorem dX8_isRearrangement_51 : decode cX8_isRearrangement 51 = .ok (.iconst 0, 1) := dX8_isRearrangement_42_g.2.2.2.2.2.1
theorem dX8_isRearrangement_52 : decode cX8_isRearrangement 52 = .ok (.ireturn, 1) := dX8_isRearrangement_42_g.2.2.2.2.2.2
theorem dJ7_fill_d0a16_0_g : (decode cJ7_fill_d0a16 0 = .ok (.iconst 0, 1)) ∧ (decode cJ7_fill_d0a16 1 = .ok (.istore_n 3, 1)) ∧ (decode cJ7_fill_d0a16 2 = .ok (.aload_n 0, 1)) ∧ (decode cJ7_fill_d0a16 3 = .ok (.arraylength, 1)) ∧ (decode cJ7_fill_d0a16 4 = .ok (.istore 4, 2)) ∧ (decode cJ7_fill_d0a16 6 = .ok (.iload_n 3, 1)) ∧ (decode cJ7_fill_d0a16 7 = .ok (.iload 4, 2)) ∧ (decode cJ7_fill_d0a16 9 = .ok (.if_icmp .ge 13, 3)) := by decide +kernel
theorem dJ7_fill_d0a16_0 : decode cJ7_fill_d0a16 0 = .ok (.iconst 0, 1) := dJ7_fill_d0a16_0_g.1
theorem dJ7_fill_d0a16_1 : decode cJ7_fill_d0a16 1 = .ok (.istore_n 3, 1) := dJ7_fill_d0a16_0_g.2.1
theorem dJ7_fill_d0a16_2 : decode cJ7_fill_d0a16 2 = .ok (.aload_n 0, 1) := dJ7_fill_d0a16_0_g.2.2.1
theorem dJ7_fill_d0a16_3 : decode cJ7_fill_d0a16 3 = .ok (.arraylength, 1) := dJ7_fill_d0a16_0_g.2.2.2.1
theorem dJ7_fill_d0a16_4 : decode cJ7_fill_d0a16 4 = .ok (.istore 4, 2) := dJ7_fill_d0a16_0_g.2.2.2.2.1
theorem dJ7_fill_d0a16_6 : decode cJ7_fill_d0a16 6 = .ok (.iload_n 3, 1) := dJ7_fill_d0a16_0_g.2.2.2.2.2.1
theorem dJ7_fill_d0a16_7 : decode cJ7_fill_d0a16 7 = .ok (.iload 4, 2) := dJ7_fill_d0a16_0_g.2.2.2.2.2.2.1
theorem dJ7_fill_d0a16_9 : decode cJ7_fill_d0a16 9 = .ok (.if_icmp .ge 13, 3) := dJ7_fill_d0a16_0_g.2.2.2.2.2.2.2
theorem dJ7_fill_d0a16_12_g : (decode cJ7_fill_d0a16 12 = .ok (.aload_n 0, 1)) ∧ (decode cJ7_fill_d0a16 13 = .ok (.iload_n 3, 1)) ∧ (decode cJ7_fill_d0a16 14 = .ok (.lload_n 1, 1)) ∧ (decode cJ7_fill_d0a16 15 = .ok (.lastore, 1)) ∧ (decode cJ7_fill_d0a16 16 = .ok (.iinc 3 1, 3)) ∧ (decode cJ7_fill_d0a16 19 = .ok (.goto (-13), 3)) ∧ (decode cJ7_fill_d0a16 22 = .ok (.return_, 1)) := by decide +kernel
theorem dJ7_fill_d0a16_12 : decode cJ7_fill_d0a16 12 = .ok (.aload_n 0, 1) := dJ7_fill_d0a16_12_g.1
theorem dJ7_fill_d0a16_13 : decode cJ7_fill_d0a16 13 = .ok (.iload_n 3, 1) := dJ7_fill_d0a16_12_g.2.1
theorem dJ7_fill_d0a16_14 : decode cJ7_fill_d0a16 14 = .ok (.lload_n 1, 1) := dJ7_fill_d0a16_12_g.2.2.1
theorem dJ7_fill_d0a16_15 : decode cJ7_fill_d0a16 15 = .ok (.lastore, 1) := dJ7_fill_d0a16_12_g.2.2.2.1
theorem dJ7_fill_d0a16_16 : decode cJ7_fill_d0a16 16 = .ok (.iinc 3 1, 3) := dJ7_fill_d0a16_12_g.2.2.2.2.1
theorem dJ7_fill_d0a16_19 : decode cJ7_fill_d0a16 19 = .ok (.goto (-13), 3) := dJ7_fill_d0a16_12_g.2.2.2.2.2.1
theorem dJ7_fill_d0a16_22 : decode cJ7_fill_d0a16 22 = .ok (.return_, 1) := dJ7_fill_d0a16_12_g.2.2.2.2.2.2
theorem dJ7_fill_53178_0_g : (decode cJ7_fill_53178 0 = .ok (.iconst 0, 1)) ∧ (decode cJ7_fill_53178 1 = .ok (.istore_n 2, 1)) ∧ (decode cJ7_fill_53178 2 = .ok (.aload_n 0, 1)) ∧ (decode cJ7_fill_53178 3 = .ok (.arraylength, 1)) ∧ (decode cJ7_fill_53178 4 = .ok (.istore_n 3, 1)) ∧ (decode cJ7_fill_53178 5 = .ok (.iload_n 2, 1)) ∧ (decode cJ7_fill_53178 6 = .ok (.iload_n 3, 1)) ∧ (decode cJ7_fill_53178 7 = .ok (.if_icmp .ge 13, 3)) := by decide +kernel
theorem dJ7_fill_53178_0 : decode cJ7_fill_53178 0 = .ok (.iconst 0, 1) := dJ7_fill_53178_0_g.1
theorem dJ7_fill_53178_1 : decode cJ7_fill_53178 1 = .ok (.istore_n 2, 1) := dJ7_fill_53178_0_g.2.1
theorem dJ7_fill_53178_2 : decode cJ7_fill_53178 2 = .ok (.aload_n 0, 1) := dJ7_fill_53178_0_g.2.2.1
theorem dJ7_fill_53178_3 : decode cJ7_fill_53178 3 = .ok (.arraylength, 1) := dJ7_fill_53178_0_g.2.2.2.1
theorem dJ7_fill_53178_4 : decode cJ7_fill_53178 4 = .ok (.istore_n 3, 1) := dJ7_fill_53178_0_g.2.2.2.2.1
theorem dJ7_fill_53178_5 : decode cJ7_fill_53178 5 = .ok (.iload_n 2, 1) := dJ7_fill_53178_0_g.2.2.2.2.2.1
theorem dJ7_fill_53178_6 : decode cJ7_fill_53178 6 = .ok (.iload_n 3, 1) := dJ7_fill_53178_0_g.2.2.2.2.2.2.1
theorem dJ7_fill_53178_7 : decode cJ7_fill_53178 7 = .ok (.if_icmp .ge 13, 3) := dJ7_fill_53178_0_g.2.2.2.2.2.2.2
theorem dJ7_fill_53178_10_g : (decode cJ7_fill_53178 10 = .ok (.aload_n 0, 1)) ∧ (decode cJ7_fill_53178 11 = .ok (.iload_n 2, 1)) ∧ (decode cJ7_fill_53178 12 = .ok (.iload_n 1, 1)) ∧ (decode cJ7_fill_53178 13 = .ok (.iastore, 1)) ∧ (decode cJ7_fill_53178 14 = .ok (.iinc 2 1, 3)) ∧ (decode cJ7_fill_53178 17 = .ok (.goto (-12), 3)) ∧ (decode cJ7_fill_53178 20 = .ok (.return_, 1)) := by decide +kernel
theorem dJ7_fill_53178_10 : decode cJ7_fill_53178 10 = .ok (.aload_n 0, 1) := dJ7_fill_53178_10_g.1
theorem dJ7_fill_53178_11 : decode cJ7_fill_53178 11 = .ok (.iload_n 2, 1) := dJ7_fill_53178_10_g.2.1
theorem dJ7_fill_53178_12 : decode cJ7_fill_53178 12 = .ok (.iload_n 1, 1) := dJ7_fill_53178_10_g.2.2.1
theorem dJ7_fill_53178_13 : decode cJ7_fill_53178 13 = .ok (.iastore, 1) := dJ7_fill_53178_10_g.2.2.2.1
theorem dJ7_fill_53178_14 : decode cJ7_fill_53178 14 = .ok (.iinc 2 1, 3) := dJ7_fill_53178_10_g.2.2.2.2.1
theorem dJ7_fill_53178_17 : decode cJ7_fill_53178 17 = .ok (.goto (-12), 3) := dJ7_fill_53178_10_g.2.2.2.2.2.1
theorem dJ7_fill_53178_20 : decode cJ7_fill_53178 20 = .ok (.return_, 1) := dJ7_fill_53178_10_g.2.2.2.2.2.2
theorem dJ7_copyOf_59c91_0_g : (decode cJ7_copyOf_59c91 0 = .ok (.iload_n 1, 1)) ∧ (decode cJ7_copyOf_59c91 1 = .ok (.aload_n 0, 1)) ∧ (decode cJ7_copyOf_59c91 2 = .ok (.arraylength, 1)) ∧ (decode cJ7_copyOf_59c91 3 = .ok (.if_icmp .ne 11, 3)) ∧ (decode cJ7_copyOf_59c91 6 = .ok (.aload_n 0, 1)) ∧ (decode cJ7_copyOf_59c91 7 = .ok (.invokevirtual 316, 3)) ∧ (decode cJ7_copyOf_59c91 10 = .ok (.checkcast 317, 3)) ∧ (decode cJ7_copyOf_59c91 13 = .ok (.areturn, 1)) := by decide +kernel
theorem dJ7_copyOf_59c91_0 : decode cJ7_copyOf_59c91 0 = .ok (.iload_n 1, 1) := dJ7_copyOf_59c91_0_g.1
theorem dJ7_copyOf_59c91_1 : decode cJ7_copyOf_59c91 1 = .ok (.aload_n 0, 1) := dJ7_copyOf_59c91_0_g.2.1
theorem dJ7_copyOf_59c91_2 : decode cJ7_copyOf_59c91 2 = .ok (.arraylength, 1) := dJ7_copyOf_59c91_0_g.2.2.1
theorem dJ7_copyOf_59c91_3 : decode cJ7_copyOf_59c91 3 = .ok (.if_icmp .ne 11, 3) := dJ7_copyOf_59c91_0_g.2.2.2.1
theorem dJ7_copyOf_59c91_6 : decode cJ7_copyOf_59c91 6 = .ok (.aload_n 0, 1) := dJ7_copyOf_59c91_0_g.2.2.2.2.1
theorem dJ7_copyOf_59c91_7 : decode cJ7_copyOf_59c91 7 = .ok (.invokevirtual 316, 3) := dJ7_copyOf_59c91_0_g.2.2.2.2.2.1
theorem dJ7_copyOf_59c91_10 : decode cJ7_copyOf_59c91 10 = .ok (.checkcast 317, 3) := dJ7_copyOf_59c91_0_g.2.2.2.2.2.2.1
theorem dJ7_copyOf_59c91_13 : decode cJ7_copyOf_59c91 13 = .ok (.areturn, 1) := dJ7_copyOf_59c91_0_g.2.2.2.2.2.2.2
theorem dJ7_copyOf_59c91_14_g : (decode cJ7_copyOf_59c91 14 = .ok (.iload_n 1, 1)) ∧ (decode cJ7_copyOf_59c91 15 = .ok (.newarray .int, 2)) ∧ (decode cJ7_copyOf_59c91 17 = .ok (.astore_n 2, 1)) ∧ (decode cJ7_copyOf_59c91 18 = .ok (.aload_n 0, 1)) ∧ (decode cJ7_copyOf_59c91 19 = .ok (.iconst 0, 1)) ∧ (decode cJ7_copyOf_59c91 20 = .ok (.aload_n 2, 1)) ∧ (decode cJ7_copyOf_59c91 21 = .ok (.iconst 0, 1)) ∧ (decode cJ7_copyOf_59c91 22 = .ok (.aload_n 0, 1)) := by decide +kernel
theorem dJ7_copyOf_59c91_14 : decode cJ7_copyOf_59c91 14 = .ok (.iload_n 1, 1) := dJ7_copyOf_59c91_14_g.1
theorem dJ7_copyOf_59c91_15 : decode cJ7_copyOf_59c91 15 = .ok (.newarray .int, 2) := dJ7_copyOf_59c91_14_g.2.1
theorem dJ7_copyOf_59c91_17 : decode cJ7_copyOf_59c91 17 = .ok (.astore_n 2, 1) := dJ7_copyOf_59c91_14_g.2.2.1
theorem dJ7_copyOf_59c91_18 : decode cJ7_copyOf_59c91 18 = .ok (.aload_n 0, 1) := dJ7_copyOf_59c91_14_g.2.2.2.1
theorem dJ7_copyOf_59c91_19 : decode cJ7_copyOf_59c91 19 = .ok (.iconst 0, 1) := dJ7_copyOf_59c91_14_g.2.2.2.2.1
theorem dJ7_copyOf_59c91_20 : decode cJ7_copyOf_59c91 20 = .ok (.aload_n 2, 1) := dJ7_copyOf_59c91_14_g.2.2.2.2.2.1
theorem dJ7_copyOf_59c91_21 : decode cJ7_copyOf_59c91 21 = .ok (.iconst 0, 1) := dJ7_copyOf_59c91_14_g.2.2.2.2.2.2.1
theorem dJ7_copyOf_59c91_22 : decode cJ7_copyOf_59c91 22 = .ok (.aload_n 0, 1) := dJ7_copyOf_59c91_14_g.2.2.2.2.2.2.2
theorem dJ7_copyOf_59c91_23_g : (decode cJ7_copyOf_59c91 23 = .ok (.arraylength, 1)) ∧ (decode cJ7_copyOf_59c91 24 = .ok (.iload_n 1, 1)) ∧ (decode cJ7_copyOf_59c91 25 = .ok (.invokestatic 304, 3)) ∧ (decode cJ7_copyOf_59c91 28 = .ok (.invokestatic 150, 3)) ∧ (decode cJ7_copyOf_59c91 31 = .ok (.aload_n 2, 1)) ∧ (decode cJ7_copyOf_59c91 32 = .ok (.areturn, 1)) := by decide +kernel
theorem dJ7_copyOf_59c91_23 : decode cJ7_copyOf_59c91 23 = .ok (.arraylength, 1) := dJ7_copyOf_59c91_23_g.1
theorem dJ7_copyOf_59c91_24 : decode cJ7_copyOf_59c91 24 = .ok (.iload_n 1, 1) := dJ7_copyOf_59c91_23_g.2.1
theorem dJ7_copyOf_59c91_25 : decode cJ7_copyOf_59c91 25 = .ok (.invokestatic 304, 3) := dJ7_copyOf_59c91_23_g.2.2.1
theorem dJ7_copyOf_59c91_28 : decode cJ7_copyOf_59c91 28 = .ok (.invokestatic 150, 3) := dJ7_copyOf_59c91_23_g.2.2.2.1
theorem dJ7_copyOf_59c91_31 : decode cJ7_copyOf_59c91 31 = .ok (.aload_n 2, 1) := dJ7_copyOf_59c91_23_g.2.2.2.2.1
theorem dJ7_copyOf_59c91_32 : decode cJ7_copyOf_59c91 32 = .ok (.areturn, 1) := dJ7_copyOf_59c91_23_g.2.2.2.2.2
