theorem dX0_init_0 : decode cX0_init 0 = .ok (.aload_n 0, 1) := by decide +kernel
theorem dX0_init_1 : decode cX0_init 1 = .ok (.invokespecial 3, 3) := by decide +kernel
theorem dX0_init_4 : decode cX0_init 4 = .ok (.aload_n 0, 1) := by decide +kernel
theorem dX0_init_5 : decode cX0_init 5 = .ok (.iload_n 1, 1) := by decide +kernel
theorem dX0_init_6 : decode cX0_init 6 = .ok (.putfield 9, 3) := by decide +kernel
theorem dX0_init_9 : decode cX0_init 9 = .ok (.aload_n 0, 1) := by decide +kernel
theorem dX0_init_10 : decode cX0_init 10 = .ok (.iload_n 2, 1) := by decide +kernel
theorem dX0_init_11 : decode cX0_init 11 = .ok (.putfield 15, 3) := by decide +kernel
theorem dX0_init_14 : decode cX0_init 14 = .ok (.aload_n 0, 1) := by decide +kernel
theorem dX0_init_15 : decode cX0_init 15 = .ok (.bipush 31, 2) := by decide +kernel
theorem dX0_init_17 : decode cX0_init 17 = .ok (.newarray .int, 2) := by decide +kernel
theorem dX0_init_19 : decode cX0_init 19 = .ok (.putfield 18, 3) := by decide +kernel
theorem dX0_init_22 : decode cX0_init 22 = .ok (.aload_n 0, 1) := by decide +kernel
theorem dX0_init_23 : decode cX0_init 23 = .ok (.iconst 0, 1) := by decide +kernel
theorem dX0_init_24 : decode cX0_init 24 = .ok (.putfield 22, 3) := by decide +kernel
theorem dX0_init_27 : decode cX0_init 27 = .ok (.return_, 1) := by decide +kernel
theorem dX0_visit_0 : decode cX0_visit 0 = .ok (.aload_n 0, 1) := by decide +kernel
theorem dX0_visit_1 : decode cX0_visit 1 = .ok (.iload_n 1, 1) := by decide +kernel
theorem dX0_visit_2 : decode cX0_visit 2 = .ok (.putfield 25, 3) := by decide +kernel
theorem dX0_visit_5 : decode cX0_visit 5 = .ok (.aload_n 0, 1) := by decide +kernel
theorem dX0_visit_6 : decode cX0_visit 6 = .ok (.getfield 28, 3) := by decide +kernel
theorem dX0_visit_9 : decode cX0_visit 9 = .ok (.aload_n 0, 1) := by decide +kernel
theorem dX0_visit_10 : decode cX0_visit 10 = .ok (.getfield 18, 3) := by decide +kernel
theorem dX0_visit_13 : decode cX0_visit 13 = .ok (.arraylength, 1) := by decide +kernel
theorem dX0_visit_14 : decode cX0_visit 14 = .ok (.if_icmp .ge 23, 3) := by decide +kernel
theorem dX0_visit_17 : decode cX0_visit 17 = .ok (.aload_n 0, 1) := by decide +kernel
theorem dX0_visit_18 : decode cX0_visit 18 = .ok (.getfield 18, 3) := by decide +kernel
theorem dX0_visit_21 : decode cX0_visit 21 = .ok (.aload_n 0, 1) := by decide +kernel
theorem dX0_visit_22 : decode cX0_visit 22 = .ok (.getfield 28, 3) := by decide +kernel
theorem dX0_visit_25 : decode cX0_visit 25 = .ok (.iload_n 1, 1) := by decide +kernel
theorem dX0_visit_26 : decode cX0_visit 26 = .ok (.iastore, 1) := by decide +kernel
theorem dX0_visit_27 : decode cX0_visit 27 = .ok (.aload_n 0, 1) := by decide +kernel
theorem dX0_visit_28 : decode cX0_visit 28 = .ok (.dup, 1) := by decide +kernel
theorem dX0_visit_29 : decode cX0_visit 29 = .ok (.getfield 28, 3) := by decide +kernel
theorem dX0_visit_32 : decode cX0_visit 32 = .ok (.iconst 1, 1) := by decide +kernel
theorem dX0_visit_33 : decode cX0_visit 33 = .ok (.iadd, 1) := by decide +kernel
theorem dX0_visit_34 : decode cX0_visit 34 = .ok (.putfield 28, 3) := by decide +kernel
theorem dX0_visit_37 : decode cX0_visit 37 = .ok (.return_, 1) := by decide +kernel
theorem dX0_isOn_0 : decode cX0_isOn 0 = .ok (.aload_n 0, 1) := by decide +kernel
theorem dX0_isOn_1 : decode cX0_isOn 1 = .ok (.getfield 25, 3) := by decide +kernel
theorem dX0_isOn_4 : decode cX0_isOn 4 = .ok (.iload_n 1, 1) := by decide +kernel
theorem dX0_isOn_5 : decode cX0_isOn 5 = .ok (.if_icmp .ne 15, 3) := by decide +kernel
theorem dX0_isOn_8 : decode cX0_isOn 8 = .ok (.aload_n 0, 1) := by decide +kernel
theorem dX0_isOn_9 : decode cX0_isOn 9 = .ok (.getfield 31, 3) := by decide +kernel
theorem dX0_isOn_12 : decode cX0_isOn 12 = .ok (.iload_n 2, 1) := by decide +kernel
theorem dX0_isOn_13 : decode cX0_isOn 13 = .ok (.if_icmp .ne 7, 3) := by decide +kernel
theorem dX0_isOn_16 : decode cX0_isOn 16 = .ok (.iconst 1, 1) := by decide +kernel
theorem dX0_isOn_17 : decode cX0_isOn 17 = .ok (.goto 4, 3) := by decide +kernel
theorem dX0_isOn_20 : decode cX0_isOn 20 = .ok (.iconst 0, 1) := by decide +kernel
theorem dX0_isOn_21 : decode cX0_isOn 21 = .ok (.istore_n 3, 1) := by decide +kernel
theorem dX0_isOn_22 : decode cX0_isOn 22 = .ok (.aload_n 0, 1) := by decide +kernel
theorem dX0_isOn_23 : decode cX0_isOn 23 = .ok (.getfield 25, 3) := by decide +kernel
theorem dX0_isOn_26 : decode cX0_isOn 26 = .ok (.iload_n 2, 1) := by decide +kernel
theorem dX0_isOn_27 : decode cX0_isOn 27 = .ok (.if_icmp .ne 15, 3) := by decide +kernel
theorem dX0_isOn_30 : decode cX0_isOn 30 = .ok (.aload_n 0, 1) := by decide +kernel
theorem dX0_isOn_31 : decode cX0_isOn 31 = .ok (.getfield 31, 3) := by decide +kernel
theorem dX0_isOn_34 : decode cX0_isOn 34 = .ok (.iload_n 1, 1) := by decide +kernel
theorem dX0_isOn_35 : decode cX0_isOn 35 = .ok (.if_icmp .ne 7, 3) := by decide +kernel
theorem dX0_isOn_38 : decode cX0_isOn 38 = .ok (.iconst 1, 1) := by decide +kernel
theorem dX0_isOn_39 : decode cX0_isOn 39 = .ok (.goto 4, 3) := by decide +kernel
theorem dX0_isOn_42 : decode cX0_isOn 42 = .ok (.iconst 0, 1) := by decide +kernel
theorem dX0_isOn_43 : decode cX0_isOn 43 = .ok (.istore 4, 2) := by decide +kernel
theorem dX0_isOn_45 : decode cX0_isOn 45 = .ok (.aload_n 0, 1) := by decide +kernel
theorem dX0_isOn_46 : decode cX0_isOn 46 = .ok (.getfield 22, 3) := by decide +kernel
theorem dX0_isOn_49 : decode cX0_isOn 49 = .ok (.ifCond .ne 16, 3) := by decide +kernel
theorem dX0_isOn_52 : decode cX0_isOn 52 = .ok (.iload_n 3, 1) := by decide +kernel
theorem dX0_isOn_53 : decode cX0_isOn 53 = .ok (.ifCond .ne 8, 3) := by decide +kernel
theorem dX0_isOn_56 : decode cX0_isOn 56 = .ok (.iload 4, 2) := by decide +kernel
theorem dX0_isOn_58 : decode cX0_isOn 58 = .ok (.ifCond .eq 7, 3) := by decide +kernel
theorem dX0_isOn_61 : decode cX0_isOn 61 = .ok (.iconst 1, 1) := by decide +kernel
theorem dX0_isOn_62 : decode cX0_isOn 62 = .ok (.goto 4, 3) := by decide +kernel
theorem dX0_isOn_65 : decode cX0_isOn 65 = .ok (.iconst 0, 1) := by decide +kernel
theorem dX0_isOn_66 : decode cX0_isOn 66 = .ok (.ireturn, 1) := by decide +kernel
theorem dX1_init_0 : decode cX1_init 0 = .ok (.aload_n 0, 1) := by decide +kernel
theorem dX1_init_1 : decode cX1_init 1 = .ok (.invokespecial 3, 3) := by decide +kernel
theorem dX1_init_4 : decode cX1_init 4 = .ok (.aload_n 0, 1) := by decide +kernel
theorem dX1_init_5 : decode cX1_init 5 = .ok (.iload_n 1, 1) := by decide +kernel
theorem dX1_init_6 : decode cX1_init 6 = .ok (.newarray .int, 2) := by decide +kernel
theorem dX1_init_8 : decode cX1_init 8 = .ok (.putfield 9, 3) := by decide +kernel
theorem dX1_init_11 : decode cX1_init 11 = .ok (.aload_n 0, 1) := by decide +kernel
theorem dX1_init_12 : decode cX1_init 12 = .ok (.iload_n 1, 1) := by decide +kernel
theorem dX1_init_13 : decode cX1_init 13 = .ok (.newarray .int, 2) := by decide +kernel
theorem dX1_init_15 : decode cX1_init 15 = .ok (.putfield 15, 3) := by decide +kernel
theorem dX1_init_18 : decode cX1_init 18 = .ok (.aload_n 0, 1) := by decide +kernel
theorem dX1_init_19 : decode cX1_init 19 = .ok (.iload_n 1, 1) := by decide +kernel
theorem dX1_init_20 : decode cX1_init 20 = .ok (.newarray .long, 2) := by decide +kernel
theorem dX1_init_22 : decode cX1_init 22 = .ok (.putfield 18, 3) := by decide +kernel
theorem dX1_init_25 : decode cX1_init 25 = .ok (.return_, 1) := by decide +kernel
theorem dX1_packed_0 : decode cX1_packed 0 = .ok (.iload_n 0, 1) := by decide +kernel
theorem dX1_packed_1 : decode cX1_packed 1 = .ok (.i2l, 1) := by decide +kernel
theorem dX1_packed_2 : decode cX1_packed 2 = .ok (.bipush 6, 2) := by decide +kernel
theorem dX1_packed_4 : decode cX1_packed 4 = .ok (.iload_n 1, 1) := by decide +kernel
theorem dX1_packed_5 : decode cX1_packed 5 = .ok (.imul, 1) := by decide +kernel
theorem dX1_packed_6 : decode cX1_packed 6 = .ok (.lshl, 1) := by decide +kernel
theorem dX1_packed_7 : decode cX1_packed 7 = .ok (.lreturn, 1) := by decide +kernel
theorem dX1_write_0 : decode cX1_write 0 = .ok (.aload_n 0, 1) := by decide +kernel
theorem dX1_write_1 : decode cX1_write 1 = .ok (.getfield 9, 3) := by decide +kernel
theorem dX1_write_4 : decode cX1_write 4 = .ok (.iload_n 1, 1) := by decide +kernel
theorem dX1_write_5 : decode cX1_write 5 = .ok (.iaload, 1) := by decide +kernel
theorem dX1_write_6 : decode cX1_write 6 = .ok (.ifCond .ne 13, 3) := by decide +kernel
theorem dX1_write_9 : decode cX1_write 9 = .ok (.aload_n 0, 1) := by decide +kernel
theorem dX1_write_10 : decode cX1_write 10 = .ok (.dup, 1) := by decide +kernel
theorem dX1_write_11 : decode cX1_write 11 = .ok (.getfield 22, 3) := by decide +kernel
theorem dX1_write_14 : decode cX1_write 14 = .ok (.iconst 1, 1) := by decide +kernel
theorem dX1_write_15 : decode cX1_write 15 = .ok (.iadd, 1) := by decide +kernel
theorem dX1_write_16 : decode cX1_write 16 = .ok (.putfield 22, 3) := by decide +kernel
theorem dX1_write_19 : decode cX1_write 19 = .ok (.aload_n 0, 1) := by decide +kernel
theorem dX1_write_20 : decode cX1_write 20 = .ok (.getfield 9, 3) := by decide +kernel
theorem dX1_write_23 : decode cX1_write 23 = .ok (.iload_n 1, 1) := by decide +kernel
theorem dX1_write_24 : decode cX1_write 24 = .ok (.iload_n 2, 1) := by decide +kernel
theorem dX1_write_25 : decode cX1_write 25 = .ok (.iastore, 1) := by decide +kernel
theorem dX1_write_26 : decode cX1_write 26 = .ok (.aload_n 0, 1) := by decide +kernel
theorem dX1_write_27 : decode cX1_write 27 = .ok (.getfield 15, 3) := by decide +kernel
theorem dX1_write_30 : decode cX1_write 30 = .ok (.iload_n 1, 1) := by decide +kernel
theorem dX1_write_31 : decode cX1_write 31 = .ok (.iload_n 3, 1) := by decide +kernel
theorem dX1_write_32 : decode cX1_write 32 = .ok (.iastore, 1) := by decide +kernel
theorem dX1_write_33 : decode cX1_write 33 = .ok (.aload_n 0, 1) := by decide +kernel
theorem dX1_write_34 : decode cX1_write 34 = .ok (.getfield 18, 3) := by decide +kernel
theorem dX1_write_37 : decode cX1_write 37 = .ok (.iload_n 1, 1) := by decide +kernel
theorem dX1_write_38 : decode cX1_write 38 = .ok (.lload 4, 2) := by decide +kernel
theorem dX1_write_40 : decode cX1_write 40 = .ok (.lastore, 1) := by decide +kernel
theorem dX1_write_41 : decode cX1_write 41 = .ok (.return_, 1) := by decide +kernel
theorem dX1_costFor_0 : decode cX1_costFor 0 = .ok (.aload_n 0, 1) := by decide +kernel
theorem dX1_costFor_1 : decode cX1_costFor 1 = .ok (.getfield 18, 3) := by decide +kernel
theorem dX1_costFor_4 : decode cX1_costFor 4 = .ok (.iload_n 1, 1) := by decide +kernel
theorem dX1_costFor_5 : decode cX1_costFor 5 = .ok (.laload, 1) := by decide +kernel
theorem dX1_costFor_6 : decode cX1_costFor 6 = .ok (.bipush 6, 2) := by decide +kernel
theorem dX1_costFor_8 : decode cX1_costFor 8 = .ok (.iload_n 2, 1) := by decide +kernel
theorem dX1_costFor_9 : decode cX1_costFor 9 = .ok (.imul, 1) := by decide +kernel
theorem dX1_costFor_10 : decode cX1_costFor 10 = .ok (.lshr, 1) := by decide +kernel
theorem dX1_costFor_11 : decode cX1_costFor 11 = .ok (.l2i, 1) := by decide +kernel
theorem dX1_costFor_12 : decode cX1_costFor 12 = .ok (.bipush 63, 2) := by decide +kernel
theorem dX1_costFor_14 : decode cX1_costFor 14 = .ok (.iand, 1) := by decide +kernel
theorem dX1_costFor_15 : decode cX1_costFor 15 = .ok (.ireturn, 1) := by decide +kernel
theorem dX1_costCount_0 : decode cX1_costCount 0 = .ok (.iconst 0, 1) := by decide +kernel
theorem dX1_costCount_1 : decode cX1_costCount 1 = .ok (.istore_n 2, 1) := by decide +kernel
theorem dX1_costCount_2 : decode cX1_costCount 2 = .ok (.iconst 0, 1) := by decide +kernel
theorem dX1_costCount_3 : decode cX1_costCount 3 = .ok (.istore_n 3, 1) := by decide +kernel
theorem dX1_costCount_4 : decode cX1_costCount 4 = .ok (.iload_n 3, 1) := by decide +kernel
theorem dX1_costCount_5 : decode cX1_costCount 5 = .ok (.bipush 8, 2) := by decide +kernel
theorem dX1_costCount_7 : decode cX1_costCount 7 = .ok (.if_icmp .ge 21, 3) := by decide +kernel
theorem dX1_costCount_10 : decode cX1_costCount 10 = .ok (.aload_n 0, 1) := by decide +kernel
theorem dX1_costCount_11 : decode cX1_costCount 11 = .ok (.iload_n 1, 1) := by decide +kernel
theorem dX1_costCount_12 : decode cX1_costCount 12 = .ok (.iload_n 3, 1) := by decide +kernel
theorem dX1_costCount_13 : decode cX1_costCount 13 = .ok (.invokevirtual 26, 3) := by decide +kernel
theorem dX1_costCount_16 : decode cX1_costCount 16 = .ok (.ifCond .le 6, 3) := by decide +kernel
theorem dX1_costCount_19 : decode cX1_costCount 19 = .ok (.iinc 2 1, 3) := by decide +kernel
theorem dX1_costCount_22 : decode cX1_costCount 22 = .ok (.iinc 3 1, 3) := by decide +kernel
theorem dX1_costCount_25 : decode cX1_costCount 25 = .ok (.goto (-21), 3) := by decide +kernel
theorem dX1_costCount_28 : decode cX1_costCount 28 = .ok (.iload_n 2, 1) := by decide +kernel
theorem dX1_costCount_29 : decode cX1_costCount 29 = .ok (.ireturn, 1) := by decide +kernel
theorem dX1_clear_0 : decode cX1_clear 0 = .ok (.aload_n 0, 1) := by decide +kernel
theorem dX1_clear_1 : decode cX1_clear 1 = .ok (.getfield 9, 3) := by decide +kernel
theorem dX1_clear_4 : decode cX1_clear 4 = .ok (.iload_n 1, 1) := by decide +kernel
theorem dX1_clear_5 : decode cX1_clear 5 = .ok (.iaload, 1) := by decide +kernel
theorem dX1_clear_6 : decode cX1_clear 6 = .ok (.ifCond .le 13, 3) := by decide +kernel
theorem dX1_clear_9 : decode cX1_clear 9 = .ok (.aload_n 0, 1) := by decide +kernel
theorem dX1_clear_10 : decode cX1_clear 10 = .ok (.dup, 1) := by decide +kernel
theorem dX1_clear_11 : decode cX1_clear 11 = .ok (.getfield 22, 3) := by decide +kernel
theorem dX1_clear_14 : decode cX1_clear 14 = .ok (.iconst 1, 1) := by decide +kernel
theorem dX1_clear_15 : decode cX1_clear 15 = .ok (.isub, 1) := by decide +kernel
theorem dX1_clear_16 : decode cX1_clear 16 = .ok (.putfield 22, 3) := by decide +kernel
theorem dX1_clear_19 : decode cX1_clear 19 = .ok (.aload_n 0, 1) := by decide +kernel
theorem dX1_clear_20 : decode cX1_clear 20 = .ok (.getfield 9, 3) := by decide +kernel
theorem dX1_clear_23 : decode cX1_clear 23 = .ok (.iload_n 1, 1) := by decide +kernel
theorem dX1_clear_24 : decode cX1_clear 24 = .ok (.iconst 0, 1) := by decide +kernel
theorem dX1_clear_25 : decode cX1_clear 25 = .ok (.iastore, 1) := by decide +kernel
theorem dX1_clear_26 : decode cX1_clear 26 = .ok (.aload_n 0, 1) := by decide +kernel
theorem dX1_clear_27 : decode cX1_clear 27 = .ok (.getfield 18, 3) := by decide +kernel
theorem dX1_clear_30 : decode cX1_clear 30 = .ok (.iload_n 1, 1) := by decide +kernel
theorem dX1_clear_31 : decode cX1_clear 31 = .ok (.lconst 0, 1) := by decide +kernel
theorem dX1_clear_32 : decode cX1_clear 32 = .ok (.lastore, 1) := by decide +kernel
theorem dX1_clear_33 : decode cX1_clear 33 = .ok (.return_, 1) := by decide +kernel
theorem dX1_clearBornUntil_0 : decode cX1_clearBornUntil 0 = .ok (.aload_n 0, 1) := by decide +kernel
theorem dX1_clearBornUntil_1 : decode cX1_clearBornUntil 1 = .ok (.getfield 22, 3) := by decide +kernel
theorem dX1_clearBornUntil_4 : decode cX1_clearBornUntil 4 = .ok (.istore_n 2, 1) := by decide +kernel
theorem dX1_clearBornUntil_5 : decode cX1_clearBornUntil 5 = .ok (.iconst 0, 1) := by decide +kernel
theorem dX1_clearBornUntil_6 : decode cX1_clearBornUntil 6 = .ok (.istore_n 3, 1) := by decide +kernel
theorem dX1_clearBornUntil_7 : decode cX1_clearBornUntil 7 = .ok (.iload_n 3, 1) := by decide +kernel
theorem dX1_clearBornUntil_8 : decode cX1_clearBornUntil 8 = .ok (.aload_n 0, 1) := by decide +kernel
theorem dX1_clearBornUntil_9 : decode cX1_clearBornUntil 9 = .ok (.getfield 9, 3) := by decide +kernel
theorem dX1_clearBornUntil_12 : decode cX1_clearBornUntil 12 = .ok (.arraylength, 1) := by decide +kernel
theorem dX1_clearBornUntil_13 : decode cX1_clearBornUntil 13 = .ok (.if_icmp .ge 40, 3) := by decide +kernel
theorem dX1_clearBornUntil_16 : decode cX1_clearBornUntil 16 = .ok (.iload_n 2, 1) := by decide +kernel
theorem dX1_clearBornUntil_17 : decode cX1_clearBornUntil 17 = .ok (.ifCond .le 36, 3) := by decide +kernel
theorem dX1_clearBornUntil_20 : decode cX1_clearBornUntil 20 = .ok (.aload_n 0, 1) := by decide +kernel
theorem dX1_clearBornUntil_21 : decode cX1_clearBornUntil 21 = .ok (.getfield 9, 3) := by decide +kernel
theorem dX1_clearBornUntil_24 : decode cX1_clearBornUntil 24 = .ok (.iload_n 3, 1) := by decide +kernel
theorem dX1_clearBornUntil_25 : decode cX1_clearBornUntil 25 = .ok (.iaload, 1) := by decide +kernel
theorem dX1_clearBornUntil_26 : decode cX1_clearBornUntil 26 = .ok (.ifCond .le 21, 3) := by decide +kernel
theorem dX1_clearBornUntil_29 : decode cX1_clearBornUntil 29 = .ok (.iinc 2 (-1), 3) := by decide +kernel
theorem dX1_clearBornUntil_32 : decode cX1_clearBornUntil 32 = .ok (.aload_n 0, 1) := by decide +kernel
theorem dX1_clearBornUntil_33 : decode cX1_clearBornUntil 33 = .ok (.getfield 15, 3) := by decide +kernel
theorem dX1_clearBornUntil_36 : decode cX1_clearBornUntil 36 = .ok (.iload_n 3, 1) := by decide +kernel
theorem dX1_clearBornUntil_37 : decode cX1_clearBornUntil 37 = .ok (.iaload, 1) := by decide +kernel
theorem dX1_clearBornUntil_38 : decode cX1_clearBornUntil 38 = .ok (.iload_n 1, 1) := by decide +kernel
theorem dX1_clearBornUntil_39 : decode cX1_clearBornUntil 39 = .ok (.if_icmp .gt 8, 3) := by decide +kernel
theorem dX1_clearBornUntil_42 : decode cX1_clearBornUntil 42 = .ok (.aload_n 0, 1) := by decide +kernel
theorem dX1_clearBornUntil_43 : decode cX1_clearBornUntil 43 = .ok (.iload_n 3, 1) := by decide +kernel
theorem dX1_clearBornUntil_44 : decode cX1_clearBornUntil 44 = .ok (.invokevirtual 30, 3) := by decide +kernel
theorem dX1_clearBornUntil_47 : decode cX1_clearBornUntil 47 = .ok (.iinc 3 1, 3) := by decide +kernel
theorem dX1_clearBornUntil_50 : decode cX1_clearBornUntil 50 = .ok (.goto (-43), 3) := by decide +kernel
theorem dX1_clearBornUntil_53 : decode cX1_clearBornUntil 53 = .ok (.return_, 1) := by decide +kernel
theorem dX2_init_0 : decode cX2_init 0 = .ok (.aload_n 0, 1) := by decide +kernel
theorem dX2_init_1 : decode cX2_init 1 = .ok (.invokespecial 3, 3) := by decide +kernel
theorem dX2_init_4 : decode cX2_init 4 = .ok (.aload_n 0, 1) := by decide +kernel
theorem dX2_init_5 : decode cX2_init 5 = .ok (.bipush 8, 2) := by decide +kernel
theorem dX2_init_7 : decode cX2_init 7 = .ok (.newarray .boolean, 2) := by decide +kernel
theorem dX2_init_9 : decode cX2_init 9 = .ok (.putfield 9, 3) := by decide +kernel
theorem dX2_init_12 : decode cX2_init 12 = .ok (.aload_n 0, 1) := by decide +kernel
theorem dX2_init_13 : decode cX2_init 13 = .ok (.bipush 8, 2) := by decide +kernel
theorem dX2_init_15 : decode cX2_init 15 = .ok (.newarray .int, 2) := by decide +kernel
theorem dX2_init_17 : decode cX2_init 17 = .ok (.putfield 13, 3) := by decide +kernel
theorem dX2_init_20 : decode cX2_init 20 = .ok (.aload_n 0, 1) := by decide +kernel
theorem dX2_init_21 : decode cX2_init 21 = .ok (.bipush 64, 2) := by decide +kernel
theorem dX2_init_23 : decode cX2_init 23 = .ok (.newarray .int, 2) := by decide +kernel
theorem dX2_init_25 : decode cX2_init 25 = .ok (.putfield 17, 3) := by decide +kernel
theorem dX2_init_28 : decode cX2_init 28 = .ok (.aload_n 0, 1) := by decide +kernel
theorem dX2_init_29 : decode cX2_init 29 = .ok (.bipush 64, 2) := by decide +kernel
theorem dX2_init_31 : decode cX2_init 31 = .ok (.newarray .int, 2) := by decide +kernel
theorem dX2_init_33 : decode cX2_init 33 = .ok (.putfield 20, 3) := by decide +kernel
theorem dX2_init_36 : decode cX2_init 36 = .ok (.aload_n 0, 1) := by decide +kernel
theorem dX2_init_37 : decode cX2_init 37 = .ok (.bipush 64, 2) := by decide +kernel
theorem dX2_init_39 : decode cX2_init 39 = .ok (.newarray .boolean, 2) := by decide +kernel
theorem dX2_init_41 : decode cX2_init 41 = .ok (.putfield 23, 3) := by decide +kernel
theorem dX2_init_44 : decode cX2_init 44 = .ok (.aload_n 0, 1) := by decide +kernel
theorem dX2_init_45 : decode cX2_init 45 = .ok (.new 26, 3) := by decide +kernel
theorem dX2_init_48 : decode cX2_init 48 = .ok (.dup, 1) := by decide +kernel
theorem dX2_init_49 : decode cX2_init 49 = .ok (.bipush 64, 2) := by decide +kernel
theorem dX2_init_51 : decode cX2_init 51 = .ok (.invokespecial 28, 3) := by decide +kernel
theorem dX2_init_54 : decode cX2_init 54 = .ok (.putfield 31, 3) := by decide +kernel
theorem dX2_init_57 : decode cX2_init 57 = .ok (.aload_n 0, 1) := by decide +kernel
theorem dX2_init_58 : decode cX2_init 58 = .ok (.new 26, 3) := by decide +kernel
theorem dX2_init_61 : decode cX2_init 61 = .ok (.dup, 1) := by decide +kernel
theorem dX2_init_62 : decode cX2_init 62 = .ok (.sipush 512, 3) := by decide +kernel
theorem dX2_init_65 : decode cX2_init 65 = .ok (.invokespecial 28, 3) := by decide +kernel
theorem dX2_init_68 : decode cX2_init 68 = .ok (.putfield 35, 3) := by decide +kernel
theorem dX2_init_71 : decode cX2_init 71 = .ok (.aload_n 0, 1) := by decide +kernel
theorem dX2_init_72 : decode cX2_init 72 = .ok (.sipush 512, 3) := by decide +kernel
theorem dX2_init_75 : decode cX2_init 75 = .ok (.newarray .int, 2) := by decide +kernel
theorem dX2_init_77 : decode cX2_init 77 = .ok (.putfield 38, 3) := by decide +kernel
theorem dX2_init_80 : decode cX2_init 80 = .ok (.aload_n 0, 1) := by decide +kernel
theorem dX2_init_81 : decode cX2_init 81 = .ok (.bipush 20, 2) := by decide +kernel
theorem dX2_init_83 : decode cX2_init 83 = .ok (.anewarray 41, 3) := by decide +kernel
theorem dX2_init_86 : decode cX2_init 86 = .ok (.putfield 43, 3) := by decide +kernel
theorem dX2_init_89 : decode cX2_init 89 = .ok (.aload_n 0, 1) := by decide +kernel
theorem dX2_init_90 : decode cX2_init 90 = .ok (.bipush 8, 2) := by decide +kernel
theorem dX2_init_92 : decode cX2_init 92 = .ok (.newarray .int, 2) := by decide +kernel
theorem dX2_init_94 : decode cX2_init 94 = .ok (.putfield 47, 3) := by decide +kernel
theorem dX2_init_97 : decode cX2_init 97 = .ok (.return_, 1) := by decide +kernel
theorem dX2_link_0 : decode cX2_link 0 = .ok (.iload_n 1, 1) := by decide +kernel
theorem dX2_link_1 : decode cX2_link 1 = .ok (.invokestatic 50, 3) := by decide +kernel
theorem dX2_link_4 : decode cX2_link 4 = .ok (.ifCond .eq 15, 3) := by decide +kernel
theorem dX2_link_7 : decode cX2_link 7 = .ok (.iload_n 2, 1) := by decide +kernel
theorem dX2_link_8 : decode cX2_link 8 = .ok (.invokestatic 50, 3) := by decide +kernel
theorem dX2_link_11 : decode cX2_link 11 = .ok (.ifCond .eq 8, 3) := by decide +kernel
theorem dX2_link_14 : decode cX2_link 14 = .ok (.iload_n 1, 1) := by decide +kernel
theorem dX2_link_15 : decode cX2_link 15 = .ok (.iload_n 2, 1) := by decide +kernel
theorem dX2_link_16 : decode cX2_link 16 = .ok (.if_icmp .ne 13, 3) := by decide +kernel
theorem dX2_link_19 : decode cX2_link 19 = .ok (.new 54, 3) := by decide +kernel
theorem dX2_link_22 : decode cX2_link 22 = .ok (.dup, 1) := by decide +kernel
theorem dX2_link_23 : decode cX2_link 23 = .ok (.ldc 56, 2) := by decide +kernel
theorem dX2_link_25 : decode cX2_link 25 = .ok (.invokespecial 58, 3) := by decide +kernel
theorem dX2_link_28 : decode cX2_link 28 = .ok (.athrow, 1) := by decide +kernel
theorem dX2_link_29 : decode cX2_link 29 = .ok (.iload_n 3, 1) := by decide +kernel
theorem dX2_link_30 : decode cX2_link 30 = .ok (.iconst 1, 1) := by decide +kernel
theorem dX2_link_31 : decode cX2_link 31 = .ok (.if_icmp .lt 22, 3) := by decide +kernel
theorem dX2_link_34 : decode cX2_link 34 = .ok (.iload_n 3, 1) := by decide +kernel
theorem dX2_link_35 : decode cX2_link 35 = .ok (.bipush 50, 2) := by decide +kernel
theorem dX2_link_37 : decode cX2_link 37 = .ok (.if_icmp .gt 16, 3) := by decide +kernel
theorem dX2_link_40 : decode cX2_link 40 = .ok (.iload 4, 2) := by decide +kernel
theorem dX2_link_42 : decode cX2_link 42 = .ok (.iconst 1, 1) := by decide +kernel
theorem dX2_link_43 : decode cX2_link 43 = .ok (.if_icmp .lt 10, 3) := by decide +kernel
theorem dX2_link_46 : decode cX2_link 46 = .ok (.iload 4, 2) := by decide +kernel
theorem dX2_link_48 : decode cX2_link 48 = .ok (.bipush 8, 2) := by decide +kernel
theorem dX2_link_50 : decode cX2_link 50 = .ok (.if_icmp .le 13, 3) := by decide +kernel
theorem dX2_link_53 : decode cX2_link 53 = .ok (.new 54, 3) := by decide +kernel
theorem dX2_link_56 : decode cX2_link 56 = .ok (.dup, 1) := by decide +kernel
theorem dX2_link_57 : decode cX2_link 57 = .ok (.ldc 61, 2) := by decide +kernel
theorem dX2_link_59 : decode cX2_link 59 = .ok (.invokespecial 58, 3) := by decide +kernel
theorem dX2_link_62 : decode cX2_link 62 = .ok (.athrow, 1) := by decide +kernel
theorem dX2_link_63 : decode cX2_link 63 = .ok (.aload_n 0, 1) := by decide +kernel
theorem dX2_link_64 : decode cX2_link 64 = .ok (.iload_n 1, 1) := by decide +kernel
theorem dX2_link_65 : decode cX2_link 65 = .ok (.iload_n 2, 1) := by decide +kernel
theorem dX2_link_66 : decode cX2_link 66 = .ok (.invokevirtual 63, 3) := by decide +kernel
theorem dX2_link_69 : decode cX2_link 69 = .ok (.ifCond .ne 12, 3) := by decide +kernel
theorem dX2_link_72 : decode cX2_link 72 = .ok (.aload_n 0, 1) := by decide +kernel
theorem dX2_link_73 : decode cX2_link 73 = .ok (.getfield 67, 3) := by decide +kernel
theorem dX2_link_76 : decode cX2_link 76 = .ok (.bipush 12, 2) := by decide +kernel
theorem dX2_link_78 : decode cX2_link 78 = .ok (.if_icmp .lt 13, 3) := by decide +kernel
theorem dX2_link_81 : decode cX2_link 81 = .ok (.new 71, 3) := by decide +kernel
theorem dX2_link_84 : decode cX2_link 84 = .ok (.dup, 1) := by decide +kernel
theorem dX2_link_85 : decode cX2_link 85 = .ok (.ldc 73, 2) := by decide +kernel
theorem dX2_link_87 : decode cX2_link 87 = .ok (.invokespecial 75, 3) := by decide +kernel
theorem dX2_link_90 : decode cX2_link 90 = .ok (.athrow, 1) := by decide +kernel
theorem dX2_link_91 : decode cX2_link 91 = .ok (.aload_n 0, 1) := by decide +kernel
theorem dX2_link_92 : decode cX2_link 92 = .ok (.iload_n 1, 1) := by decide +kernel
theorem dX2_link_93 : decode cX2_link 93 = .ok (.iload_n 2, 1) := by decide +kernel
theorem dX2_link_94 : decode cX2_link 94 = .ok (.iload_n 3, 1) := by decide +kernel
theorem dX2_link_95 : decode cX2_link 95 = .ok (.iload 4, 2) := by decide +kernel
theorem dX2_link_97 : decode cX2_link 97 = .ok (.invokevirtual 76, 3) := by decide +kernel
theorem dX2_link_100 : decode cX2_link 100 = .ok (.aload_n 0, 1) := by decide +kernel
theorem dX2_link_101 : decode cX2_link 101 = .ok (.iload_n 2, 1) := by decide +kernel
theorem dX2_link_102 : decode cX2_link 102 = .ok (.iload_n 1, 1) := by decide +kernel
theorem dX2_link_103 : decode cX2_link 103 = .ok (.iload_n 3, 1) := by decide +kernel
theorem dX2_link_104 : decode cX2_link 104 = .ok (.iload 4, 2) := by decide +kernel
theorem dX2_link_106 : decode cX2_link 106 = .ok (.invokevirtual 76, 3) := by decide +kernel
theorem dX2_link_109 : decode cX2_link 109 = .ok (.aload_n 0, 1) := by decide +kernel
theorem dX2_link_110 : decode cX2_link 110 = .ok (.dup, 1) := by decide +kernel
theorem dX2_link_111 : decode cX2_link 111 = .ok (.getfield 67, 3) := by decide +kernel
theorem dX2_link_114 : decode cX2_link 114 = .ok (.iconst 1, 1) := by decide +kernel
theorem dX2_link_115 : decode cX2_link 115 = .ok (.iadd, 1) := by decide +kernel
theorem dX2_link_116 : decode cX2_link 116 = .ok (.putfield 67, 3) := by decide +kernel
theorem dX2_link_119 : decode cX2_link 119 = .ok (.aload_n 0, 1) := by decide +kernel
theorem dX2_link_120 : decode cX2_link 120 = .ok (.iload_n 1, 1) := by decide +kernel
theorem dX2_link_121 : decode cX2_link 121 = .ok (.iload_n 2, 1) := by decide +kernel
theorem dX2_link_122 : decode cX2_link 122 = .ok (.invokevirtual 80, 3) := by decide +kernel
theorem dX2_link_125 : decode cX2_link 125 = .ok (.aload_n 0, 1) := by decide +kernel
theorem dX2_link_126 : decode cX2_link 126 = .ok (.getfield 67, 3) := by decide +kernel
theorem dX2_link_129 : decode cX2_link 129 = .ok (.ireturn, 1) := by decide +kernel
theorem dX2_fail_0 : decode cX2_fail 0 = .ok (.aload_n 0, 1) := by decide +kernel
theorem dX2_fail_1 : decode cX2_fail 1 = .ok (.iload_n 1, 1) := by decide +kernel
theorem dX2_fail_2 : decode cX2_fail 2 = .ok (.iload_n 2, 1) := by decide +kernel
theorem dX2_fail_3 : decode cX2_fail 3 = .ok (.invokevirtual 63, 3) := by decide +kernel
theorem dX2_fail_6 : decode cX2_fail 6 = .ok (.ifCond .ne 13, 3) := by decide +kernel
theorem dX2_fail_9 : decode cX2_fail 9 = .ok (.new 54, 3) := by decide +kernel
theorem dX2_fail_12 : decode cX2_fail 12 = .ok (.dup, 1) := by decide +kernel
theorem dX2_fail_13 : decode cX2_fail 13 = .ok (.ldc 84, 2) := by decide +kernel
theorem dX2_fail_15 : decode cX2_fail 15 = .ok (.invokespecial 58, 3) := by decide +kernel
theorem dX2_fail_18 : decode cX2_fail 18 = .ok (.athrow, 1) := by decide +kernel
theorem dX2_fail_19 : decode cX2_fail 19 = .ok (.aload_n 0, 1) := by decide +kernel
theorem dX2_fail_20 : decode cX2_fail 20 = .ok (.getfield 23, 3) := by decide +kernel
theorem dX2_fail_23 : decode cX2_fail 23 = .ok (.iload_n 1, 1) := by decide +kernel
theorem dX2_fail_24 : decode cX2_fail 24 = .ok (.iload_n 2, 1) := by decide +kernel
theorem dX2_fail_25 : decode cX2_fail 25 = .ok (.invokestatic 86, 3) := by decide +kernel
theorem dX2_fail_28 : decode cX2_fail 28 = .ok (.baload, 1) := by decide +kernel
theorem dX2_fail_29 : decode cX2_fail 29 = .ok (.ifCond .ne 5, 3) := by decide +kernel
theorem dX2_fail_32 : decode cX2_fail 32 = .ok (.iconst 0, 1) := by decide +kernel
theorem dX2_fail_33 : decode cX2_fail 33 = .ok (.ireturn, 1) := by decide +kernel
theorem dX2_fail_34 : decode cX2_fail 34 = .ok (.aload_n 0, 1) := by decide +kernel
theorem dX2_fail_35 : decode cX2_fail 35 = .ok (.iload_n 1, 1) := by decide +kernel
theorem dX2_fail_36 : decode cX2_fail 36 = .ok (.iload_n 2, 1) := by decide +kernel
theorem dX2_fail_37 : decode cX2_fail 37 = .ok (.invokevirtual 90, 3) := by decide +kernel
theorem dX2_fail_40 : decode cX2_fail 40 = .ok (.iconst 1, 1) := by decide +kernel
theorem dX2_fail_41 : decode cX2_fail 41 = .ok (.ireturn, 1) := by decide +kernel
theorem dX2_restore_0 : decode cX2_restore 0 = .ok (.aload_n 0, 1) := by decide +kernel
theorem dX2_restore_1 : decode cX2_restore 1 = .ok (.iload_n 1, 1) := by decide +kernel
theorem dX2_restore_2 : decode cX2_restore 2 = .ok (.iload_n 2, 1) := by decide +kernel
theorem dX2_restore_3 : decode cX2_restore 3 = .ok (.invokevirtual 63, 3) := by decide +kernel
theorem dX2_restore_6 : decode cX2_restore 6 = .ok (.ifCond .ne 13, 3) := by decide +kernel
theorem dX2_restore_9 : decode cX2_restore 9 = .ok (.new 54, 3) := by decide +kernel
theorem dX2_restore_12 : decode cX2_restore 12 = .ok (.dup, 1) := by decide +kernel
theorem dX2_restore_13 : decode cX2_restore 13 = .ok (.ldc 84, 2) := by decide +kernel
theorem dX2_restore_15 : decode cX2_restore 15 = .ok (.invokespecial 58, 3) := by decide +kernel
theorem dX2_restore_18 : decode cX2_restore 18 = .ok (.athrow, 1) := by decide +kernel
theorem dX2_restore_19 : decode cX2_restore 19 = .ok (.aload_n 0, 1) := by decide +kernel
theorem dX2_restore_20 : decode cX2_restore 20 = .ok (.getfield 23, 3) := by decide +kernel
theorem dX2_restore_23 : decode cX2_restore 23 = .ok (.iload_n 1, 1) := by decide +kernel
theorem dX2_restore_24 : decode cX2_restore 24 = .ok (.iload_n 2, 1) := by decide +kernel
theorem dX2_restore_25 : decode cX2_restore 25 = .ok (.invokestatic 86, 3) := by decide +kernel
theorem dX2_restore_28 : decode cX2_restore 28 = .ok (.baload, 1) := by decide +kernel
theorem dX2_restore_29 : decode cX2_restore 29 = .ok (.ifCond .eq 5, 3) := by decide +kernel
theorem dX2_restore_32 : decode cX2_restore 32 = .ok (.iconst 0, 1) := by decide +kernel
theorem dX2_restore_33 : decode cX2_restore 33 = .ok (.ireturn, 1) := by decide +kernel
theorem dX2_restore_34 : decode cX2_restore 34 = .ok (.aload_n 0, 1) := by decide +kernel
theorem dX2_restore_35 : decode cX2_restore 35 = .ok (.iload_n 1, 1) := by decide +kernel
theorem dX2_restore_36 : decode cX2_restore 36 = .ok (.iload_n 2, 1) := by decide +kernel
theorem dX2_restore_37 : decode cX2_restore 37 = .ok (.invokevirtual 80, 3) := by decide +kernel
theorem dX2_restore_40 : decode cX2_restore 40 = .ok (.iconst 1, 1) := by decide +kernel
theorem dX2_restore_41 : decode cX2_restore 41 = .ok (.ireturn, 1) := by decide +kernel
theorem dX2_start_0 : decode cX2_start 0 = .ok (.iload_n 1, 1) := by decide +kernel
theorem dX2_start_1 : decode cX2_start 1 = .ok (.invokestatic 50, 3) := by decide +kernel
theorem dX2_start_4 : decode cX2_start 4 = .ok (.ifCond .ne 13, 3) := by decide +kernel
theorem dX2_start_7 : decode cX2_start 7 = .ok (.new 54, 3) := by decide +kernel
theorem dX2_start_10 : decode cX2_start 10 = .ok (.dup, 1) := by decide +kernel
theorem dX2_start_11 : decode cX2_start 11 = .ok (.ldc 93, 2) := by decide +kernel
theorem dX2_start_13 : decode cX2_start 13 = .ok (.invokespecial 58, 3) := by decide +kernel
theorem dX2_start_16 : decode cX2_start 16 = .ok (.athrow, 1) := by decide +kernel
theorem dX2_start_17 : decode cX2_start 17 = .ok (.aload_n 0, 1) := by decide +kernel
theorem dX2_start_18 : decode cX2_start 18 = .ok (.getfield 9, 3) := by decide +kernel
theorem dX2_start_21 : decode cX2_start 21 = .ok (.iload_n 1, 1) := by decide +kernel
theorem dX2_start_22 : decode cX2_start 22 = .ok (.baload, 1) := by decide +kernel
theorem dX2_start_23 : decode cX2_start 23 = .ok (.ifCond .eq 5, 3) := by decide +kernel
theorem dX2_start_26 : decode cX2_start 26 = .ok (.iconst 0, 1) := by decide +kernel
theorem dX2_start_27 : decode cX2_start 27 = .ok (.ireturn, 1) := by decide +kernel
theorem dX2_start_28 : decode cX2_start 28 = .ok (.aload_n 0, 1) := by decide +kernel
theorem dX2_start_29 : decode cX2_start 29 = .ok (.getfield 9, 3) := by decide +kernel
theorem dX2_start_32 : decode cX2_start 32 = .ok (.iload_n 1, 1) := by decide +kernel
theorem dX2_start_33 : decode cX2_start 33 = .ok (.iconst 1, 1) := by decide +kernel
theorem dX2_start_34 : decode cX2_start 34 = .ok (.bastore, 1) := by decide +kernel
theorem dX2_start_35 : decode cX2_start 35 = .ok (.aload_n 0, 1) := by decide +kernel
theorem dX2_start_36 : decode cX2_start 36 = .ok (.getfield 13, 3) := by decide +kernel
theorem dX2_start_39 : decode cX2_start 39 = .ok (.iload_n 1, 1) := by decide +kernel
theorem dX2_start_40 : decode cX2_start 40 = .ok (.iconst 0, 1) := by decide +kernel
theorem dX2_start_41 : decode cX2_start 41 = .ok (.iastore, 1) := by decide +kernel
theorem dX2_start_42 : decode cX2_start 42 = .ok (.aload_n 0, 1) := by decide +kernel
theorem dX2_start_43 : decode cX2_start 43 = .ok (.iload_n 1, 1) := by decide +kernel
theorem dX2_start_44 : decode cX2_start 44 = .ok (.invokevirtual 95, 3) := by decide +kernel
theorem dX2_start_47 : decode cX2_start 47 = .ok (.aload_n 0, 1) := by decide +kernel
theorem dX2_start_48 : decode cX2_start 48 = .ok (.iload_n 1, 1) := by decide +kernel
theorem dX2_start_49 : decode cX2_start 49 = .ok (.invokevirtual 98, 3) := by decide +kernel
theorem dX2_start_52 : decode cX2_start 52 = .ok (.iconst 0, 1) := by decide +kernel
theorem dX2_start_53 : decode cX2_start 53 = .ok (.istore_n 2, 1) := by decide +kernel
theorem dX2_start_54 : decode cX2_start 54 = .ok (.iload_n 2, 1) := by decide +kernel
theorem dX2_start_55 : decode cX2_start 55 = .ok (.bipush 8, 2) := by decide +kernel
theorem dX2_start_57 : decode cX2_start 57 = .ok (.if_icmp .ge 24, 3) := by decide +kernel
theorem dX2_start_60 : decode cX2_start 60 = .ok (.aload_n 0, 1) := by decide +kernel
theorem dX2_start_61 : decode cX2_start 61 = .ok (.iload_n 2, 1) := by decide +kernel
theorem dX2_start_62 : decode cX2_start 62 = .ok (.iload_n 1, 1) := by decide +kernel
theorem dX2_start_63 : decode cX2_start 63 = .ok (.invokevirtual 101, 3) := by decide +kernel
theorem dX2_start_66 : decode cX2_start 66 = .ok (.ifCond .eq 9, 3) := by decide +kernel
theorem dX2_start_69 : decode cX2_start 69 = .ok (.aload_n 0, 1) := by decide +kernel
theorem dX2_start_70 : decode cX2_start 70 = .ok (.iload_n 2, 1) := by decide +kernel
theorem dX2_start_71 : decode cX2_start 71 = .ok (.iload_n 1, 1) := by decide +kernel
theorem dX2_start_72 : decode cX2_start 72 = .ok (.invokevirtual 104, 3) := by decide +kernel
theorem dX2_start_75 : decode cX2_start 75 = .ok (.iinc 2 1, 3) := by decide +kernel
theorem dX2_start_78 : decode cX2_start 78 = .ok (.goto (-24), 3) := by decide +kernel
theorem dX2_start_81 : decode cX2_start 81 = .ok (.iconst 1, 1) := by decide +kernel
theorem dX2_start_82 : decode cX2_start 82 = .ok (.ireturn, 1) := by decide +kernel
theorem dX2_crash_0 : decode cX2_crash 0 = .ok (.iload_n 1, 1) := by decide +kernel
theorem dX2_crash_1 : decode cX2_crash 1 = .ok (.invokestatic 50, 3) := by decide +kernel
theorem dX2_crash_4 : decode cX2_crash 4 = .ok (.ifCond .ne 13, 3) := by decide +kernel
theorem dX2_crash_7 : decode cX2_crash 7 = .ok (.new 54, 3) := by decide +kernel
theorem dX2_crash_10 : decode cX2_crash 10 = .ok (.dup, 1) := by decide +kernel
theorem dX2_crash_11 : decode cX2_crash 11 = .ok (.ldc 93, 2) := by decide +kernel
theorem dX2_crash_13 : decode cX2_crash 13 = .ok (.invokespecial 58, 3) := by decide +kernel
theorem dX2_crash_16 : decode cX2_crash 16 = .ok (.athrow, 1) := by decide +kernel
theorem dX2_crash_17 : decode cX2_crash 17 = .ok (.aload_n 0, 1) := by decide +kernel
theorem dX2_crash_18 : decode cX2_crash 18 = .ok (.getfield 9, 3) := by decide +kernel
theorem dX2_crash_21 : decode cX2_crash 21 = .ok (.iload_n 1, 1) := by decide +kernel
theorem dX2_crash_22 : decode cX2_crash 22 = .ok (.baload, 1) := by decide +kernel
theorem dX2_crash_23 : decode cX2_crash 23 = .ok (.ifCond .ne 5, 3) := by decide +kernel
theorem dX2_crash_26 : decode cX2_crash 26 = .ok (.iconst 0, 1) := by decide +kernel
theorem dX2_crash_27 : decode cX2_crash 27 = .ok (.ireturn, 1) := by decide +kernel
theorem dX2_crash_28 : decode cX2_crash 28 = .ok (.aload_n 0, 1) := by decide +kernel
theorem dX2_crash_29 : decode cX2_crash 29 = .ok (.getfield 9, 3) := by decide +kernel
theorem dX2_crash_32 : decode cX2_crash 32 = .ok (.iload_n 1, 1) := by decide +kernel
theorem dX2_crash_33 : decode cX2_crash 33 = .ok (.iconst 0, 1) := by decide +kernel
theorem dX2_crash_34 : decode cX2_crash 34 = .ok (.bastore, 1) := by decide +kernel
theorem dX2_crash_35 : decode cX2_crash 35 = .ok (.iconst 0, 1) := by decide +kernel
theorem dX2_crash_36 : decode cX2_crash 36 = .ok (.istore_n 2, 1) := by decide +kernel
theorem dX2_crash_37 : decode cX2_crash 37 = .ok (.iload_n 2, 1) := by decide +kernel
theorem dX2_crash_38 : decode cX2_crash 38 = .ok (.bipush 8, 2) := by decide +kernel
theorem dX2_crash_40 : decode cX2_crash 40 = .ok (.if_icmp .ge 27, 3) := by decide +kernel
theorem dX2_crash_43 : decode cX2_crash 43 = .ok (.aload_n 0, 1) := by decide +kernel
theorem dX2_crash_44 : decode cX2_crash 44 = .ok (.getfield 31, 3) := by decide +kernel
theorem dX2_crash_47 : decode cX2_crash 47 = .ok (.iload_n 1, 1) := by decide +kernel
theorem dX2_crash_48 : decode cX2_crash 48 = .ok (.iload_n 2, 1) := by decide +kernel
theorem dX2_crash_49 : decode cX2_crash 49 = .ok (.invokestatic 107, 3) := by decide +kernel
theorem dX2_crash_52 : decode cX2_crash 52 = .ok (.invokevirtual 110, 3) := by decide +kernel
theorem dX2_crash_55 : decode cX2_crash 55 = .ok (.aload_n 0, 1) := by decide +kernel
theorem dX2_crash_56 : decode cX2_crash 56 = .ok (.iload_n 1, 1) := by decide +kernel
theorem dX2_crash_57 : decode cX2_crash 57 = .ok (.iload_n 2, 1) := by decide +kernel
theorem dX2_crash_58 : decode cX2_crash 58 = .ok (.invokevirtual 113, 3) := by decide +kernel
theorem dX2_crash_61 : decode cX2_crash 61 = .ok (.iinc 2 1, 3) := by decide +kernel
theorem dX2_crash_64 : decode cX2_crash 64 = .ok (.goto (-27), 3) := by decide +kernel
theorem dX2_crash_67 : decode cX2_crash 67 = .ok (.aload_n 0, 1) := by decide +kernel
theorem dX2_crash_68 : decode cX2_crash 68 = .ok (.iload_n 1, 1) := by decide +kernel
theorem dX2_crash_69 : decode cX2_crash 69 = .ok (.invokevirtual 95, 3) := by decide +kernel
theorem dX2_crash_72 : decode cX2_crash 72 = .ok (.iconst 1, 1) := by decide +kernel
theorem dX2_crash_73 : decode cX2_crash 73 = .ok (.ireturn, 1) := by decide +kernel
theorem dX2_tick_0 : decode cX2_tick 0 = .ok (.iload_n 1, 1) := by decide +kernel
theorem dX2_tick_1 : decode cX2_tick 1 = .ok (.iconst 1, 1) := by decide +kernel
theorem dX2_tick_2 : decode cX2_tick 2 = .ok (.if_icmp .lt 9, 3) := by decide +kernel
theorem dX2_tick_5 : decode cX2_tick 5 = .ok (.iload_n 1, 1) := by decide +kernel
theorem dX2_tick_6 : decode cX2_tick 6 = .ok (.bipush 50, 2) := by decide +kernel
theorem dX2_tick_8 : decode cX2_tick 8 = .ok (.if_icmp .le 13, 3) := by decide +kernel
theorem dX2_tick_11 : decode cX2_tick 11 = .ok (.new 54, 3) := by decide +kernel
theorem dX2_tick_14 : decode cX2_tick 14 = .ok (.dup, 1) := by decide +kernel
theorem dX2_tick_15 : decode cX2_tick 15 = .ok (.ldc 116, 2) := by decide +kernel
theorem dX2_tick_17 : decode cX2_tick 17 = .ok (.invokespecial 58, 3) := by decide +kernel
theorem dX2_tick_20 : decode cX2_tick 20 = .ok (.athrow, 1) := by decide +kernel
theorem dX2_tick_21 : decode cX2_tick 21 = .ok (.iconst 0, 1) := by decide +kernel
theorem dX2_tick_22 : decode cX2_tick 22 = .ok (.istore_n 2, 1) := by decide +kernel
theorem dX2_tick_23 : decode cX2_tick 23 = .ok (.iload_n 2, 1) := by decide +kernel
theorem dX2_tick_24 : decode cX2_tick 24 = .ok (.iload_n 1, 1) := by decide +kernel
theorem dX2_tick_25 : decode cX2_tick 25 = .ok (.if_icmp .ge 59, 3) := by decide +kernel
theorem dX2_tick_28 : decode cX2_tick 28 = .ok (.aload_n 0, 1) := by decide +kernel
theorem dX2_tick_29 : decode cX2_tick 29 = .ok (.dup, 1) := by decide +kernel
theorem dX2_tick_30 : decode cX2_tick 30 = .ok (.getfield 118, 3) := by decide +kernel
theorem dX2_tick_33 : decode cX2_tick 33 = .ok (.iconst 1, 1) := by decide +kernel
theorem dX2_tick_34 : decode cX2_tick 34 = .ok (.iadd, 1) := by decide +kernel
theorem dX2_tick_35 : decode cX2_tick 35 = .ok (.putfield 118, 3) := by decide +kernel
theorem dX2_tick_38 : decode cX2_tick 38 = .ok (.aload_n 0, 1) := by decide +kernel
theorem dX2_tick_39 : decode cX2_tick 39 = .ok (.getfield 31, 3) := by decide +kernel
theorem dX2_tick_42 : decode cX2_tick 42 = .ok (.aload_n 0, 1) := by decide +kernel
theorem dX2_tick_43 : decode cX2_tick 43 = .ok (.getfield 118, 3) := by decide +kernel
theorem dX2_tick_46 : decode cX2_tick 46 = .ok (.bipush 60, 2) := by decide +kernel
theorem dX2_tick_48 : decode cX2_tick 48 = .ok (.isub, 1) := by decide +kernel
theorem dX2_tick_49 : decode cX2_tick 49 = .ok (.invokevirtual 121, 3) := by decide +kernel
theorem dX2_tick_52 : decode cX2_tick 52 = .ok (.aload_n 0, 1) := by decide +kernel
theorem dX2_tick_53 : decode cX2_tick 53 = .ok (.getfield 35, 3) := by decide +kernel
theorem dX2_tick_56 : decode cX2_tick 56 = .ok (.aload_n 0, 1) := by decide +kernel
theorem dX2_tick_57 : decode cX2_tick 57 = .ok (.getfield 118, 3) := by decide +kernel
theorem dX2_tick_60 : decode cX2_tick 60 = .ok (.bipush 60, 2) := by decide +kernel
theorem dX2_tick_62 : decode cX2_tick 62 = .ok (.isub, 1) := by decide +kernel
theorem dX2_tick_63 : decode cX2_tick 63 = .ok (.invokevirtual 121, 3) := by decide +kernel
theorem dX2_tick_66 : decode cX2_tick 66 = .ok (.aload_n 0, 1) := by decide +kernel
theorem dX2_tick_67 : decode cX2_tick 67 = .ok (.invokevirtual 124, 3) := by decide +kernel
theorem dX2_tick_70 : decode cX2_tick 70 = .ok (.aload_n 0, 1) := by decide +kernel
theorem dX2_tick_71 : decode cX2_tick 71 = .ok (.invokevirtual 127, 3) := by decide +kernel
theorem dX2_tick_74 : decode cX2_tick 74 = .ok (.aload_n 0, 1) := by decide +kernel
theorem dX2_tick_75 : decode cX2_tick 75 = .ok (.invokevirtual 130, 3) := by decide +kernel
theorem dX2_tick_78 : decode cX2_tick 78 = .ok (.iinc 2 1, 3) := by decide +kernel
theorem dX2_tick_81 : decode cX2_tick 81 = .ok (.goto (-58), 3) := by decide +kernel
theorem dX2_tick_84 : decode cX2_tick 84 = .ok (.aload_n 0, 1) := by decide +kernel
theorem dX2_tick_85 : decode cX2_tick 85 = .ok (.getfield 118, 3) := by decide +kernel
theorem dX2_tick_88 : decode cX2_tick 88 = .ok (.ireturn, 1) := by decide +kernel
theorem dX2_news_0 : decode cX2_news 0 = .ok (.iload_n 1, 1) := by decide +kernel
theorem dX2_news_1 : decode cX2_news 1 = .ok (.invokestatic 50, 3) := by decide +kernel
theorem dX2_news_4 : decode cX2_news 4 = .ok (.ifCond .eq 10, 3) := by decide +kernel
theorem dX2_news_7 : decode cX2_news 7 = .ok (.iload_n 2, 1) := by decide +kernel
theorem dX2_news_8 : decode cX2_news 8 = .ok (.invokestatic 50, 3) := by decide +kernel
theorem dX2_news_11 : decode cX2_news 11 = .ok (.ifCond .ne 5, 3) := by decide +kernel
theorem dX2_news_14 : decode cX2_news 14 = .ok (.iconst (-1), 1) := by decide +kernel
theorem dX2_news_15 : decode cX2_news 15 = .ok (.ireturn, 1) := by decide +kernel
theorem dX2_news_16 : decode cX2_news 16 = .ok (.iload_n 1, 1) := by decide +kernel
theorem dX2_news_17 : decode cX2_news 17 = .ok (.iload_n 2, 1) := by decide +kernel
theorem dX2_news_18 : decode cX2_news 18 = .ok (.invokestatic 107, 3) := by decide +kernel
theorem dX2_news_21 : decode cX2_news 21 = .ok (.istore 4, 2) := by decide +kernel
theorem dX2_news_23 : decode cX2_news 23 = .ok (.aload_n 0, 1) := by decide +kernel
theorem dX2_news_24 : decode cX2_news 24 = .ok (.getfield 31, 3) := by decide +kernel
theorem dX2_news_27 : decode cX2_news 27 = .ok (.getfield 133, 3) := by decide +kernel
theorem dX2_news_30 : decode cX2_news 30 = .ok (.iload 4, 2) := by decide +kernel
theorem dX2_news_32 : decode cX2_news 32 = .ok (.iaload, 1) := by decide +kernel
theorem dX2_news_33 : decode cX2_news 33 = .ok (.ifCond .ne 5, 3) := by decide +kernel
theorem dX2_news_36 : decode cX2_news 36 = .ok (.iconst (-1), 1) := by decide +kernel
theorem dX2_news_37 : decode cX2_news 37 = .ok (.ireturn, 1) := by decide +kernel
theorem dX2_news_38 : decode cX2_news 38 = .ok (.iload_n 3, 1) := by decide +kernel
theorem dX2_news_39 : decode cX2_news 39 = .ok (.tableswitch 62 0 2 #[25, 36, 52], 25) := by decide +kernel
theorem dX2_news_64 : decode cX2_news 64 = .ok (.aload_n 0, 1) := by decide +kernel
theorem dX2_news_65 : decode cX2_news 65 = .ok (.getfield 31, 3) := by decide +kernel
theorem dX2_news_68 : decode cX2_news 68 = .ok (.getfield 133, 3) := by decide +kernel
theorem dX2_news_71 : decode cX2_news 71 = .ok (.iload 4, 2) := by decide +kernel
theorem dX2_news_73 : decode cX2_news 73 = .ok (.iaload, 1) := by decide +kernel
theorem dX2_news_74 : decode cX2_news 74 = .ok (.ireturn, 1) := by decide +kernel
theorem dX2_news_75 : decode cX2_news 75 = .ok (.aload_n 0, 1) := by decide +kernel
theorem dX2_news_76 : decode cX2_news 76 = .ok (.getfield 118, 3) := by decide +kernel
theorem dX2_news_79 : decode cX2_news 79 = .ok (.aload_n 0, 1) := by decide +kernel
theorem dX2_news_80 : decode cX2_news 80 = .ok (.getfield 31, 3) := by decide +kernel
theorem dX2_news_83 : decode cX2_news 83 = .ok (.getfield 136, 3) := by decide +kernel
theorem dX2_news_86 : decode cX2_news 86 = .ok (.iload 4, 2) := by decide +kernel
theorem dX2_news_88 : decode cX2_news 88 = .ok (.iaload, 1) := by decide +kernel
theorem dX2_news_89 : decode cX2_news 89 = .ok (.isub, 1) := by decide +kernel
theorem dX2_news_90 : decode cX2_news 90 = .ok (.ireturn, 1) := by decide +kernel
theorem dX2_news_91 : decode cX2_news 91 = .ok (.aload_n 0, 1) := by decide +kernel
theorem dX2_news_92 : decode cX2_news 92 = .ok (.getfield 31, 3) := by decide +kernel
theorem dX2_news_95 : decode cX2_news 95 = .ok (.iload 4, 2) := by decide +kernel
theorem dX2_news_97 : decode cX2_news 97 = .ok (.invokevirtual 139, 3) := by decide +kernel
theorem dX2_news_100 : decode cX2_news 100 = .ok (.ireturn, 1) := by decide +kernel
theorem dX2_news_101 : decode cX2_news 101 = .ok (.iload_n 3, 1) := by decide +kernel
theorem dX2_news_102 : decode cX2_news 102 = .ok (.bipush 10, 2) := by decide +kernel
theorem dX2_news_104 : decode cX2_news 104 = .ok (.if_icmp .lt 29, 3) := by decide +kernel
theorem dX2_news_107 : decode cX2_news 107 = .ok (.iload_n 3, 1) := by decide +kernel
theorem dX2_news_108 : decode cX2_news 108 = .ok (.bipush 10, 2) := by decide +kernel
theorem dX2_news_110 : decode cX2_news 110 = .ok (.isub, 1) := by decide +kernel
theorem dX2_news_111 : decode cX2_news 111 = .ok (.invokestatic 50, 3) := by decide +kernel
theorem dX2_news_114 : decode cX2_news 114 = .ok (.ifCond .eq 19, 3) := by decide +kernel
theorem dX2_news_117 : decode cX2_news 117 = .ok (.aload_n 0, 1) := by decide +kernel
theorem dX2_news_118 : decode cX2_news 118 = .ok (.getfield 31, 3) := by decide +kernel
theorem dX2_news_121 : decode cX2_news 121 = .ok (.iload 4, 2) := by decide +kernel
theorem dX2_news_123 : decode cX2_news 123 = .ok (.iload_n 3, 1) := by decide +kernel
theorem dX2_news_124 : decode cX2_news 124 = .ok (.bipush 10, 2) := by decide +kernel
theorem dX2_news_126 : decode cX2_news 126 = .ok (.isub, 1) := by decide +kernel
theorem dX2_news_127 : decode cX2_news 127 = .ok (.invokevirtual 143, 3) := by decide +kernel
theorem dX2_news_130 : decode cX2_news 130 = .ok (.goto 4, 3) := by decide +kernel
theorem dX2_news_133 : decode cX2_news 133 = .ok (.iconst (-1), 1) := by decide +kernel
theorem dX2_news_134 : decode cX2_news 134 = .ok (.ireturn, 1) := by decide +kernel
theorem dX2_flying_0 : decode cX2_flying 0 = .ok (.aload_n 0, 1) := by decide +kernel
theorem dX2_flying_1 : decode cX2_flying 1 = .ok (.getfield 35, 3) := by decide +kernel
theorem dX2_flying_4 : decode cX2_flying 4 = .ok (.getfield 146, 3) := by decide +kernel
theorem dX2_flying_7 : decode cX2_flying 7 = .ok (.ireturn, 1) := by decide +kernel
theorem dX2_distance_0 : decode cX2_distance 0 = .ok (.iload_n 1, 1) := by decide +kernel
theorem dX2_distance_1 : decode cX2_distance 1 = .ok (.invokestatic 50, 3) := by decide +kernel
theorem dX2_distance_4 : decode cX2_distance 4 = .ok (.ifCond .eq 19, 3) := by decide +kernel
theorem dX2_distance_7 : decode cX2_distance 7 = .ok (.iload_n 2, 1) := by decide +kernel
theorem dX2_distance_8 : decode cX2_distance 8 = .ok (.invokestatic 50, 3) := by decide +kernel
theorem dX2_distance_11 : decode cX2_distance 11 = .ok (.ifCond .eq 12, 3) := by decide +kernel
theorem dX2_distance_14 : decode cX2_distance 14 = .ok (.aload_n 0, 1) := by decide +kernel
theorem dX2_distance_15 : decode cX2_distance 15 = .ok (.getfield 9, 3) := by decide +kernel
theorem dX2_distance_18 : decode cX2_distance 18 = .ok (.iload_n 1, 1) := by decide +kernel
theorem dX2_distance_19 : decode cX2_distance 19 = .ok (.baload, 1) := by decide +kernel
theorem dX2_distance_20 : decode cX2_distance 20 = .ok (.ifCond .ne 5, 3) := by decide +kernel
theorem dX2_distance_23 : decode cX2_distance 23 = .ok (.iconst (-1), 1) := by decide +kernel
theorem dX2_distance_24 : decode cX2_distance 24 = .ok (.ireturn, 1) := by decide +kernel
theorem dX2_distance_25 : decode cX2_distance 25 = .ok (.aload_n 0, 1) := by decide +kernel
theorem dX2_distance_26 : decode cX2_distance 26 = .ok (.iload_n 1, 1) := by decide +kernel
theorem dX2_distance_27 : decode cX2_distance 27 = .ok (.iload_n 2, 1) := by decide +kernel
theorem dX2_distance_28 : decode cX2_distance 28 = .ok (.invokevirtual 149, 3) := by decide +kernel
theorem dX2_distance_31 : decode cX2_distance 31 = .ok (.aload_n 0, 1) := by decide +kernel
theorem dX2_distance_32 : decode cX2_distance 32 = .ok (.getfield 47, 3) := by decide +kernel
theorem dX2_distance_35 : decode cX2_distance 35 = .ok (.iload_n 1, 1) := by decide +kernel
theorem dX2_distance_36 : decode cX2_distance 36 = .ok (.iaload, 1) := by decide +kernel
theorem dX2_distance_37 : decode cX2_distance 37 = .ok (.sipush 1000, 3) := by decide +kernel
theorem dX2_distance_40 : decode cX2_distance 40 = .ok (.if_icmp .ge 12, 3) := by decide +kernel
theorem dX2_distance_43 : decode cX2_distance 43 = .ok (.aload_n 0, 1) := by decide +kernel
theorem dX2_distance_44 : decode cX2_distance 44 = .ok (.getfield 47, 3) := by decide +kernel
theorem dX2_distance_47 : decode cX2_distance 47 = .ok (.iload_n 1, 1) := by decide +kernel
theorem dX2_distance_48 : decode cX2_distance 48 = .ok (.iaload, 1) := by decide +kernel
theorem dX2_distance_49 : decode cX2_distance 49 = .ok (.goto 4, 3) := by decide +kernel
theorem dX2_distance_52 : decode cX2_distance 52 = .ok (.iconst (-1), 1) := by decide +kernel
theorem dX2_distance_53 : decode cX2_distance 53 = .ok (.ireturn, 1) := by decide +kernel
theorem dX2_next_0 : decode cX2_next 0 = .ok (.iload_n 1, 1) := by decide +kernel
theorem dX2_next_1 : decode cX2_next 1 = .ok (.invokestatic 50, 3) := by decide +kernel
theorem dX2_next_4 : decode cX2_next 4 = .ok (.ifCond .eq 19, 3) := by decide +kernel
theorem dX2_next_7 : decode cX2_next 7 = .ok (.iload_n 2, 1) := by decide +kernel
theorem dX2_next_8 : decode cX2_next 8 = .ok (.invokestatic 50, 3) := by decide +kernel
theorem dX2_next_11 : decode cX2_next 11 = .ok (.ifCond .eq 12, 3) := by decide +kernel
theorem dX2_next_14 : decode cX2_next 14 = .ok (.aload_n 0, 1) := by decide +kernel
theorem dX2_next_15 : decode cX2_next 15 = .ok (.getfield 9, 3) := by decide +kernel
theorem dX2_next_18 : decode cX2_next 18 = .ok (.iload_n 1, 1) := by decide +kernel
theorem dX2_next_19 : decode cX2_next 19 = .ok (.baload, 1) := by decide +kernel
theorem dX2_next_20 : decode cX2_next 20 = .ok (.ifCond .ne 5, 3) := by decide +kernel
theorem dX2_next_23 : decode cX2_next 23 = .ok (.iconst (-1), 1) := by decide +kernel
theorem dX2_next_24 : decode cX2_next 24 = .ok (.ireturn, 1) := by decide +kernel
theorem dX2_next_25 : decode cX2_next 25 = .ok (.aload_n 0, 1) := by decide +kernel
theorem dX2_next_26 : decode cX2_next 26 = .ok (.iload_n 1, 1) := by decide +kernel
theorem dX2_next_27 : decode cX2_next 27 = .ok (.iload_n 2, 1) := by decide +kernel
theorem dX2_next_28 : decode cX2_next 28 = .ok (.invokevirtual 152, 3) := by decide +kernel
theorem dX2_next_31 : decode cX2_next 31 = .ok (.ireturn, 1) := by decide +kernel
theorem dX2_send_0 : decode cX2_send 0 = .ok (.iload_n 1, 1) := by decide +kernel
theorem dX2_send_1 : decode cX2_send 1 = .ok (.invokestatic 50, 3) := by decide +kernel
theorem dX2_send_4 : decode cX2_send 4 = .ok (.ifCond .eq 20, 3) := by decide +kernel
theorem dX2_send_7 : decode cX2_send 7 = .ok (.iload_n 2, 1) := by decide +kernel
theorem dX2_send_8 : decode cX2_send 8 = .ok (.invokestatic 50, 3) := by decide +kernel
theorem dX2_send_11 : decode cX2_send 11 = .ok (.ifCond .eq 13, 3) := by decide +kernel
theorem dX2_send_14 : decode cX2_send 14 = .ok (.iload_n 3, 1) := by decide +kernel
theorem dX2_send_15 : decode cX2_send 15 = .ok (.ifCond .lt 9, 3) := by decide +kernel
theorem dX2_send_18 : decode cX2_send 18 = .ok (.iload_n 3, 1) := by decide +kernel
theorem dX2_send_19 : decode cX2_send 19 = .ok (.bipush 30, 2) := by decide +kernel
theorem dX2_send_21 : decode cX2_send 21 = .ok (.if_icmp .le 13, 3) := by decide +kernel
theorem dX2_send_24 : decode cX2_send 24 = .ok (.new 54, 3) := by decide +kernel
theorem dX2_send_27 : decode cX2_send 27 = .ok (.dup, 1) := by decide +kernel
theorem dX2_send_28 : decode cX2_send 28 = .ok (.ldc 155, 2) := by decide +kernel
theorem dX2_send_30 : decode cX2_send 30 = .ok (.invokespecial 58, 3) := by decide +kernel
theorem dX2_send_33 : decode cX2_send 33 = .ok (.athrow, 1) := by decide +kernel
theorem dX2_send_34 : decode cX2_send 34 = .ok (.aload_n 0, 1) := by decide +kernel
theorem dX2_send_35 : decode cX2_send 35 = .ok (.getfield 9, 3) := by decide +kernel
theorem dX2_send_38 : decode cX2_send 38 = .ok (.iload_n 1, 1) := by decide +kernel
theorem dX2_send_39 : decode cX2_send 39 = .ok (.baload, 1) := by decide +kernel
theorem dX2_send_40 : decode cX2_send 40 = .ok (.ifCond .eq 12, 3) := by decide +kernel
theorem dX2_send_43 : decode cX2_send 43 = .ok (.aload_n 0, 1) := by decide +kernel
theorem dX2_send_44 : decode cX2_send 44 = .ok (.getfield 157, 3) := by decide +kernel
theorem dX2_send_47 : decode cX2_send 47 = .ok (.bipush 20, 2) := by decide +kernel
theorem dX2_send_49 : decode cX2_send 49 = .ok (.if_icmp .lt 13, 3) := by decide +kernel
theorem dX2_send_52 : decode cX2_send 52 = .ok (.new 71, 3) := by decide +kernel
theorem dX2_send_55 : decode cX2_send 55 = .ok (.dup, 1) := by decide +kernel
theorem dX2_send_56 : decode cX2_send 56 = .ok (.ldc 160, 2) := by decide +kernel
theorem dX2_send_58 : decode cX2_send 58 = .ok (.invokespecial 75, 3) := by decide +kernel
theorem dX2_send_61 : decode cX2_send 61 = .ok (.athrow, 1) := by decide +kernel
theorem dX2_send_62 : decode cX2_send 62 = .ok (.new 41, 3) := by decide +kernel
theorem dX2_send_65 : decode cX2_send 65 = .ok (.dup, 1) := by decide +kernel
theorem dX2_send_66 : decode cX2_send 66 = .ok (.iload_n 2, 1) := by decide +kernel
theorem dX2_send_67 : decode cX2_send 67 = .ok (.iload_n 3, 1) := by decide +kernel
theorem dX2_send_68 : decode cX2_send 68 = .ok (.invokespecial 162, 3) := by decide +kernel
theorem dX2_send_71 : decode cX2_send 71 = .ok (.astore 4, 2) := by decide +kernel
theorem dX2_send_73 : decode cX2_send 73 = .ok (.aload_n 0, 1) := by decide +kernel
theorem dX2_send_74 : decode cX2_send 74 = .ok (.getfield 43, 3) := by decide +kernel
theorem dX2_send_77 : decode cX2_send 77 = .ok (.aload_n 0, 1) := by decide +kernel
theorem dX2_send_78 : decode cX2_send 78 = .ok (.getfield 157, 3) := by decide +kernel
theorem dX2_send_81 : decode cX2_send 81 = .ok (.aload 4, 2) := by decide +kernel
theorem dX2_send_83 : decode cX2_send 83 = .ok (.aastore, 1) := by decide +kernel
theorem dX2_send_84 : decode cX2_send 84 = .ok (.aload_n 0, 1) := by decide +kernel
theorem dX2_send_85 : decode cX2_send 85 = .ok (.dup, 1) := by decide +kernel
theorem dX2_send_86 : decode cX2_send 86 = .ok (.getfield 157, 3) := by decide +kernel
theorem dX2_send_89 : decode cX2_send 89 = .ok (.iconst 1, 1) := by decide +kernel
theorem dX2_send_90 : decode cX2_send 90 = .ok (.iadd, 1) := by decide +kernel
theorem dX2_send_91 : decode cX2_send 91 = .ok (.putfield 157, 3) := by decide +kernel
theorem dX2_send_94 : decode cX2_send 94 = .ok (.aload_n 0, 1) := by decide +kernel
theorem dX2_send_95 : decode cX2_send 95 = .ok (.aload 4, 2) := by decide +kernel
theorem dX2_send_97 : decode cX2_send 97 = .ok (.iload_n 1, 1) := by decide +kernel
theorem dX2_send_98 : decode cX2_send 98 = .ok (.invokevirtual 164, 3) := by decide +kernel
theorem dX2_send_101 : decode cX2_send 101 = .ok (.aload_n 0, 1) := by decide +kernel
theorem dX2_send_102 : decode cX2_send 102 = .ok (.getfield 157, 3) := by decide +kernel
theorem dX2_send_105 : decode cX2_send 105 = .ok (.iconst 1, 1) := by decide +kernel
theorem dX2_send_106 : decode cX2_send 106 = .ok (.isub, 1) := by decide +kernel
theorem dX2_send_107 : decode cX2_send 107 = .ok (.ireturn, 1) := by decide +kernel
theorem dX2_packet_0 : decode cX2_packet 0 = .ok (.iload_n 1, 1) := by decide +kernel
theorem dX2_packet_1 : decode cX2_packet 1 = .ok (.ifCond .lt 11, 3) := by decide +kernel
theorem dX2_packet_4 : decode cX2_packet 4 = .ok (.iload_n 1, 1) := by decide +kernel
theorem dX2_packet_5 : decode cX2_packet 5 = .ok (.aload_n 0, 1) := by decide +kernel
theorem dX2_packet_6 : decode cX2_packet 6 = .ok (.getfield 157, 3) := by decide +kernel
theorem dX2_packet_9 : decode cX2_packet 9 = .ok (.if_icmp .lt 5, 3) := by decide +kernel
theorem dX2_packet_12 : decode cX2_packet 12 = .ok (.iconst (-1), 1) := by decide +kernel
theorem dX2_packet_13 : decode cX2_packet 13 = .ok (.ireturn, 1) := by decide +kernel
theorem dX2_packet_14 : decode cX2_packet 14 = .ok (.aload_n 0, 1) := by decide +kernel
theorem dX2_packet_15 : decode cX2_packet 15 = .ok (.getfield 43, 3) := by decide +kernel
theorem dX2_packet_18 : decode cX2_packet 18 = .ok (.iload_n 1, 1) := by decide +kernel
theorem dX2_packet_19 : decode cX2_packet 19 = .ok (.aaload, 1) := by decide +kernel
theorem dX2_packet_20 : decode cX2_packet 20 = .ok (.astore_n 3, 1) := by decide +kernel
theorem dX2_packet_21 : decode cX2_packet 21 = .ok (.aload_n 3, 1) := by decide +kernel
theorem dX2_packet_22 : decode cX2_packet 22 = .ok (.ifnonnull 5, 3) := by decide +kernel
theorem dX2_packet_25 : decode cX2_packet 25 = .ok (.iconst (-1), 1) := by decide +kernel
theorem dX2_packet_26 : decode cX2_packet 26 = .ok (.ireturn, 1) := by decide +kernel
theorem dX2_packet_27 : decode cX2_packet 27 = .ok (.iload_n 2, 1) := by decide +kernel
theorem dX2_packet_28 : decode cX2_packet 28 = .ok (.tableswitch 43 0 2 #[28, 33, 38], 28) := by decide +kernel
theorem dX2_packet_56 : decode cX2_packet 56 = .ok (.aload_n 3, 1) := by decide +kernel
theorem dX2_packet_57 : decode cX2_packet 57 = .ok (.getfield 168, 3) := by decide +kernel
theorem dX2_packet_60 : decode cX2_packet 60 = .ok (.ireturn, 1) := by decide +kernel
theorem dX2_packet_61 : decode cX2_packet 61 = .ok (.aload_n 3, 1) := by decide +kernel
theorem dX2_packet_62 : decode cX2_packet 62 = .ok (.getfield 171, 3) := by decide +kernel
theorem dX2_packet_65 : decode cX2_packet 65 = .ok (.ireturn, 1) := by decide +kernel
theorem dX2_packet_66 : decode cX2_packet 66 = .ok (.aload_n 3, 1) := by decide +kernel
theorem dX2_packet_67 : decode cX2_packet 67 = .ok (.getfield 174, 3) := by decide +kernel
theorem dX2_packet_70 : decode cX2_packet 70 = .ok (.ireturn, 1) := by decide +kernel
theorem dX2_packet_71 : decode cX2_packet 71 = .ok (.iload_n 2, 1) := by decide +kernel
theorem dX2_packet_72 : decode cX2_packet 72 = .ok (.bipush 10, 2) := by decide +kernel
theorem dX2_packet_74 : decode cX2_packet 74 = .ok (.if_icmp .lt 26, 3) := by decide +kernel
theorem dX2_packet_77 : decode cX2_packet 77 = .ok (.iload_n 2, 1) := by decide +kernel
theorem dX2_packet_78 : decode cX2_packet 78 = .ok (.bipush 10, 2) := by decide +kernel
theorem dX2_packet_80 : decode cX2_packet 80 = .ok (.isub, 1) := by decide +kernel
theorem dX2_packet_81 : decode cX2_packet 81 = .ok (.aload_n 3, 1) := by decide +kernel
theorem dX2_packet_82 : decode cX2_packet 82 = .ok (.getfield 174, 3) := by decide +kernel
theorem dX2_packet_85 : decode cX2_packet 85 = .ok (.if_icmp .ge 15, 3) := by decide +kernel
theorem dX2_packet_88 : decode cX2_packet 88 = .ok (.aload_n 3, 1) := by decide +kernel
theorem dX2_packet_89 : decode cX2_packet 89 = .ok (.getfield 177, 3) := by decide +kernel
theorem dX2_packet_92 : decode cX2_packet 92 = .ok (.iload_n 2, 1) := by decide +kernel
theorem dX2_packet_93 : decode cX2_packet 93 = .ok (.bipush 10, 2) := by decide +kernel
theorem dX2_packet_95 : decode cX2_packet 95 = .ok (.isub, 1) := by decide +kernel
theorem dX2_packet_96 : decode cX2_packet 96 = .ok (.iaload, 1) := by decide +kernel
theorem dX2_packet_97 : decode cX2_packet 97 = .ok (.goto 4, 3) := by decide +kernel
theorem dX2_packet_100 : decode cX2_packet 100 = .ok (.iconst (-1), 1) := by decide +kernel
theorem dX2_packet_101 : decode cX2_packet 101 = .ok (.ireturn, 1) := by decide +kernel
theorem dX2_settled_0 : decode cX2_settled 0 = .ok (.aload_n 0, 1) := by decide +kernel
theorem dX2_settled_1 : decode cX2_settled 1 = .ok (.getfield 35, 3) := by decide +kernel
theorem dX2_settled_4 : decode cX2_settled 4 = .ok (.getfield 146, 3) := by decide +kernel
theorem dX2_settled_7 : decode cX2_settled 7 = .ok (.ifCond .le 5, 3) := by decide +kernel
theorem dX2_settled_10 : decode cX2_settled 10 = .ok (.iconst 0, 1) := by decide +kernel
theorem dX2_settled_11 : decode cX2_settled 11 = .ok (.ireturn, 1) := by decide +kernel
theorem dX2_settled_12 : decode cX2_settled 12 = .ok (.iconst 0, 1) := by decide +kernel
theorem dX2_settled_13 : decode cX2_settled 13 = .ok (.istore_n 1, 1) := by decide +kernel
theorem dX2_settled_14 : decode cX2_settled 14 = .ok (.iload_n 1, 1) := by decide +kernel
theorem dX2_settled_15 : decode cX2_settled 15 = .ok (.bipush 8, 2) := by decide +kernel
theorem dX2_settled_17 : decode cX2_settled 17 = .ok (.if_icmp .ge 28, 3) := by decide +kernel
theorem dX2_settled_20 : decode cX2_settled 20 = .ok (.aload_n 0, 1) := by decide +kernel
theorem dX2_settled_21 : decode cX2_settled 21 = .ok (.getfield 9, 3) := by decide +kernel
theorem dX2_settled_24 : decode cX2_settled 24 = .ok (.iload_n 1, 1) := by decide +kernel
theorem dX2_settled_25 : decode cX2_settled 25 = .ok (.baload, 1) := by decide +kernel
theorem dX2_settled_26 : decode cX2_settled 26 = .ok (.ifCond .eq 13, 3) := by decide +kernel
theorem dX2_settled_29 : decode cX2_settled 29 = .ok (.aload_n 0, 1) := by decide +kernel
theorem dX2_settled_30 : decode cX2_settled 30 = .ok (.iload_n 1, 1) := by decide +kernel
theorem dX2_settled_31 : decode cX2_settled 31 = .ok (.invokevirtual 180, 3) := by decide +kernel
theorem dX2_settled_34 : decode cX2_settled 34 = .ok (.ifCond .ne 5, 3) := by decide +kernel
theorem dX2_settled_37 : decode cX2_settled 37 = .ok (.iconst 0, 1) := by decide +kernel
theorem dX2_settled_38 : decode cX2_settled 38 = .ok (.ireturn, 1) := by decide +kernel
theorem dX2_settled_39 : decode cX2_settled 39 = .ok (.iinc 1 1, 3) := by decide +kernel
theorem dX2_settled_42 : decode cX2_settled 42 = .ok (.goto (-28), 3) := by decide +kernel
theorem dX2_settled_45 : decode cX2_settled 45 = .ok (.iconst 1, 1) := by decide +kernel
theorem dX2_settled_46 : decode cX2_settled 46 = .ok (.ireturn, 1) := by decide +kernel
theorem dX2_isNode_0 : decode cX2_isNode 0 = .ok (.iload_n 0, 1) := by decide +kernel
theorem dX2_isNode_1 : decode cX2_isNode 1 = .ok (.ifCond .lt 13, 3) := by decide +kernel
theorem dX2_isNode_4 : decode cX2_isNode 4 = .ok (.iload_n 0, 1) := by decide +kernel
theorem dX2_isNode_5 : decode cX2_isNode 5 = .ok (.bipush 8, 2) := by decide +kernel
theorem dX2_isNode_7 : decode cX2_isNode 7 = .ok (.if_icmp .ge 7, 3) := by decide +kernel
theorem dX2_isNode_10 : decode cX2_isNode 10 = .ok (.iconst 1, 1) := by decide +kernel
theorem dX2_isNode_11 : decode cX2_isNode 11 = .ok (.goto 4, 3) := by decide +kernel
theorem dX2_isNode_14 : decode cX2_isNode 14 = .ok (.iconst 0, 1) := by decide +kernel
theorem dX2_isNode_15 : decode cX2_isNode 15 = .ok (.ireturn, 1) := by decide +kernel
theorem dX2_pair_0 : decode cX2_pair 0 = .ok (.iload_n 0, 1) := by decide +kernel
theorem dX2_pair_1 : decode cX2_pair 1 = .ok (.bipush 8, 2) := by decide +kernel
theorem dX2_pair_3 : decode cX2_pair 3 = .ok (.imul, 1) := by decide +kernel
theorem dX2_pair_4 : decode cX2_pair 4 = .ok (.iload_n 1, 1) := by decide +kernel
theorem dX2_pair_5 : decode cX2_pair 5 = .ok (.iadd, 1) := by decide +kernel
theorem dX2_pair_6 : decode cX2_pair 6 = .ok (.ireturn, 1) := by decide +kernel
theorem dX2_knownRow_0 : decode cX2_knownRow 0 = .ok (.iload_n 0, 1) := by decide +kernel
theorem dX2_knownRow_1 : decode cX2_knownRow 1 = .ok (.bipush 8, 2) := by decide +kernel
theorem dX2_knownRow_3 : decode cX2_knownRow 3 = .ok (.imul, 1) := by decide +kernel
theorem dX2_knownRow_4 : decode cX2_knownRow 4 = .ok (.iload_n 1, 1) := by decide +kernel
theorem dX2_knownRow_5 : decode cX2_knownRow 5 = .ok (.iadd, 1) := by decide +kernel
theorem dX2_knownRow_6 : decode cX2_knownRow 6 = .ok (.ireturn, 1) := by decide +kernel
theorem dX2_flightRow_0 : decode cX2_flightRow 0 = .ok (.iload_n 0, 1) := by decide +kernel
theorem dX2_flightRow_1 : decode cX2_flightRow 1 = .ok (.bipush 8, 2) := by decide +kernel
theorem dX2_flightRow_3 : decode cX2_flightRow 3 = .ok (.imul, 1) := by decide +kernel
theorem dX2_flightRow_4 : decode cX2_flightRow 4 = .ok (.iload_n 1, 1) := by decide +kernel
theorem dX2_flightRow_5 : decode cX2_flightRow 5 = .ok (.iadd, 1) := by decide +kernel
theorem dX2_flightRow_6 : decode cX2_flightRow 6 = .ok (.bipush 8, 2) := by decide +kernel
theorem dX2_flightRow_8 : decode cX2_flightRow 8 = .ok (.imul, 1) := by decide +kernel
theorem dX2_flightRow_9 : decode cX2_flightRow 9 = .ok (.iload_n 2, 1) := by decide +kernel
theorem dX2_flightRow_10 : decode cX2_flightRow 10 = .ok (.iadd, 1) := by decide +kernel
theorem dX2_flightRow_11 : decode cX2_flightRow 11 = .ok (.ireturn, 1) := by decide +kernel
theorem dX2_hasLink_0 : decode cX2_hasLink 0 = .ok (.iload_n 1, 1) := by decide +kernel
theorem dX2_hasLink_1 : decode cX2_hasLink 1 = .ok (.invokestatic 50, 3) := by decide +kernel
theorem dX2_hasLink_4 : decode cX2_hasLink 4 = .ok (.ifCond .eq 27, 3) := by decide +kernel
theorem dX2_hasLink_7 : decode cX2_hasLink 7 = .ok (.iload_n 2, 1) := by decide +kernel
theorem dX2_hasLink_8 : decode cX2_hasLink 8 = .ok (.invokestatic 50, 3) := by decide +kernel
theorem dX2_hasLink_11 : decode cX2_hasLink 11 = .ok (.ifCond .eq 20, 3) := by decide +kernel
theorem dX2_hasLink_14 : decode cX2_hasLink 14 = .ok (.aload_n 0, 1) := by decide +kernel
theorem dX2_hasLink_15 : decode cX2_hasLink 15 = .ok (.getfield 17, 3) := by decide +kernel
theorem dX2_hasLink_18 : decode cX2_hasLink 18 = .ok (.iload_n 1, 1) := by decide +kernel
theorem dX2_hasLink_19 : decode cX2_hasLink 19 = .ok (.iload_n 2, 1) := by decide +kernel
theorem dX2_hasLink_20 : decode cX2_hasLink 20 = .ok (.invokestatic 86, 3) := by decide +kernel
theorem dX2_hasLink_23 : decode cX2_hasLink 23 = .ok (.iaload, 1) := by decide +kernel
theorem dX2_hasLink_24 : decode cX2_hasLink 24 = .ok (.ifCond .le 7, 3) := by decide +kernel
theorem dX2_hasLink_27 : decode cX2_hasLink 27 = .ok (.iconst 1, 1) := by decide +kernel
theorem dX2_hasLink_28 : decode cX2_hasLink 28 = .ok (.goto 4, 3) := by decide +kernel
theorem dX2_hasLink_31 : decode cX2_hasLink 31 = .ok (.iconst 0, 1) := by decide +kernel
theorem dX2_hasLink_32 : decode cX2_hasLink 32 = .ok (.ireturn, 1) := by decide +kernel
theorem dX2_carries_0 : decode cX2_carries 0 = .ok (.aload_n 0, 1) := by decide +kernel
theorem dX2_carries_1 : decode cX2_carries 1 = .ok (.getfield 23, 3) := by decide +kernel
theorem dX2_carries_4 : decode cX2_carries 4 = .ok (.iload_n 1, 1) := by decide +kernel
theorem dX2_carries_5 : decode cX2_carries 5 = .ok (.iload_n 2, 1) := by decide +kernel
theorem dX2_carries_6 : decode cX2_carries 6 = .ok (.invokestatic 86, 3) := by decide +kernel
theorem dX2_carries_9 : decode cX2_carries 9 = .ok (.baload, 1) := by decide +kernel
theorem dX2_carries_10 : decode cX2_carries 10 = .ok (.ifCond .eq 25, 3) := by decide +kernel
theorem dX2_carries_13 : decode cX2_carries 13 = .ok (.aload_n 0, 1) := by decide +kernel
theorem dX2_carries_14 : decode cX2_carries 14 = .ok (.getfield 9, 3) := by decide +kernel
theorem dX2_carries_17 : decode cX2_carries 17 = .ok (.iload_n 1, 1) := by decide +kernel
theorem dX2_carries_18 : decode cX2_carries 18 = .ok (.baload, 1) := by decide +kernel
theorem dX2_carries_19 : decode cX2_carries 19 = .ok (.ifCond .eq 16, 3) := by decide +kernel
theorem dX2_carries_22 : decode cX2_carries 22 = .ok (.aload_n 0, 1) := by decide +kernel
theorem dX2_carries_23 : decode cX2_carries 23 = .ok (.getfield 9, 3) := by decide +kernel
theorem dX2_carries_26 : decode cX2_carries 26 = .ok (.iload_n 2, 1) := by decide +kernel
theorem dX2_carries_27 : decode cX2_carries 27 = .ok (.baload, 1) := by decide +kernel
theorem dX2_carries_28 : decode cX2_carries 28 = .ok (.ifCond .eq 7, 3) := by decide +kernel
theorem dX2_carries_31 : decode cX2_carries 31 = .ok (.iconst 1, 1) := by decide +kernel
theorem dX2_carries_32 : decode cX2_carries 32 = .ok (.goto 4, 3) := by decide +kernel
theorem dX2_carries_35 : decode cX2_carries 35 = .ok (.iconst 0, 1) := by decide +kernel
theorem dX2_carries_36 : decode cX2_carries 36 = .ok (.ireturn, 1) := by decide +kernel
theorem dX2_putLink_0 : decode cX2_putLink 0 = .ok (.aload_n 0, 1) := by decide +kernel
theorem dX2_putLink_1 : decode cX2_putLink 1 = .ok (.getfield 17, 3) := by decide +kernel
theorem dX2_putLink_4 : decode cX2_putLink 4 = .ok (.iload_n 1, 1) := by decide +kernel
theorem dX2_putLink_5 : decode cX2_putLink 5 = .ok (.iload_n 2, 1) := by decide +kernel
theorem dX2_putLink_6 : decode cX2_putLink 6 = .ok (.invokestatic 86, 3) := by decide +kernel
theorem dX2_putLink_9 : decode cX2_putLink 9 = .ok (.iload_n 3, 1) := by decide +kernel
theorem dX2_putLink_10 : decode cX2_putLink 10 = .ok (.iastore, 1) := by decide +kernel
theorem dX2_putLink_11 : decode cX2_putLink 11 = .ok (.aload_n 0, 1) := by decide +kernel
theorem dX2_putLink_12 : decode cX2_putLink 12 = .ok (.getfield 20, 3) := by decide +kernel
theorem dX2_putLink_15 : decode cX2_putLink 15 = .ok (.iload_n 1, 1) := by decide +kernel
theorem dX2_putLink_16 : decode cX2_putLink 16 = .ok (.iload_n 2, 1) := by decide +kernel
theorem dX2_putLink_17 : decode cX2_putLink 17 = .ok (.invokestatic 86, 3) := by decide +kernel
theorem dX2_putLink_20 : decode cX2_putLink 20 = .ok (.iload 4, 2) := by decide +kernel
theorem dX2_putLink_22 : decode cX2_putLink 22 = .ok (.iastore, 1) := by decide +kernel
theorem dX2_putLink_23 : decode cX2_putLink 23 = .ok (.return_, 1) := by decide +kernel
theorem dX2_bringUp_0 : decode cX2_bringUp 0 = .ok (.aload_n 0, 1) := by decide +kernel
theorem dX2_bringUp_1 : decode cX2_bringUp 1 = .ok (.getfield 23, 3) := by decide +kernel
theorem dX2_bringUp_4 : decode cX2_bringUp 4 = .ok (.iload_n 1, 1) := by decide +kernel
theorem dX2_bringUp_5 : decode cX2_bringUp 5 = .ok (.iload_n 2, 1) := by decide +kernel
theorem dX2_bringUp_6 : decode cX2_bringUp 6 = .ok (.invokestatic 86, 3) := by decide +kernel
theorem dX2_bringUp_9 : decode cX2_bringUp 9 = .ok (.iconst 1, 1) := by decide +kernel
theorem dX2_bringUp_10 : decode cX2_bringUp 10 = .ok (.bastore, 1) := by decide +kernel
theorem dX2_bringUp_11 : decode cX2_bringUp 11 = .ok (.aload_n 0, 1) := by decide +kernel
theorem dX2_bringUp_12 : decode cX2_bringUp 12 = .ok (.getfield 23, 3) := by decide +kernel
theorem dX2_bringUp_15 : decode cX2_bringUp 15 = .ok (.iload_n 2, 1) := by decide +kernel
theorem dX2_bringUp_16 : decode cX2_bringUp 16 = .ok (.iload_n 1, 1) := by decide +kernel
theorem dX2_bringUp_17 : decode cX2_bringUp 17 = .ok (.invokestatic 86, 3) := by decide +kernel
theorem dX2_bringUp_20 : decode cX2_bringUp 20 = .ok (.iconst 1, 1) := by decide +kernel
theorem dX2_bringUp_21 : decode cX2_bringUp 21 = .ok (.bastore, 1) := by decide +kernel
theorem dX2_bringUp_22 : decode cX2_bringUp 22 = .ok (.aload_n 0, 1) := by decide +kernel
theorem dX2_bringUp_23 : decode cX2_bringUp 23 = .ok (.iload_n 1, 1) := by decide +kernel
theorem dX2_bringUp_24 : decode cX2_bringUp 24 = .ok (.iload_n 2, 1) := by decide +kernel
theorem dX2_bringUp_25 : decode cX2_bringUp 25 = .ok (.invokevirtual 101, 3) := by decide +kernel
theorem dX2_bringUp_28 : decode cX2_bringUp 28 = .ok (.ifCond .ne 4, 3) := by decide +kernel
theorem dX2_bringUp_31 : decode cX2_bringUp 31 = .ok (.return_, 1) := by decide +kernel
theorem dX2_bringUp_32 : decode cX2_bringUp 32 = .ok (.iload_n 1, 1) := by decide +kernel
theorem dX2_bringUp_33 : decode cX2_bringUp 33 = .ok (.iload_n 2, 1) := by decide +kernel
theorem dX2_bringUp_34 : decode cX2_bringUp 34 = .ok (.invokestatic 183, 3) := by decide +kernel
theorem dX2_bringUp_37 : decode cX2_bringUp 37 = .ok (.istore_n 3, 1) := by decide +kernel
theorem dX2_bringUp_38 : decode cX2_bringUp 38 = .ok (.iload_n 1, 1) := by decide +kernel
theorem dX2_bringUp_39 : decode cX2_bringUp 39 = .ok (.iload_n 2, 1) := by decide +kernel
theorem dX2_bringUp_40 : decode cX2_bringUp 40 = .ok (.invokestatic 188, 3) := by decide +kernel
theorem dX2_bringUp_43 : decode cX2_bringUp 43 = .ok (.istore 4, 2) := by decide +kernel
theorem dX2_bringUp_45 : decode cX2_bringUp 45 = .ok (.aload_n 0, 1) := by decide +kernel
theorem dX2_bringUp_46 : decode cX2_bringUp 46 = .ok (.iload_n 3, 1) := by decide +kernel
theorem dX2_bringUp_47 : decode cX2_bringUp 47 = .ok (.invokevirtual 98, 3) := by decide +kernel
theorem dX2_bringUp_50 : decode cX2_bringUp 50 = .ok (.aload_n 0, 1) := by decide +kernel
theorem dX2_bringUp_51 : decode cX2_bringUp 51 = .ok (.iload 4, 2) := by decide +kernel
theorem dX2_bringUp_53 : decode cX2_bringUp 53 = .ok (.invokevirtual 98, 3) := by decide +kernel
theorem dX2_bringUp_56 : decode cX2_bringUp 56 = .ok (.aload_n 0, 1) := by decide +kernel
theorem dX2_bringUp_57 : decode cX2_bringUp 57 = .ok (.iload_n 3, 1) := by decide +kernel
theorem dX2_bringUp_58 : decode cX2_bringUp 58 = .ok (.iload 4, 2) := by decide +kernel
theorem dX2_bringUp_60 : decode cX2_bringUp 60 = .ok (.invokevirtual 104, 3) := by decide +kernel
theorem dX2_bringUp_63 : decode cX2_bringUp 63 = .ok (.aload_n 0, 1) := by decide +kernel
theorem dX2_bringUp_64 : decode cX2_bringUp 64 = .ok (.iload 4, 2) := by decide +kernel
theorem dX2_bringUp_66 : decode cX2_bringUp 66 = .ok (.iload_n 3, 1) := by decide +kernel
theorem dX2_bringUp_67 : decode cX2_bringUp 67 = .ok (.invokevirtual 104, 3) := by decide +kernel
theorem dX2_bringUp_70 : decode cX2_bringUp 70 = .ok (.return_, 1) := by decide +kernel
theorem dX2_takeDown_0 : decode cX2_takeDown 0 = .ok (.aload_n 0, 1) := by decide +kernel
theorem dX2_takeDown_1 : decode cX2_takeDown 1 = .ok (.iload_n 1, 1) := by decide +kernel
theorem dX2_takeDown_2 : decode cX2_takeDown 2 = .ok (.iload_n 2, 1) := by decide +kernel
theorem dX2_takeDown_3 : decode cX2_takeDown 3 = .ok (.invokevirtual 101, 3) := by decide +kernel
theorem dX2_takeDown_6 : decode cX2_takeDown 6 = .ok (.istore_n 3, 1) := by decide +kernel
theorem dX2_takeDown_7 : decode cX2_takeDown 7 = .ok (.aload_n 0, 1) := by decide +kernel
theorem dX2_takeDown_8 : decode cX2_takeDown 8 = .ok (.getfield 23, 3) := by decide +kernel
theorem dX2_takeDown_11 : decode cX2_takeDown 11 = .ok (.iload_n 1, 1) := by decide +kernel
theorem dX2_takeDown_12 : decode cX2_takeDown 12 = .ok (.iload_n 2, 1) := by decide +kernel
theorem dX2_takeDown_13 : decode cX2_takeDown 13 = .ok (.invokestatic 86, 3) := by decide +kernel
theorem dX2_takeDown_16 : decode cX2_takeDown 16 = .ok (.iconst 0, 1) := by decide +kernel
theorem dX2_takeDown_17 : decode cX2_takeDown 17 = .ok (.bastore, 1) := by decide +kernel
theorem dX2_takeDown_18 : decode cX2_takeDown 18 = .ok (.aload_n 0, 1) := by decide +kernel
theorem dX2_takeDown_19 : decode cX2_takeDown 19 = .ok (.getfield 23, 3) := by decide +kernel
theorem dX2_takeDown_22 : decode cX2_takeDown 22 = .ok (.iload_n 2, 1) := by decide +kernel
theorem dX2_takeDown_23 : decode cX2_takeDown 23 = .ok (.iload_n 1, 1) := by decide +kernel
theorem dX2_takeDown_24 : decode cX2_takeDown 24 = .ok (.invokestatic 86, 3) := by decide +kernel
theorem dX2_takeDown_27 : decode cX2_takeDown 27 = .ok (.iconst 0, 1) := by decide +kernel
theorem dX2_takeDown_28 : decode cX2_takeDown 28 = .ok (.bastore, 1) := by decide +kernel
theorem dX2_takeDown_29 : decode cX2_takeDown 29 = .ok (.iload_n 3, 1) := by decide +kernel
theorem dX2_takeDown_30 : decode cX2_takeDown 30 = .ok (.ifCond .ne 4, 3) := by decide +kernel
theorem dX2_takeDown_33 : decode cX2_takeDown 33 = .ok (.return_, 1) := by decide +kernel
theorem dX2_takeDown_34 : decode cX2_takeDown 34 = .ok (.aload_n 0, 1) := by decide +kernel
theorem dX2_takeDown_35 : decode cX2_takeDown 35 = .ok (.iload_n 1, 1) := by decide +kernel
theorem dX2_takeDown_36 : decode cX2_takeDown 36 = .ok (.iload_n 2, 1) := by decide +kernel
theorem dX2_takeDown_37 : decode cX2_takeDown 37 = .ok (.invokevirtual 113, 3) := by decide +kernel
theorem dX2_takeDown_40 : decode cX2_takeDown 40 = .ok (.aload_n 0, 1) := by decide +kernel
theorem dX2_takeDown_41 : decode cX2_takeDown 41 = .ok (.iload_n 1, 1) := by decide +kernel
theorem dX2_takeDown_42 : decode cX2_takeDown 42 = .ok (.iload_n 2, 1) := by decide +kernel
theorem dX2_takeDown_43 : decode cX2_takeDown 43 = .ok (.invokestatic 183, 3) := by decide +kernel
theorem dX2_takeDown_46 : decode cX2_takeDown 46 = .ok (.invokevirtual 98, 3) := by decide +kernel
theorem dX2_takeDown_49 : decode cX2_takeDown 49 = .ok (.aload_n 0, 1) := by decide +kernel
theorem dX2_takeDown_50 : decode cX2_takeDown 50 = .ok (.iload_n 1, 1) := by decide +kernel
theorem dX2_takeDown_51 : decode cX2_takeDown 51 = .ok (.iload_n 2, 1) := by decide +kernel
theorem dX2_takeDown_52 : decode cX2_takeDown 52 = .ok (.invokestatic 188, 3) := by decide +kernel
theorem dX2_takeDown_55 : decode cX2_takeDown 55 = .ok (.invokevirtual 98, 3) := by decide +kernel
theorem dX2_takeDown_58 : decode cX2_takeDown 58 = .ok (.return_, 1) := by decide +kernel
theorem dX2_emptyLink_0 : decode cX2_emptyLink 0 = .ok (.iconst 0, 1) := by decide +kernel
theorem dX2_emptyLink_1 : decode cX2_emptyLink 1 = .ok (.istore_n 3, 1) := by decide +kernel
theorem dX2_emptyLink_2 : decode cX2_emptyLink 2 = .ok (.iload_n 3, 1) := by decide +kernel
theorem dX2_emptyLink_3 : decode cX2_emptyLink 3 = .ok (.bipush 8, 2) := by decide +kernel
theorem dX2_emptyLink_5 : decode cX2_emptyLink 5 = .ok (.if_icmp .ge 35, 3) := by decide +kernel
theorem dX2_emptyLink_8 : decode cX2_emptyLink 8 = .ok (.aload_n 0, 1) := by decide +kernel
theorem dX2_emptyLink_9 : decode cX2_emptyLink 9 = .ok (.getfield 35, 3) := by decide +kernel
theorem dX2_emptyLink_12 : decode cX2_emptyLink 12 = .ok (.iload_n 1, 1) := by decide +kernel
theorem dX2_emptyLink_13 : decode cX2_emptyLink 13 = .ok (.iload_n 2, 1) := by decide +kernel
theorem dX2_emptyLink_14 : decode cX2_emptyLink 14 = .ok (.iload_n 3, 1) := by decide +kernel
theorem dX2_emptyLink_15 : decode cX2_emptyLink 15 = .ok (.invokestatic 191, 3) := by decide +kernel
theorem dX2_emptyLink_18 : decode cX2_emptyLink 18 = .ok (.invokevirtual 110, 3) := by decide +kernel
theorem dX2_emptyLink_21 : decode cX2_emptyLink 21 = .ok (.aload_n 0, 1) := by decide +kernel
theorem dX2_emptyLink_22 : decode cX2_emptyLink 22 = .ok (.getfield 35, 3) := by decide +kernel
theorem dX2_emptyLink_25 : decode cX2_emptyLink 25 = .ok (.iload_n 2, 1) := by decide +kernel
theorem dX2_emptyLink_26 : decode cX2_emptyLink 26 = .ok (.iload_n 1, 1) := by decide +kernel
theorem dX2_emptyLink_27 : decode cX2_emptyLink 27 = .ok (.iload_n 3, 1) := by decide +kernel
theorem dX2_emptyLink_28 : decode cX2_emptyLink 28 = .ok (.invokestatic 191, 3) := by decide +kernel
theorem dX2_emptyLink_31 : decode cX2_emptyLink 31 = .ok (.invokevirtual 110, 3) := by decide +kernel
theorem dX2_emptyLink_34 : decode cX2_emptyLink 34 = .ok (.iinc 3 1, 3) := by decide +kernel
theorem dX2_emptyLink_37 : decode cX2_emptyLink 37 = .ok (.goto (-35), 3) := by decide +kernel
theorem dX2_emptyLink_40 : decode cX2_emptyLink 40 = .ok (.aload_n 0, 1) := by decide +kernel
theorem dX2_emptyLink_41 : decode cX2_emptyLink 41 = .ok (.getfield 43, 3) := by decide +kernel
theorem dX2_emptyLink_44 : decode cX2_emptyLink 44 = .ok (.astore_n 3, 1) := by decide +kernel
theorem dX2_emptyLink_45 : decode cX2_emptyLink 45 = .ok (.aload_n 3, 1) := by decide +kernel
theorem dX2_emptyLink_46 : decode cX2_emptyLink 46 = .ok (.arraylength, 1) := by decide +kernel
theorem dX2_emptyLink_47 : decode cX2_emptyLink 47 = .ok (.istore 4, 2) := by decide +kernel
theorem dX2_emptyLink_49 : decode cX2_emptyLink 49 = .ok (.iconst 0, 1) := by decide +kernel
theorem dX2_emptyLink_50 : decode cX2_emptyLink 50 = .ok (.istore 5, 2) := by decide +kernel
theorem dX2_emptyLink_52 : decode cX2_emptyLink 52 = .ok (.iload 5, 2) := by decide +kernel
theorem dX2_emptyLink_54 : decode cX2_emptyLink 54 = .ok (.iload 4, 2) := by decide +kernel
theorem dX2_emptyLink_56 : decode cX2_emptyLink 56 = .ok (.if_icmp .ge 36, 3) := by decide +kernel
theorem dX2_emptyLink_59 : decode cX2_emptyLink 59 = .ok (.aload_n 3, 1) := by decide +kernel
theorem dX2_emptyLink_60 : decode cX2_emptyLink 60 = .ok (.iload 5, 2) := by decide +kernel
theorem dX2_emptyLink_62 : decode cX2_emptyLink 62 = .ok (.aaload, 1) := by decide +kernel
theorem dX2_emptyLink_63 : decode cX2_emptyLink 63 = .ok (.astore 6, 2) := by decide +kernel
theorem dX2_emptyLink_65 : decode cX2_emptyLink 65 = .ok (.aload 6, 2) := by decide +kernel
theorem dX2_emptyLink_67 : decode cX2_emptyLink 67 = .ok (.ifnull 19, 3) := by decide +kernel
theorem dX2_emptyLink_70 : decode cX2_emptyLink 70 = .ok (.aload 6, 2) := by decide +kernel
theorem dX2_emptyLink_72 : decode cX2_emptyLink 72 = .ok (.iload_n 1, 1) := by decide +kernel
theorem dX2_emptyLink_73 : decode cX2_emptyLink 73 = .ok (.iload_n 2, 1) := by decide +kernel
theorem dX2_emptyLink_74 : decode cX2_emptyLink 74 = .ok (.invokevirtual 195, 3) := by decide +kernel
theorem dX2_emptyLink_77 : decode cX2_emptyLink 77 = .ok (.ifCond .eq 9, 3) := by decide +kernel
theorem dX2_emptyLink_80 : decode cX2_emptyLink 80 = .ok (.aload 6, 2) := by decide +kernel
theorem dX2_emptyLink_82 : decode cX2_emptyLink 82 = .ok (.iconst 3, 1) := by decide +kernel
theorem dX2_emptyLink_83 : decode cX2_emptyLink 83 = .ok (.putfield 168, 3) := by decide +kernel
theorem dX2_emptyLink_86 : decode cX2_emptyLink 86 = .ok (.iinc 5 1, 3) := by decide +kernel
theorem dX2_emptyLink_89 : decode cX2_emptyLink 89 = .ok (.goto (-37), 3) := by decide +kernel
theorem dX2_emptyLink_92 : decode cX2_emptyLink 92 = .ok (.return_, 1) := by decide +kernel
theorem dX2_tellNeighbours_0 : decode cX2_tellNeighbours 0 = .ok (.iconst 0, 1) := by decide +kernel
theorem dX2_tellNeighbours_1 : decode cX2_tellNeighbours 1 = .ok (.istore_n 2, 1) := by decide +kernel
theorem dX2_tellNeighbours_2 : decode cX2_tellNeighbours 2 = .ok (.iload_n 2, 1) := by decide +kernel
theorem dX2_tellNeighbours_3 : decode cX2_tellNeighbours 3 = .ok (.bipush 8, 2) := by decide +kernel
theorem dX2_tellNeighbours_5 : decode cX2_tellNeighbours 5 = .ok (.if_icmp .ge 36, 3) := by decide +kernel
theorem dX2_tellNeighbours_8 : decode cX2_tellNeighbours 8 = .ok (.aload_n 0, 1) := by decide +kernel
theorem dX2_tellNeighbours_9 : decode cX2_tellNeighbours 9 = .ok (.getfield 23, 3) := by decide +kernel
theorem dX2_tellNeighbours_12 : decode cX2_tellNeighbours 12 = .ok (.iload_n 1, 1) := by decide +kernel
theorem dX2_tellNeighbours_13 : decode cX2_tellNeighbours 13 = .ok (.iload_n 2, 1) := by decide +kernel
theorem dX2_tellNeighbours_14 : decode cX2_tellNeighbours 14 = .ok (.invokestatic 86, 3) := by decide +kernel
theorem dX2_tellNeighbours_17 : decode cX2_tellNeighbours 17 = .ok (.baload, 1) := by decide +kernel
theorem dX2_tellNeighbours_18 : decode cX2_tellNeighbours 18 = .ok (.ifCond .eq 17, 3) := by decide +kernel
theorem dX2_tellNeighbours_21 : decode cX2_tellNeighbours 21 = .ok (.aload_n 0, 1) := by decide +kernel
theorem dX2_tellNeighbours_22 : decode cX2_tellNeighbours 22 = .ok (.getfield 9, 3) := by decide +kernel
theorem dX2_tellNeighbours_25 : decode cX2_tellNeighbours 25 = .ok (.iload_n 2, 1) := by decide +kernel
theorem dX2_tellNeighbours_26 : decode cX2_tellNeighbours 26 = .ok (.baload, 1) := by decide +kernel
theorem dX2_tellNeighbours_27 : decode cX2_tellNeighbours 27 = .ok (.ifCond .eq 8, 3) := by decide +kernel
theorem dX2_tellNeighbours_30 : decode cX2_tellNeighbours 30 = .ok (.aload_n 0, 1) := by decide +kernel
theorem dX2_tellNeighbours_31 : decode cX2_tellNeighbours 31 = .ok (.iload_n 2, 1) := by decide +kernel
theorem dX2_tellNeighbours_32 : decode cX2_tellNeighbours 32 = .ok (.invokevirtual 98, 3) := by decide +kernel
theorem dX2_tellNeighbours_35 : decode cX2_tellNeighbours 35 = .ok (.iinc 2 1, 3) := by decide +kernel
theorem dX2_tellNeighbours_38 : decode cX2_tellNeighbours 38 = .ok (.goto (-36), 3) := by decide +kernel
theorem dX2_tellNeighbours_41 : decode cX2_tellNeighbours 41 = .ok (.return_, 1) := by decide +kernel
theorem dX2_tell_0 : decode cX2_tell 0 = .ok (.aload_n 0, 1) := by decide +kernel
theorem dX2_tell_1 : decode cX2_tell 1 = .ok (.getfield 13, 3) := by decide +kernel
theorem dX2_tell_4 : decode cX2_tell 4 = .ok (.iload_n 1, 1) := by decide +kernel
theorem dX2_tell_5 : decode cX2_tell 5 = .ok (.dup2, 1) := by decide +kernel
theorem dX2_tell_6 : decode cX2_tell 6 = .ok (.iaload, 1) := by decide +kernel
theorem dX2_tell_7 : decode cX2_tell 7 = .ok (.iconst 1, 1) := by decide +kernel
theorem dX2_tell_8 : decode cX2_tell 8 = .ok (.iadd, 1) := by decide +kernel
theorem dX2_tell_9 : decode cX2_tell 9 = .ok (.iastore, 1) := by decide +kernel
theorem dX2_tell_10 : decode cX2_tell 10 = .ok (.aload_n 0, 1) := by decide +kernel
theorem dX2_tell_11 : decode cX2_tell 11 = .ok (.getfield 31, 3) := by decide +kernel
theorem dX2_tell_14 : decode cX2_tell 14 = .ok (.iload_n 1, 1) := by decide +kernel
theorem dX2_tell_15 : decode cX2_tell 15 = .ok (.iload_n 1, 1) := by decide +kernel
theorem dX2_tell_16 : decode cX2_tell 16 = .ok (.invokestatic 107, 3) := by decide +kernel
theorem dX2_tell_19 : decode cX2_tell 19 = .ok (.aload_n 0, 1) := by decide +kernel
theorem dX2_tell_20 : decode cX2_tell 20 = .ok (.getfield 13, 3) := by decide +kernel
theorem dX2_tell_23 : decode cX2_tell 23 = .ok (.iload_n 1, 1) := by decide +kernel
theorem dX2_tell_24 : decode cX2_tell 24 = .ok (.iaload, 1) := by decide +kernel
theorem dX2_tell_25 : decode cX2_tell 25 = .ok (.aload_n 0, 1) := by decide +kernel
theorem dX2_tell_26 : decode cX2_tell 26 = .ok (.getfield 118, 3) := by decide +kernel
theorem dX2_tell_29 : decode cX2_tell 29 = .ok (.aload_n 0, 1) := by decide +kernel
theorem dX2_tell_30 : decode cX2_tell 30 = .ok (.iload_n 1, 1) := by decide +kernel
theorem dX2_tell_31 : decode cX2_tell 31 = .ok (.invokevirtual 198, 3) := by decide +kernel
theorem dX2_tell_34 : decode cX2_tell 34 = .ok (.invokevirtual 202, 3) := by decide +kernel
theorem dX2_tell_37 : decode cX2_tell 37 = .ok (.aload_n 0, 1) := by decide +kernel
theorem dX2_tell_38 : decode cX2_tell 38 = .ok (.iload_n 1, 1) := by decide +kernel
theorem dX2_tell_39 : decode cX2_tell 39 = .ok (.iload_n 1, 1) := by decide +kernel
theorem dX2_tell_40 : decode cX2_tell 40 = .ok (.iconst (-1), 1) := by decide +kernel
theorem dX2_tell_41 : decode cX2_tell 41 = .ok (.invokevirtual 206, 3) := by decide +kernel
theorem dX2_tell_44 : decode cX2_tell 44 = .ok (.return_, 1) := by decide +kernel
theorem dX2_costsNow_0 : decode cX2_costsNow 0 = .ok (.lconst 0, 1) := by decide +kernel
theorem dX2_costsNow_1 : decode cX2_costsNow 1 = .ok (.lstore_n 2, 1) := by decide +kernel
theorem dX2_costsNow_2 : decode cX2_costsNow 2 = .ok (.iconst 0, 1) := by decide +kernel
theorem dX2_costsNow_3 : decode cX2_costsNow 3 = .ok (.istore 4, 2) := by decide +kernel
theorem dX2_costsNow_5 : decode cX2_costsNow 5 = .ok (.iload 4, 2) := by decide +kernel
theorem dX2_costsNow_7 : decode cX2_costsNow 7 = .ok (.bipush 8, 2) := by decide +kernel
theorem dX2_costsNow_9 : decode cX2_costsNow 9 = .ok (.if_icmp .ge 38, 3) := by decide +kernel
theorem dX2_costsNow_12 : decode cX2_costsNow 12 = .ok (.aload_n 0, 1) := by decide +kernel
theorem dX2_costsNow_13 : decode cX2_costsNow 13 = .ok (.iload_n 1, 1) := by decide +kernel
theorem dX2_costsNow_14 : decode cX2_costsNow 14 = .ok (.iload 4, 2) := by decide +kernel
theorem dX2_costsNow_16 : decode cX2_costsNow 16 = .ok (.invokevirtual 101, 3) := by decide +kernel
theorem dX2_costsNow_19 : decode cX2_costsNow 19 = .ok (.ifCond .eq 22, 3) := by decide +kernel
theorem dX2_costsNow_22 : decode cX2_costsNow 22 = .ok (.lload_n 2, 1) := by decide +kernel
theorem dX2_costsNow_23 : decode cX2_costsNow 23 = .ok (.aload_n 0, 1) := by decide +kernel
theorem dX2_costsNow_24 : decode cX2_costsNow 24 = .ok (.getfield 17, 3) := by decide +kernel
theorem dX2_costsNow_27 : decode cX2_costsNow 27 = .ok (.iload_n 1, 1) := by decide +kernel
theorem dX2_costsNow_28 : decode cX2_costsNow 28 = .ok (.iload 4, 2) := by decide +kernel
theorem dX2_costsNow_30 : decode cX2_costsNow 30 = .ok (.invokestatic 86, 3) := by decide +kernel
theorem dX2_costsNow_33 : decode cX2_costsNow 33 = .ok (.iaload, 1) := by decide +kernel
theorem dX2_costsNow_34 : decode cX2_costsNow 34 = .ok (.iload 4, 2) := by decide +kernel
theorem dX2_costsNow_36 : decode cX2_costsNow 36 = .ok (.invokestatic 210, 3) := by decide +kernel
theorem dX2_costsNow_39 : decode cX2_costsNow 39 = .ok (.lor, 1) := by decide +kernel
theorem dX2_costsNow_40 : decode cX2_costsNow 40 = .ok (.lstore_n 2, 1) := by decide +kernel
theorem dX2_costsNow_41 : decode cX2_costsNow 41 = .ok (.iinc 4 1, 3) := by decide +kernel
theorem dX2_costsNow_44 : decode cX2_costsNow 44 = .ok (.goto (-39), 3) := by decide +kernel
theorem dX2_costsNow_47 : decode cX2_costsNow 47 = .ok (.lload_n 2, 1) := by decide +kernel
theorem dX2_costsNow_48 : decode cX2_costsNow 48 = .ok (.lreturn, 1) := by decide +kernel
theorem dX2_spread_0 : decode cX2_spread 0 = .ok (.iconst 0, 1) := by decide +kernel
theorem dX2_spread_1 : decode cX2_spread 1 = .ok (.istore 4, 2) := by decide +kernel
theorem dX2_spread_3 : decode cX2_spread 3 = .ok (.iload 4, 2) := by decide +kernel
theorem dX2_spread_5 : decode cX2_spread 5 = .ok (.bipush 8, 2) := by decide +kernel
theorem dX2_spread_7 : decode cX2_spread 7 = .ok (.if_icmp .ge 33, 3) := by decide +kernel
theorem dX2_spread_10 : decode cX2_spread 10 = .ok (.iload 4, 2) := by decide +kernel
theorem dX2_spread_12 : decode cX2_spread 12 = .ok (.iload_n 3, 1) := by decide +kernel
theorem dX2_spread_13 : decode cX2_spread 13 = .ok (.if_icmp .eq 21, 3) := by decide +kernel
theorem dX2_spread_16 : decode cX2_spread 16 = .ok (.aload_n 0, 1) := by decide +kernel
theorem dX2_spread_17 : decode cX2_spread 17 = .ok (.iload_n 1, 1) := by decide +kernel
theorem dX2_spread_18 : decode cX2_spread 18 = .ok (.iload 4, 2) := by decide +kernel
theorem dX2_spread_20 : decode cX2_spread 20 = .ok (.invokevirtual 101, 3) := by decide +kernel
theorem dX2_spread_23 : decode cX2_spread 23 = .ok (.ifCond .eq 11, 3) := by decide +kernel
theorem dX2_spread_26 : decode cX2_spread 26 = .ok (.aload_n 0, 1) := by decide +kernel
theorem dX2_spread_27 : decode cX2_spread 27 = .ok (.iload_n 1, 1) := by decide +kernel
theorem dX2_spread_28 : decode cX2_spread 28 = .ok (.iload 4, 2) := by decide +kernel
theorem dX2_spread_30 : decode cX2_spread 30 = .ok (.iload_n 2, 1) := by decide +kernel
theorem dX2_spread_31 : decode cX2_spread 31 = .ok (.invokevirtual 214, 3) := by decide +kernel
theorem dX2_spread_34 : decode cX2_spread 34 = .ok (.iinc 4 1, 3) := by decide +kernel
theorem dX2_spread_37 : decode cX2_spread 37 = .ok (.goto (-34), 3) := by decide +kernel
theorem dX2_spread_40 : decode cX2_spread 40 = .ok (.return_, 1) := by decide +kernel
theorem dX2_sendAllKnown_0 : decode cX2_sendAllKnown 0 = .ok (.iconst 0, 1) := by decide +kernel
theorem dX2_sendAllKnown_1 : decode cX2_sendAllKnown 1 = .ok (.istore_n 3, 1) := by decide +kernel
theorem dX2_sendAllKnown_2 : decode cX2_sendAllKnown 2 = .ok (.iload_n 3, 1) := by decide +kernel
theorem dX2_sendAllKnown_3 : decode cX2_sendAllKnown 3 = .ok (.bipush 8, 2) := by decide +kernel
theorem dX2_sendAllKnown_5 : decode cX2_sendAllKnown 5 = .ok (.if_icmp .ge 16, 3) := by decide +kernel
theorem dX2_sendAllKnown_8 : decode cX2_sendAllKnown 8 = .ok (.aload_n 0, 1) := by decide +kernel
theorem dX2_sendAllKnown_9 : decode cX2_sendAllKnown 9 = .ok (.iload_n 1, 1) := by decide +kernel
theorem dX2_sendAllKnown_10 : decode cX2_sendAllKnown 10 = .ok (.iload_n 2, 1) := by decide +kernel
theorem dX2_sendAllKnown_11 : decode cX2_sendAllKnown 11 = .ok (.iload_n 3, 1) := by decide +kernel
theorem dX2_sendAllKnown_12 : decode cX2_sendAllKnown 12 = .ok (.invokevirtual 214, 3) := by decide +kernel
theorem dX2_sendAllKnown_15 : decode cX2_sendAllKnown 15 = .ok (.iinc 3 1, 3) := by decide +kernel
theorem dX2_sendAllKnown_18 : decode cX2_sendAllKnown 18 = .ok (.goto (-16), 3) := by decide +kernel
theorem dX2_sendAllKnown_21 : decode cX2_sendAllKnown 21 = .ok (.return_, 1) := by decide +kernel
theorem dX2_sendKnown_0 : decode cX2_sendKnown 0 = .ok (.iload_n 1, 1) := by decide +kernel
theorem dX2_sendKnown_1 : decode cX2_sendKnown 1 = .ok (.iload_n 3, 1) := by decide +kernel
theorem dX2_sendKnown_2 : decode cX2_sendKnown 2 = .ok (.invokestatic 107, 3) := by decide +kernel
theorem dX2_sendKnown_5 : decode cX2_sendKnown 5 = .ok (.istore 4, 2) := by decide +kernel
theorem dX2_sendKnown_7 : decode cX2_sendKnown 7 = .ok (.iload_n 1, 1) := by decide +kernel
theorem dX2_sendKnown_8 : decode cX2_sendKnown 8 = .ok (.iload_n 2, 1) := by decide +kernel
theorem dX2_sendKnown_9 : decode cX2_sendKnown 9 = .ok (.iload_n 3, 1) := by decide +kernel
theorem dX2_sendKnown_10 : decode cX2_sendKnown 10 = .ok (.invokestatic 191, 3) := by decide +kernel
theorem dX2_sendKnown_13 : decode cX2_sendKnown 13 = .ok (.istore 5, 2) := by decide +kernel
theorem dX2_sendKnown_15 : decode cX2_sendKnown 15 = .ok (.aload_n 0, 1) := by decide +kernel
theorem dX2_sendKnown_16 : decode cX2_sendKnown 16 = .ok (.getfield 31, 3) := by decide +kernel
theorem dX2_sendKnown_19 : decode cX2_sendKnown 19 = .ok (.getfield 133, 3) := by decide +kernel
theorem dX2_sendKnown_22 : decode cX2_sendKnown 22 = .ok (.iload 4, 2) := by decide +kernel
theorem dX2_sendKnown_24 : decode cX2_sendKnown 24 = .ok (.iaload, 1) := by decide +kernel
theorem dX2_sendKnown_25 : decode cX2_sendKnown 25 = .ok (.aload_n 0, 1) := by decide +kernel
theorem dX2_sendKnown_26 : decode cX2_sendKnown 26 = .ok (.getfield 35, 3) := by decide +kernel
theorem dX2_sendKnown_29 : decode cX2_sendKnown 29 = .ok (.getfield 133, 3) := by decide +kernel
theorem dX2_sendKnown_32 : decode cX2_sendKnown 32 = .ok (.iload 5, 2) := by decide +kernel
theorem dX2_sendKnown_34 : decode cX2_sendKnown 34 = .ok (.iaload, 1) := by decide +kernel
theorem dX2_sendKnown_35 : decode cX2_sendKnown 35 = .ok (.if_icmp .le 64, 3) := by decide +kernel
theorem dX2_sendKnown_38 : decode cX2_sendKnown 38 = .ok (.aload_n 0, 1) := by decide +kernel
theorem dX2_sendKnown_39 : decode cX2_sendKnown 39 = .ok (.getfield 35, 3) := by decide +kernel
theorem dX2_sendKnown_42 : decode cX2_sendKnown 42 = .ok (.iload 5, 2) := by decide +kernel
theorem dX2_sendKnown_44 : decode cX2_sendKnown 44 = .ok (.aload_n 0, 1) := by decide +kernel
theorem dX2_sendKnown_45 : decode cX2_sendKnown 45 = .ok (.getfield 31, 3) := by decide +kernel
theorem dX2_sendKnown_48 : decode cX2_sendKnown 48 = .ok (.getfield 133, 3) := by decide +kernel
theorem dX2_sendKnown_51 : decode cX2_sendKnown 51 = .ok (.iload 4, 2) := by decide +kernel
theorem dX2_sendKnown_53 : decode cX2_sendKnown 53 = .ok (.iaload, 1) := by decide +kernel
theorem dX2_sendKnown_54 : decode cX2_sendKnown 54 = .ok (.aload_n 0, 1) := by decide +kernel
theorem dX2_sendKnown_55 : decode cX2_sendKnown 55 = .ok (.getfield 31, 3) := by decide +kernel
theorem dX2_sendKnown_58 : decode cX2_sendKnown 58 = .ok (.getfield 136, 3) := by decide +kernel
theorem dX2_sendKnown_61 : decode cX2_sendKnown 61 = .ok (.iload 4, 2) := by decide +kernel
theorem dX2_sendKnown_63 : decode cX2_sendKnown 63 = .ok (.iaload, 1) := by decide +kernel
theorem dX2_sendKnown_64 : decode cX2_sendKnown 64 = .ok (.aload_n 0, 1) := by decide +kernel
theorem dX2_sendKnown_65 : decode cX2_sendKnown 65 = .ok (.getfield 31, 3) := by decide +kernel
theorem dX2_sendKnown_68 : decode cX2_sendKnown 68 = .ok (.getfield 217, 3) := by decide +kernel
theorem dX2_sendKnown_71 : decode cX2_sendKnown 71 = .ok (.iload 4, 2) := by decide +kernel
theorem dX2_sendKnown_73 : decode cX2_sendKnown 73 = .ok (.laload, 1) := by decide +kernel
theorem dX2_sendKnown_74 : decode cX2_sendKnown 74 = .ok (.invokevirtual 202, 3) := by decide +kernel
theorem dX2_sendKnown_77 : decode cX2_sendKnown 77 = .ok (.aload_n 0, 1) := by decide +kernel
theorem dX2_sendKnown_78 : decode cX2_sendKnown 78 = .ok (.getfield 38, 3) := by decide +kernel
theorem dX2_sendKnown_81 : decode cX2_sendKnown 81 = .ok (.iload 5, 2) := by decide +kernel
theorem dX2_sendKnown_83 : decode cX2_sendKnown 83 = .ok (.aload_n 0, 1) := by decide +kernel
theorem dX2_sendKnown_84 : decode cX2_sendKnown 84 = .ok (.getfield 118, 3) := by decide +kernel
theorem dX2_sendKnown_87 : decode cX2_sendKnown 87 = .ok (.aload_n 0, 1) := by decide +kernel
theorem dX2_sendKnown_88 : decode cX2_sendKnown 88 = .ok (.getfield 20, 3) := by decide +kernel
theorem dX2_sendKnown_91 : decode cX2_sendKnown 91 = .ok (.iload_n 1, 1) := by decide +kernel
theorem dX2_sendKnown_92 : decode cX2_sendKnown 92 = .ok (.iload_n 2, 1) := by decide +kernel
theorem dX2_sendKnown_93 : decode cX2_sendKnown 93 = .ok (.invokestatic 86, 3) := by decide +kernel
theorem dX2_sendKnown_96 : decode cX2_sendKnown 96 = .ok (.iaload, 1) := by decide +kernel
theorem dX2_sendKnown_97 : decode cX2_sendKnown 97 = .ok (.iadd, 1) := by decide +kernel
theorem dX2_sendKnown_98 : decode cX2_sendKnown 98 = .ok (.iastore, 1) := by decide +kernel
theorem dX2_sendKnown_99 : decode cX2_sendKnown 99 = .ok (.return_, 1) := by decide +kernel
theorem dX2_tellAgain_0 : decode cX2_tellAgain 0 = .ok (.iconst 0, 1) := by decide +kernel
theorem dX2_tellAgain_1 : decode cX2_tellAgain 1 = .ok (.istore_n 1, 1) := by decide +kernel
theorem dX2_tellAgain_2 : decode cX2_tellAgain 2 = .ok (.iload_n 1, 1) := by decide +kernel
theorem dX2_tellAgain_3 : decode cX2_tellAgain 3 = .ok (.bipush 8, 2) := by decide +kernel
theorem dX2_tellAgain_5 : decode cX2_tellAgain 5 = .ok (.if_icmp .ge 51, 3) := by decide +kernel
theorem dX2_tellAgain_8 : decode cX2_tellAgain 8 = .ok (.iload_n 1, 1) := by decide +kernel
theorem dX2_tellAgain_9 : decode cX2_tellAgain 9 = .ok (.iload_n 1, 1) := by decide +kernel
theorem dX2_tellAgain_10 : decode cX2_tellAgain 10 = .ok (.invokestatic 107, 3) := by decide +kernel
theorem dX2_tellAgain_13 : decode cX2_tellAgain 13 = .ok (.istore_n 2, 1) := by decide +kernel
theorem dX2_tellAgain_14 : decode cX2_tellAgain 14 = .ok (.aload_n 0, 1) := by decide +kernel
theorem dX2_tellAgain_15 : decode cX2_tellAgain 15 = .ok (.getfield 31, 3) := by decide +kernel
theorem dX2_tellAgain_18 : decode cX2_tellAgain 18 = .ok (.getfield 133, 3) := by decide +kernel
theorem dX2_tellAgain_21 : decode cX2_tellAgain 21 = .ok (.iload_n 2, 1) := by decide +kernel
theorem dX2_tellAgain_22 : decode cX2_tellAgain 22 = .ok (.iaload, 1) := by decide +kernel
theorem dX2_tellAgain_23 : decode cX2_tellAgain 23 = .ok (.ifCond .le 27, 3) := by decide +kernel
theorem dX2_tellAgain_26 : decode cX2_tellAgain 26 = .ok (.aload_n 0, 1) := by decide +kernel
theorem dX2_tellAgain_27 : decode cX2_tellAgain 27 = .ok (.getfield 118, 3) := by decide +kernel
theorem dX2_tellAgain_30 : decode cX2_tellAgain 30 = .ok (.aload_n 0, 1) := by decide +kernel
theorem dX2_tellAgain_31 : decode cX2_tellAgain 31 = .ok (.getfield 31, 3) := by decide +kernel
theorem dX2_tellAgain_34 : decode cX2_tellAgain 34 = .ok (.getfield 136, 3) := by decide +kernel
theorem dX2_tellAgain_37 : decode cX2_tellAgain 37 = .ok (.iload_n 2, 1) := by decide +kernel
theorem dX2_tellAgain_38 : decode cX2_tellAgain 38 = .ok (.iaload, 1) := by decide +kernel
theorem dX2_tellAgain_39 : decode cX2_tellAgain 39 = .ok (.isub, 1) := by decide +kernel
theorem dX2_tellAgain_40 : decode cX2_tellAgain 40 = .ok (.bipush 40, 2) := by decide +kernel
theorem dX2_tellAgain_42 : decode cX2_tellAgain 42 = .ok (.if_icmp .ne 8, 3) := by decide +kernel
theorem dX2_tellAgain_45 : decode cX2_tellAgain 45 = .ok (.aload_n 0, 1) := by decide +kernel
theorem dX2_tellAgain_46 : decode cX2_tellAgain 46 = .ok (.iload_n 1, 1) := by decide +kernel
theorem dX2_tellAgain_47 : decode cX2_tellAgain 47 = .ok (.invokevirtual 98, 3) := by decide +kernel
theorem dX2_tellAgain_50 : decode cX2_tellAgain 50 = .ok (.iinc 1 1, 3) := by decide +kernel
theorem dX2_tellAgain_53 : decode cX2_tellAgain 53 = .ok (.goto (-51), 3) := by decide +kernel
theorem dX2_tellAgain_56 : decode cX2_tellAgain 56 = .ok (.return_, 1) := by decide +kernel
theorem dX2_receiveArrivedNews_0 : decode cX2_receiveArrivedNews 0 = .ok (.aload_n 0, 1) := by decide +kernel
theorem dX2_receiveArrivedNews_1 : decode cX2_receiveArrivedNews 1 = .ok (.getfield 35, 3) := by decide +kernel
theorem dX2_receiveArrivedNews_4 : decode cX2_receiveArrivedNews 4 = .ok (.getfield 146, 3) := by decide +kernel
theorem dX2_receiveArrivedNews_7 : decode cX2_receiveArrivedNews 7 = .ok (.ifCond .ne 4, 3) := by decide +kernel
theorem dX2_receiveArrivedNews_10 : decode cX2_receiveArrivedNews 10 = .ok (.return_, 1) := by decide +kernel
theorem dX2_receiveArrivedNews_11 : decode cX2_receiveArrivedNews 11 = .ok (.iconst 0, 1) := by decide +kernel
theorem dX2_receiveArrivedNews_12 : decode cX2_receiveArrivedNews 12 = .ok (.istore_n 1, 1) := by decide +kernel
theorem dX2_receiveArrivedNews_13 : decode cX2_receiveArrivedNews 13 = .ok (.iload_n 1, 1) := by decide +kernel
theorem dX2_receiveArrivedNews_14 : decode cX2_receiveArrivedNews 14 = .ok (.sipush 512, 3) := by decide +kernel
theorem dX2_receiveArrivedNews_17 : decode cX2_receiveArrivedNews 17 = .ok (.if_icmp .ge 39, 3) := by decide +kernel
theorem dX2_receiveArrivedNews_20 : decode cX2_receiveArrivedNews 20 = .ok (.aload_n 0, 1) := by decide +kernel
theorem dX2_receiveArrivedNews_21 : decode cX2_receiveArrivedNews 21 = .ok (.getfield 35, 3) := by decide +kernel
theorem dX2_receiveArrivedNews_24 : decode cX2_receiveArrivedNews 24 = .ok (.getfield 133, 3) := by decide +kernel
theorem dX2_receiveArrivedNews_27 : decode cX2_receiveArrivedNews 27 = .ok (.iload_n 1, 1) := by decide +kernel
theorem dX2_receiveArrivedNews_28 : decode cX2_receiveArrivedNews 28 = .ok (.iaload, 1) := by decide +kernel
theorem dX2_receiveArrivedNews_29 : decode cX2_receiveArrivedNews 29 = .ok (.ifCond .le 21, 3) := by decide +kernel
theorem dX2_receiveArrivedNews_32 : decode cX2_receiveArrivedNews 32 = .ok (.aload_n 0, 1) := by decide +kernel
theorem dX2_receiveArrivedNews_33 : decode cX2_receiveArrivedNews 33 = .ok (.getfield 38, 3) := by decide +kernel
theorem dX2_receiveArrivedNews_36 : decode cX2_receiveArrivedNews 36 = .ok (.iload_n 1, 1) := by decide +kernel
theorem dX2_receiveArrivedNews_37 : decode cX2_receiveArrivedNews 37 = .ok (.iaload, 1) := by decide +kernel
theorem dX2_receiveArrivedNews_38 : decode cX2_receiveArrivedNews 38 = .ok (.aload_n 0, 1) := by decide +kernel
theorem dX2_receiveArrivedNews_39 : decode cX2_receiveArrivedNews 39 = .ok (.getfield 118, 3) := by decide +kernel
theorem dX2_receiveArrivedNews_42 : decode cX2_receiveArrivedNews 42 = .ok (.if_icmp .ne 8, 3) := by decide +kernel
theorem dX2_receiveArrivedNews_45 : decode cX2_receiveArrivedNews 45 = .ok (.aload_n 0, 1) := by decide +kernel
theorem dX2_receiveArrivedNews_46 : decode cX2_receiveArrivedNews 46 = .ok (.iload_n 1, 1) := by decide +kernel
theorem dX2_receiveArrivedNews_47 : decode cX2_receiveArrivedNews 47 = .ok (.invokevirtual 221, 3) := by decide +kernel
theorem dX2_receiveArrivedNews_50 : decode cX2_receiveArrivedNews 50 = .ok (.iinc 1 1, 3) := by decide +kernel
theorem dX2_receiveArrivedNews_53 : decode cX2_receiveArrivedNews 53 = .ok (.goto (-40), 3) := by decide +kernel
theorem dX2_receiveArrivedNews_56 : decode cX2_receiveArrivedNews 56 = .ok (.return_, 1) := by decide +kernel
theorem dX2_receive_0 : decode cX2_receive 0 = .ok (.iload_n 1, 1) := by decide +kernel
theorem dX2_receive_1 : decode cX2_receive 1 = .ok (.bipush 64, 2) := by decide +kernel
theorem dX2_receive_3 : decode cX2_receive 3 = .ok (.idiv, 1) := by decide +kernel
theorem dX2_receive_4 : decode cX2_receive 4 = .ok (.istore_n 2, 1) := by decide +kernel
theorem dX2_receive_5 : decode cX2_receive 5 = .ok (.iload_n 1, 1) := by decide +kernel
theorem dX2_receive_6 : decode cX2_receive 6 = .ok (.bipush 8, 2) := by decide +kernel
theorem dX2_receive_8 : decode cX2_receive 8 = .ok (.idiv, 1) := by decide +kernel
theorem dX2_receive_9 : decode cX2_receive 9 = .ok (.bipush 8, 2) := by decide +kernel
theorem dX2_receive_11 : decode cX2_receive 11 = .ok (.irem, 1) := by decide +kernel
theorem dX2_receive_12 : decode cX2_receive 12 = .ok (.istore_n 3, 1) := by decide +kernel
theorem dX2_receive_13 : decode cX2_receive 13 = .ok (.iload_n 1, 1) := by decide +kernel
theorem dX2_receive_14 : decode cX2_receive 14 = .ok (.bipush 8, 2) := by decide +kernel
theorem dX2_receive_16 : decode cX2_receive 16 = .ok (.irem, 1) := by decide +kernel
theorem dX2_receive_17 : decode cX2_receive 17 = .ok (.istore 4, 2) := by decide +kernel
theorem dX2_receive_19 : decode cX2_receive 19 = .ok (.aload_n 0, 1) := by decide +kernel
theorem dX2_receive_20 : decode cX2_receive 20 = .ok (.getfield 35, 3) := by decide +kernel
theorem dX2_receive_23 : decode cX2_receive 23 = .ok (.getfield 133, 3) := by decide +kernel
theorem dX2_receive_26 : decode cX2_receive 26 = .ok (.iload_n 1, 1) := by decide +kernel
theorem dX2_receive_27 : decode cX2_receive 27 = .ok (.iaload, 1) := by decide +kernel
theorem dX2_receive_28 : decode cX2_receive 28 = .ok (.istore 5, 2) := by decide +kernel
theorem dX2_receive_30 : decode cX2_receive 30 = .ok (.aload_n 0, 1) := by decide +kernel
theorem dX2_receive_31 : decode cX2_receive 31 = .ok (.getfield 31, 3) := by decide +kernel
theorem dX2_receive_34 : decode cX2_receive 34 = .ok (.getfield 133, 3) := by decide +kernel
theorem dX2_receive_37 : decode cX2_receive 37 = .ok (.iload_n 3, 1) := by decide +kernel
theorem dX2_receive_38 : decode cX2_receive 38 = .ok (.iload 4, 2) := by decide +kernel
theorem dX2_receive_40 : decode cX2_receive 40 = .ok (.invokestatic 107, 3) := by decide +kernel
theorem dX2_receive_43 : decode cX2_receive 43 = .ok (.iaload, 1) := by decide +kernel
theorem dX2_receive_44 : decode cX2_receive 44 = .ok (.istore 6, 2) := by decide +kernel
theorem dX2_receive_46 : decode cX2_receive 46 = .ok (.iload 4, 2) := by decide +kernel
theorem dX2_receive_48 : decode cX2_receive 48 = .ok (.iload_n 3, 1) := by decide +kernel
theorem dX2_receive_49 : decode cX2_receive 49 = .ok (.if_icmp .ne 30, 3) := by decide +kernel
theorem dX2_receive_52 : decode cX2_receive 52 = .ok (.iload 5, 2) := by decide +kernel
theorem dX2_receive_54 : decode cX2_receive 54 = .ok (.aload_n 0, 1) := by decide +kernel
theorem dX2_receive_55 : decode cX2_receive 55 = .ok (.getfield 13, 3) := by decide +kernel
theorem dX2_receive_58 : decode cX2_receive 58 = .ok (.iload_n 3, 1) := by decide +kernel
theorem dX2_receive_59 : decode cX2_receive 59 = .ok (.iaload, 1) := by decide +kernel
theorem dX2_receive_60 : decode cX2_receive 60 = .ok (.if_icmp .le 85, 3) := by decide +kernel
theorem dX2_receive_63 : decode cX2_receive 63 = .ok (.aload_n 0, 1) := by decide +kernel
theorem dX2_receive_64 : decode cX2_receive 64 = .ok (.getfield 13, 3) := by decide +kernel
theorem dX2_receive_67 : decode cX2_receive 67 = .ok (.iload_n 3, 1) := by decide +kernel
theorem dX2_receive_68 : decode cX2_receive 68 = .ok (.iload 5, 2) := by decide +kernel
theorem dX2_receive_70 : decode cX2_receive 70 = .ok (.iastore, 1) := by decide +kernel
theorem dX2_receive_71 : decode cX2_receive 71 = .ok (.aload_n 0, 1) := by decide +kernel
theorem dX2_receive_72 : decode cX2_receive 72 = .ok (.iload_n 3, 1) := by decide +kernel
theorem dX2_receive_73 : decode cX2_receive 73 = .ok (.invokevirtual 98, 3) := by decide +kernel
theorem dX2_receive_76 : decode cX2_receive 76 = .ok (.goto 69, 3) := by decide +kernel
theorem dX2_receive_79 : decode cX2_receive 79 = .ok (.iload 5, 2) := by decide +kernel
theorem dX2_receive_81 : decode cX2_receive 81 = .ok (.iload 6, 2) := by decide +kernel
theorem dX2_receive_83 : decode cX2_receive 83 = .ok (.if_icmp .le 47, 3) := by decide +kernel
theorem dX2_receive_86 : decode cX2_receive 86 = .ok (.aload_n 0, 1) := by decide +kernel
theorem dX2_receive_87 : decode cX2_receive 87 = .ok (.getfield 31, 3) := by decide +kernel
theorem dX2_receive_90 : decode cX2_receive 90 = .ok (.iload_n 3, 1) := by decide +kernel
theorem dX2_receive_91 : decode cX2_receive 91 = .ok (.iload 4, 2) := by decide +kernel
theorem dX2_receive_93 : decode cX2_receive 93 = .ok (.invokestatic 107, 3) := by decide +kernel
theorem dX2_receive_96 : decode cX2_receive 96 = .ok (.iload 5, 2) := by decide +kernel
theorem dX2_receive_98 : decode cX2_receive 98 = .ok (.aload_n 0, 1) := by decide +kernel
theorem dX2_receive_99 : decode cX2_receive 99 = .ok (.getfield 35, 3) := by decide +kernel
theorem dX2_receive_102 : decode cX2_receive 102 = .ok (.getfield 136, 3) := by decide +kernel
theorem dX2_receive_105 : decode cX2_receive 105 = .ok (.iload_n 1, 1) := by decide +kernel
theorem dX2_receive_106 : decode cX2_receive 106 = .ok (.iaload, 1) := by decide +kernel
theorem dX2_receive_107 : decode cX2_receive 107 = .ok (.aload_n 0, 1) := by decide +kernel
theorem dX2_receive_108 : decode cX2_receive 108 = .ok (.getfield 35, 3) := by decide +kernel
theorem dX2_receive_111 : decode cX2_receive 111 = .ok (.getfield 217, 3) := by decide +kernel
theorem dX2_receive_114 : decode cX2_receive 114 = .ok (.iload_n 1, 1) := by decide +kernel
theorem dX2_receive_115 : decode cX2_receive 115 = .ok (.laload, 1) := by decide +kernel
theorem dX2_receive_116 : decode cX2_receive 116 = .ok (.invokevirtual 202, 3) := by decide +kernel
theorem dX2_receive_119 : decode cX2_receive 119 = .ok (.aload_n 0, 1) := by decide +kernel
theorem dX2_receive_120 : decode cX2_receive 120 = .ok (.iload_n 3, 1) := by decide +kernel
theorem dX2_receive_121 : decode cX2_receive 121 = .ok (.iload 4, 2) := by decide +kernel
theorem dX2_receive_123 : decode cX2_receive 123 = .ok (.iload_n 2, 1) := by decide +kernel
theorem dX2_receive_124 : decode cX2_receive 124 = .ok (.invokevirtual 206, 3) := by decide +kernel
theorem dX2_receive_127 : decode cX2_receive 127 = .ok (.goto 18, 3) := by decide +kernel
theorem dX2_receive_130 : decode cX2_receive 130 = .ok (.iload 5, 2) := by decide +kernel
theorem dX2_receive_132 : decode cX2_receive 132 = .ok (.iload 6, 2) := by decide +kernel
theorem dX2_receive_134 : decode cX2_receive 134 = .ok (.if_icmp .ge 11, 3) := by decide +kernel
theorem dX2_receive_137 : decode cX2_receive 137 = .ok (.aload_n 0, 1) := by decide +kernel
theorem dX2_receive_138 : decode cX2_receive 138 = .ok (.iload_n 3, 1) := by decide +kernel
theorem dX2_receive_139 : decode cX2_receive 139 = .ok (.iload_n 2, 1) := by decide +kernel
theorem dX2_receive_140 : decode cX2_receive 140 = .ok (.iload 4, 2) := by decide +kernel
theorem dX2_receive_142 : decode cX2_receive 142 = .ok (.invokevirtual 214, 3) := by decide +kernel
theorem dX2_receive_145 : decode cX2_receive 145 = .ok (.aload_n 0, 1) := by decide +kernel
theorem dX2_receive_146 : decode cX2_receive 146 = .ok (.getfield 35, 3) := by decide +kernel
theorem dX2_receive_149 : decode cX2_receive 149 = .ok (.iload_n 1, 1) := by decide +kernel
theorem dX2_receive_150 : decode cX2_receive 150 = .ok (.invokevirtual 110, 3) := by decide +kernel
theorem dX2_receive_153 : decode cX2_receive 153 = .ok (.return_, 1) := by decide +kernel
theorem dX2_movePackets_0 : decode cX2_movePackets 0 = .ok (.aload_n 0, 1) := by decide +kernel
theorem dX2_movePackets_1 : decode cX2_movePackets 1 = .ok (.getfield 43, 3) := by decide +kernel
theorem dX2_movePackets_4 : decode cX2_movePackets 4 = .ok (.astore_n 1, 1) := by decide +kernel
theorem dX2_movePackets_5 : decode cX2_movePackets 5 = .ok (.aload_n 1, 1) := by decide +kernel
theorem dX2_movePackets_6 : decode cX2_movePackets 6 = .ok (.arraylength, 1) := by decide +kernel
theorem dX2_movePackets_7 : decode cX2_movePackets 7 = .ok (.istore_n 2, 1) := by decide +kernel
theorem dX2_movePackets_8 : decode cX2_movePackets 8 = .ok (.iconst 0, 1) := by decide +kernel
theorem dX2_movePackets_9 : decode cX2_movePackets 9 = .ok (.istore_n 3, 1) := by decide +kernel
theorem dX2_movePackets_10 : decode cX2_movePackets 10 = .ok (.iload_n 3, 1) := by decide +kernel
theorem dX2_movePackets_11 : decode cX2_movePackets 11 = .ok (.iload_n 2, 1) := by decide +kernel
theorem dX2_movePackets_12 : decode cX2_movePackets 12 = .ok (.if_icmp .ge 50, 3) := by decide +kernel
theorem dX2_movePackets_15 : decode cX2_movePackets 15 = .ok (.aload_n 1, 1) := by decide +kernel
theorem dX2_movePackets_16 : decode cX2_movePackets 16 = .ok (.iload_n 3, 1) := by decide +kernel
theorem dX2_movePackets_17 : decode cX2_movePackets 17 = .ok (.aaload, 1) := by decide +kernel
theorem dX2_movePackets_18 : decode cX2_movePackets 18 = .ok (.astore 4, 2) := by decide +kernel
theorem dX2_movePackets_20 : decode cX2_movePackets 20 = .ok (.aload 4, 2) := by decide +kernel
theorem dX2_movePackets_22 : decode cX2_movePackets 22 = .ok (.ifnull 34, 3) := by decide +kernel
theorem dX2_movePackets_25 : decode cX2_movePackets 25 = .ok (.aload 4, 2) := by decide +kernel
theorem dX2_movePackets_27 : decode cX2_movePackets 27 = .ok (.getfield 168, 3) := by decide +kernel
theorem dX2_movePackets_30 : decode cX2_movePackets 30 = .ok (.ifCond .ne 26, 3) := by decide +kernel
theorem dX2_movePackets_33 : decode cX2_movePackets 33 = .ok (.aload 4, 2) := by decide +kernel
theorem dX2_movePackets_35 : decode cX2_movePackets 35 = .ok (.getfield 224, 3) := by decide +kernel
theorem dX2_movePackets_38 : decode cX2_movePackets 38 = .ok (.aload_n 0, 1) := by decide +kernel
theorem dX2_movePackets_39 : decode cX2_movePackets 39 = .ok (.getfield 118, 3) := by decide +kernel
theorem dX2_movePackets_42 : decode cX2_movePackets 42 = .ok (.if_icmp .ne 14, 3) := by decide +kernel
theorem dX2_movePackets_45 : decode cX2_movePackets 45 = .ok (.aload_n 0, 1) := by decide +kernel
theorem dX2_movePackets_46 : decode cX2_movePackets 46 = .ok (.aload 4, 2) := by decide +kernel
theorem dX2_movePackets_48 : decode cX2_movePackets 48 = .ok (.aload 4, 2) := by decide +kernel
theorem dX2_movePackets_50 : decode cX2_movePackets 50 = .ok (.getfield 227, 3) := by decide +kernel
theorem dX2_movePackets_53 : decode cX2_movePackets 53 = .ok (.invokevirtual 164, 3) := by decide +kernel
theorem dX2_movePackets_56 : decode cX2_movePackets 56 = .ok (.iinc 3 1, 3) := by decide +kernel
theorem dX2_movePackets_59 : decode cX2_movePackets 59 = .ok (.goto (-49), 3) := by decide +kernel
theorem dX2_movePackets_62 : decode cX2_movePackets 62 = .ok (.return_, 1) := by decide +kernel
theorem dX2_handle_0 : decode cX2_handle 0 = .ok (.aload_n 1, 1) := by decide +kernel
theorem dX2_handle_1 : decode cX2_handle 1 = .ok (.iload_n 2, 1) := by decide +kernel
theorem dX2_handle_2 : decode cX2_handle 2 = .ok (.invokevirtual 230, 3) := by decide +kernel
theorem dX2_handle_5 : decode cX2_handle 5 = .ok (.iload_n 2, 1) := by decide +kernel
theorem dX2_handle_6 : decode cX2_handle 6 = .ok (.aload_n 1, 1) := by decide +kernel
theorem dX2_handle_7 : decode cX2_handle 7 = .ok (.getfield 233, 3) := by decide +kernel
theorem dX2_handle_10 : decode cX2_handle 10 = .ok (.if_icmp .ne 9, 3) := by decide +kernel
theorem dX2_handle_13 : decode cX2_handle 13 = .ok (.aload_n 1, 1) := by decide +kernel
theorem dX2_handle_14 : decode cX2_handle 14 = .ok (.iconst 1, 1) := by decide +kernel
theorem dX2_handle_15 : decode cX2_handle 15 = .ok (.putfield 168, 3) := by decide +kernel
theorem dX2_handle_18 : decode cX2_handle 18 = .ok (.return_, 1) := by decide +kernel
theorem dX2_handle_19 : decode cX2_handle 19 = .ok (.aload_n 1, 1) := by decide +kernel
theorem dX2_handle_20 : decode cX2_handle 20 = .ok (.getfield 171, 3) := by decide +kernel
theorem dX2_handle_23 : decode cX2_handle 23 = .ok (.ifCond .ne 9, 3) := by decide +kernel
theorem dX2_handle_26 : decode cX2_handle 26 = .ok (.aload_n 1, 1) := by decide +kernel
theorem dX2_handle_27 : decode cX2_handle 27 = .ok (.iconst 2, 1) := by decide +kernel
theorem dX2_handle_28 : decode cX2_handle 28 = .ok (.putfield 168, 3) := by decide +kernel
theorem dX2_handle_31 : decode cX2_handle 31 = .ok (.return_, 1) := by decide +kernel
theorem dX2_handle_32 : decode cX2_handle 32 = .ok (.aload_n 0, 1) := by decide +kernel
theorem dX2_handle_33 : decode cX2_handle 33 = .ok (.iload_n 2, 1) := by decide +kernel
theorem dX2_handle_34 : decode cX2_handle 34 = .ok (.aload_n 1, 1) := by decide +kernel
theorem dX2_handle_35 : decode cX2_handle 35 = .ok (.getfield 233, 3) := by decide +kernel
theorem dX2_handle_38 : decode cX2_handle 38 = .ok (.invokevirtual 152, 3) := by decide +kernel
theorem dX2_handle_41 : decode cX2_handle 41 = .ok (.istore_n 3, 1) := by decide +kernel
theorem dX2_handle_42 : decode cX2_handle 42 = .ok (.iload_n 3, 1) := by decide +kernel
theorem dX2_handle_43 : decode cX2_handle 43 = .ok (.iconst (-1), 1) := by decide +kernel
theorem dX2_handle_44 : decode cX2_handle 44 = .ok (.if_icmp .eq 12, 3) := by decide +kernel
theorem dX2_handle_47 : decode cX2_handle 47 = .ok (.aload_n 0, 1) := by decide +kernel
theorem dX2_handle_48 : decode cX2_handle 48 = .ok (.iload_n 2, 1) := by decide +kernel
theorem dX2_handle_49 : decode cX2_handle 49 = .ok (.iload_n 3, 1) := by decide +kernel
theorem dX2_handle_50 : decode cX2_handle 50 = .ok (.invokevirtual 101, 3) := by decide +kernel
theorem dX2_handle_53 : decode cX2_handle 53 = .ok (.ifCond .ne 9, 3) := by decide +kernel
theorem dX2_handle_56 : decode cX2_handle 56 = .ok (.aload_n 1, 1) := by decide +kernel
theorem dX2_handle_57 : decode cX2_handle 57 = .ok (.iconst 3, 1) := by decide +kernel
theorem dX2_handle_58 : decode cX2_handle 58 = .ok (.putfield 168, 3) := by decide +kernel
theorem dX2_handle_61 : decode cX2_handle 61 = .ok (.return_, 1) := by decide +kernel
theorem dX2_handle_62 : decode cX2_handle 62 = .ok (.aload_n 1, 1) := by decide +kernel
theorem dX2_handle_63 : decode cX2_handle 63 = .ok (.dup, 1) := by decide +kernel
theorem dX2_handle_64 : decode cX2_handle 64 = .ok (.getfield 171, 3) := by decide +kernel
theorem dX2_handle_67 : decode cX2_handle 67 = .ok (.iconst 1, 1) := by decide +kernel
theorem dX2_handle_68 : decode cX2_handle 68 = .ok (.isub, 1) := by decide +kernel
theorem dX2_handle_69 : decode cX2_handle 69 = .ok (.putfield 171, 3) := by decide +kernel
theorem dX2_handle_72 : decode cX2_handle 72 = .ok (.aload_n 1, 1) := by decide +kernel
theorem dX2_handle_73 : decode cX2_handle 73 = .ok (.iload_n 3, 1) := by decide +kernel
theorem dX2_handle_74 : decode cX2_handle 74 = .ok (.putfield 227, 3) := by decide +kernel
theorem dX2_handle_77 : decode cX2_handle 77 = .ok (.aload_n 1, 1) := by decide +kernel
theorem dX2_handle_78 : decode cX2_handle 78 = .ok (.aload_n 0, 1) := by decide +kernel
theorem dX2_handle_79 : decode cX2_handle 79 = .ok (.getfield 118, 3) := by decide +kernel
theorem dX2_handle_82 : decode cX2_handle 82 = .ok (.aload_n 0, 1) := by decide +kernel
theorem dX2_handle_83 : decode cX2_handle 83 = .ok (.getfield 20, 3) := by decide +kernel
theorem dX2_handle_86 : decode cX2_handle 86 = .ok (.iload_n 2, 1) := by decide +kernel
theorem dX2_handle_87 : decode cX2_handle 87 = .ok (.iload_n 3, 1) := by decide +kernel
theorem dX2_handle_88 : decode cX2_handle 88 = .ok (.invokestatic 86, 3) := by decide +kernel
theorem dX2_handle_91 : decode cX2_handle 91 = .ok (.iaload, 1) := by decide +kernel
theorem dX2_handle_92 : decode cX2_handle 92 = .ok (.iadd, 1) := by decide +kernel
theorem dX2_handle_93 : decode cX2_handle 93 = .ok (.putfield 224, 3) := by decide +kernel
theorem dX2_handle_96 : decode cX2_handle 96 = .ok (.return_, 1) := by decide +kernel
theorem dX2_nextHop_0 : decode cX2_nextHop 0 = .ok (.aload_n 0, 1) := by decide +kernel
theorem dX2_nextHop_1 : decode cX2_nextHop 1 = .ok (.iload_n 1, 1) := by decide +kernel
theorem dX2_nextHop_2 : decode cX2_nextHop 2 = .ok (.iload_n 2, 1) := by decide +kernel
theorem dX2_nextHop_3 : decode cX2_nextHop 3 = .ok (.invokevirtual 149, 3) := by decide +kernel
theorem dX2_nextHop_6 : decode cX2_nextHop 6 = .ok (.iload_n 1, 1) := by decide +kernel
theorem dX2_nextHop_7 : decode cX2_nextHop 7 = .ok (.iload_n 2, 1) := by decide +kernel
theorem dX2_nextHop_8 : decode cX2_nextHop 8 = .ok (.if_icmp .eq 15, 3) := by decide +kernel
theorem dX2_nextHop_11 : decode cX2_nextHop 11 = .ok (.aload_n 0, 1) := by decide +kernel
theorem dX2_nextHop_12 : decode cX2_nextHop 12 = .ok (.getfield 47, 3) := by decide +kernel
theorem dX2_nextHop_15 : decode cX2_nextHop 15 = .ok (.iload_n 1, 1) := by decide +kernel
theorem dX2_nextHop_16 : decode cX2_nextHop 16 = .ok (.iaload, 1) := by decide +kernel
theorem dX2_nextHop_17 : decode cX2_nextHop 17 = .ok (.sipush 1000, 3) := by decide +kernel
theorem dX2_nextHop_20 : decode cX2_nextHop 20 = .ok (.if_icmp .lt 5, 3) := by decide +kernel
theorem dX2_nextHop_23 : decode cX2_nextHop 23 = .ok (.iconst (-1), 1) := by decide +kernel
theorem dX2_nextHop_24 : decode cX2_nextHop 24 = .ok (.ireturn, 1) := by decide +kernel
theorem dX2_nextHop_25 : decode cX2_nextHop 25 = .ok (.iconst 0, 1) := by decide +kernel
theorem dX2_nextHop_26 : decode cX2_nextHop 26 = .ok (.istore_n 3, 1) := by decide +kernel
theorem dX2_nextHop_27 : decode cX2_nextHop 27 = .ok (.iload_n 3, 1) := by decide +kernel
theorem dX2_nextHop_28 : decode cX2_nextHop 28 = .ok (.bipush 8, 2) := by decide +kernel
theorem dX2_nextHop_30 : decode cX2_nextHop 30 = .ok (.if_icmp .ge 43, 3) := by decide +kernel
theorem dX2_nextHop_33 : decode cX2_nextHop 33 = .ok (.aload_n 0, 1) := by decide +kernel
theorem dX2_nextHop_34 : decode cX2_nextHop 34 = .ok (.iload_n 1, 1) := by decide +kernel
theorem dX2_nextHop_35 : decode cX2_nextHop 35 = .ok (.iload_n 1, 1) := by decide +kernel
theorem dX2_nextHop_36 : decode cX2_nextHop 36 = .ok (.iload_n 3, 1) := by decide +kernel
theorem dX2_nextHop_37 : decode cX2_nextHop 37 = .ok (.invokevirtual 236, 3) := by decide +kernel
theorem dX2_nextHop_40 : decode cX2_nextHop 40 = .ok (.istore 4, 2) := by decide +kernel
theorem dX2_nextHop_42 : decode cX2_nextHop 42 = .ok (.iload 4, 2) := by decide +kernel
theorem dX2_nextHop_44 : decode cX2_nextHop 44 = .ok (.ifCond .le 23, 3) := by decide +kernel
theorem dX2_nextHop_47 : decode cX2_nextHop 47 = .ok (.iload 4, 2) := by decide +kernel
theorem dX2_nextHop_49 : decode cX2_nextHop 49 = .ok (.aload_n 0, 1) := by decide +kernel
theorem dX2_nextHop_50 : decode cX2_nextHop 50 = .ok (.getfield 47, 3) := by decide +kernel
theorem dX2_nextHop_53 : decode cX2_nextHop 53 = .ok (.iload_n 3, 1) := by decide +kernel
theorem dX2_nextHop_54 : decode cX2_nextHop 54 = .ok (.iaload, 1) := by decide +kernel
theorem dX2_nextHop_55 : decode cX2_nextHop 55 = .ok (.iadd, 1) := by decide +kernel
theorem dX2_nextHop_56 : decode cX2_nextHop 56 = .ok (.aload_n 0, 1) := by decide +kernel
theorem dX2_nextHop_57 : decode cX2_nextHop 57 = .ok (.getfield 47, 3) := by decide +kernel
theorem dX2_nextHop_60 : decode cX2_nextHop 60 = .ok (.iload_n 1, 1) := by decide +kernel
theorem dX2_nextHop_61 : decode cX2_nextHop 61 = .ok (.iaload, 1) := by decide +kernel
theorem dX2_nextHop_62 : decode cX2_nextHop 62 = .ok (.if_icmp .ne 5, 3) := by decide +kernel
theorem dX2_nextHop_65 : decode cX2_nextHop 65 = .ok (.iload_n 3, 1) := by decide +kernel
theorem dX2_nextHop_66 : decode cX2_nextHop 66 = .ok (.ireturn, 1) := by decide +kernel
theorem dX2_nextHop_67 : decode cX2_nextHop 67 = .ok (.iinc 3 1, 3) := by decide +kernel
theorem dX2_nextHop_70 : decode cX2_nextHop 70 = .ok (.goto (-43), 3) := by decide +kernel
theorem dX2_nextHop_73 : decode cX2_nextHop 73 = .ok (.iconst (-1), 1) := by decide +kernel
theorem dX2_nextHop_74 : decode cX2_nextHop 74 = .ok (.ireturn, 1) := by decide +kernel
theorem dX2_measureWays_0 : decode cX2_measureWays 0 = .ok (.iconst 0, 1) := by decide +kernel
theorem dX2_measureWays_1 : decode cX2_measureWays 1 = .ok (.istore_n 3, 1) := by decide +kernel
theorem dX2_measureWays_2 : decode cX2_measureWays 2 = .ok (.iload_n 3, 1) := by decide +kernel
theorem dX2_measureWays_3 : decode cX2_measureWays 3 = .ok (.bipush 8, 2) := by decide +kernel
theorem dX2_measureWays_5 : decode cX2_measureWays 5 = .ok (.if_icmp .ge 27, 3) := by decide +kernel
theorem dX2_measureWays_8 : decode cX2_measureWays 8 = .ok (.aload_n 0, 1) := by decide +kernel
theorem dX2_measureWays_9 : decode cX2_measureWays 9 = .ok (.getfield 47, 3) := by decide +kernel
theorem dX2_measureWays_12 : decode cX2_measureWays 12 = .ok (.iload_n 3, 1) := by decide +kernel
theorem dX2_measureWays_13 : decode cX2_measureWays 13 = .ok (.iload_n 3, 1) := by decide +kernel
theorem dX2_measureWays_14 : decode cX2_measureWays 14 = .ok (.iload_n 2, 1) := by decide +kernel
theorem dX2_measureWays_15 : decode cX2_measureWays 15 = .ok (.if_icmp .ne 7, 3) := by decide +kernel
theorem dX2_measureWays_18 : decode cX2_measureWays 18 = .ok (.iconst 0, 1) := by decide +kernel
theorem dX2_measureWays_19 : decode cX2_measureWays 19 = .ok (.goto 6, 3) := by decide +kernel
theorem dX2_measureWays_22 : decode cX2_measureWays 22 = .ok (.sipush 1000, 3) := by decide +kernel
theorem dX2_measureWays_25 : decode cX2_measureWays 25 = .ok (.iastore, 1) := by decide +kernel
theorem dX2_measureWays_26 : decode cX2_measureWays 26 = .ok (.iinc 3 1, 3) := by decide +kernel
theorem dX2_measureWays_29 : decode cX2_measureWays 29 = .ok (.goto (-27), 3) := by decide +kernel
theorem dX2_measureWays_32 : decode cX2_measureWays 32 = .ok (.iconst 1, 1) := by decide +kernel
theorem dX2_measureWays_33 : decode cX2_measureWays 33 = .ok (.istore_n 3, 1) := by decide +kernel
theorem dX2_measureWays_34 : decode cX2_measureWays 34 = .ok (.iload_n 3, 1) := by decide +kernel
theorem dX2_measureWays_35 : decode cX2_measureWays 35 = .ok (.bipush 8, 2) := by decide +kernel
theorem dX2_measureWays_37 : decode cX2_measureWays 37 = .ok (.if_icmp .ge 94, 3) := by decide +kernel
theorem dX2_measureWays_40 : decode cX2_measureWays 40 = .ok (.iconst 0, 1) := by decide +kernel
theorem dX2_measureWays_41 : decode cX2_measureWays 41 = .ok (.istore 4, 2) := by decide +kernel
theorem dX2_measureWays_43 : decode cX2_measureWays 43 = .ok (.iload 4, 2) := by decide +kernel
theorem dX2_measureWays_45 : decode cX2_measureWays 45 = .ok (.bipush 8, 2) := by decide +kernel
theorem dX2_measureWays_47 : decode cX2_measureWays 47 = .ok (.if_icmp .ge 78, 3) := by decide +kernel
theorem dX2_measureWays_50 : decode cX2_measureWays 50 = .ok (.iconst 0, 1) := by decide +kernel
theorem dX2_measureWays_51 : decode cX2_measureWays 51 = .ok (.istore 5, 2) := by decide +kernel
theorem dX2_measureWays_53 : decode cX2_measureWays 53 = .ok (.iload 5, 2) := by decide +kernel
theorem dX2_measureWays_55 : decode cX2_measureWays 55 = .ok (.bipush 8, 2) := by decide +kernel
theorem dX2_measureWays_57 : decode cX2_measureWays 57 = .ok (.if_icmp .ge 62, 3) := by decide +kernel
theorem dX2_measureWays_60 : decode cX2_measureWays 60 = .ok (.aload_n 0, 1) := by decide +kernel
theorem dX2_measureWays_61 : decode cX2_measureWays 61 = .ok (.iload_n 1, 1) := by decide +kernel
theorem dX2_measureWays_62 : decode cX2_measureWays 62 = .ok (.iload 4, 2) := by decide +kernel
theorem dX2_measureWays_64 : decode cX2_measureWays 64 = .ok (.iload 5, 2) := by decide +kernel
theorem dX2_measureWays_66 : decode cX2_measureWays 66 = .ok (.invokevirtual 236, 3) := by decide +kernel
theorem dX2_measureWays_69 : decode cX2_measureWays 69 = .ok (.istore 6, 2) := by decide +kernel
theorem dX2_measureWays_71 : decode cX2_measureWays 71 = .ok (.iload 6, 2) := by decide +kernel
theorem dX2_measureWays_73 : decode cX2_measureWays 73 = .ok (.ifCond .le 40, 3) := by decide +kernel
theorem dX2_measureWays_76 : decode cX2_measureWays 76 = .ok (.iload 6, 2) := by decide +kernel
theorem dX2_measureWays_78 : decode cX2_measureWays 78 = .ok (.aload_n 0, 1) := by decide +kernel
theorem dX2_measureWays_79 : decode cX2_measureWays 79 = .ok (.getfield 47, 3) := by decide +kernel
theorem dX2_measureWays_82 : decode cX2_measureWays 82 = .ok (.iload 5, 2) := by decide +kernel
theorem dX2_measureWays_84 : decode cX2_measureWays 84 = .ok (.iaload, 1) := by decide +kernel
theorem dX2_measureWays_85 : decode cX2_measureWays 85 = .ok (.iadd, 1) := by decide +kernel
theorem dX2_measureWays_86 : decode cX2_measureWays 86 = .ok (.aload_n 0, 1) := by decide +kernel
theorem dX2_measureWays_87 : decode cX2_measureWays 87 = .ok (.getfield 47, 3) := by decide +kernel
theorem dX2_measureWays_90 : decode cX2_measureWays 90 = .ok (.iload 4, 2) := by decide +kernel
theorem dX2_measureWays_92 : decode cX2_measureWays 92 = .ok (.iaload, 1) := by decide +kernel
theorem dX2_measureWays_93 : decode cX2_measureWays 93 = .ok (.if_icmp .ge 20, 3) := by decide +kernel
theorem dX2_measureWays_96 : decode cX2_measureWays 96 = .ok (.aload_n 0, 1) := by decide +kernel
theorem dX2_measureWays_97 : decode cX2_measureWays 97 = .ok (.getfield 47, 3) := by decide +kernel
theorem dX2_measureWays_100 : decode cX2_measureWays 100 = .ok (.iload 4, 2) := by decide +kernel
theorem dX2_measureWays_102 : decode cX2_measureWays 102 = .ok (.iload 6, 2) := by decide +kernel
theorem dX2_measureWays_104 : decode cX2_measureWays 104 = .ok (.aload_n 0, 1) := by decide +kernel
theorem dX2_measureWays_105 : decode cX2_measureWays 105 = .ok (.getfield 47, 3) := by decide +kernel
theorem dX2_measureWays_108 : decode cX2_measureWays 108 = .ok (.iload 5, 2) := by decide +kernel
theorem dX2_measureWays_110 : decode cX2_measureWays 110 = .ok (.iaload, 1) := by decide +kernel
theorem dX2_measureWays_111 : decode cX2_measureWays 111 = .ok (.iadd, 1) := by decide +kernel
theorem dX2_measureWays_112 : decode cX2_measureWays 112 = .ok (.iastore, 1) := by decide +kernel
theorem dX2_measureWays_113 : decode cX2_measureWays 113 = .ok (.iinc 5 1, 3) := by decide +kernel
theorem dX2_measureWays_116 : decode cX2_measureWays 116 = .ok (.goto (-63), 3) := by decide +kernel
theorem dX2_measureWays_119 : decode cX2_measureWays 119 = .ok (.iinc 4 1, 3) := by decide +kernel
theorem dX2_measureWays_122 : decode cX2_measureWays 122 = .ok (.goto (-79), 3) := by decide +kernel
theorem dX2_measureWays_125 : decode cX2_measureWays 125 = .ok (.iinc 3 1, 3) := by decide +kernel
theorem dX2_measureWays_128 : decode cX2_measureWays 128 = .ok (.goto (-94), 3) := by decide +kernel
theorem dX2_measureWays_131 : decode cX2_measureWays 131 = .ok (.return_, 1) := by decide +kernel
theorem dX2_stepCost_0 : decode cX2_stepCost 0 = .ok (.aload_n 0, 1) := by decide +kernel
theorem dX2_stepCost_1 : decode cX2_stepCost 1 = .ok (.getfield 31, 3) := by decide +kernel
theorem dX2_stepCost_4 : decode cX2_stepCost 4 = .ok (.iload_n 1, 1) := by decide +kernel
theorem dX2_stepCost_5 : decode cX2_stepCost 5 = .ok (.iload_n 3, 1) := by decide +kernel
theorem dX2_stepCost_6 : decode cX2_stepCost 6 = .ok (.invokestatic 107, 3) := by decide +kernel
theorem dX2_stepCost_9 : decode cX2_stepCost 9 = .ok (.iload_n 2, 1) := by decide +kernel
theorem dX2_stepCost_10 : decode cX2_stepCost 10 = .ok (.invokevirtual 143, 3) := by decide +kernel
theorem dX2_stepCost_13 : decode cX2_stepCost 13 = .ok (.istore 4, 2) := by decide +kernel
theorem dX2_stepCost_15 : decode cX2_stepCost 15 = .ok (.iload 4, 2) := by decide +kernel
theorem dX2_stepCost_17 : decode cX2_stepCost 17 = .ok (.ifCond .le 19, 3) := by decide +kernel
theorem dX2_stepCost_20 : decode cX2_stepCost 20 = .ok (.aload_n 0, 1) := by decide +kernel
theorem dX2_stepCost_21 : decode cX2_stepCost 21 = .ok (.getfield 31, 3) := by decide +kernel
theorem dX2_stepCost_24 : decode cX2_stepCost 24 = .ok (.iload_n 1, 1) := by decide +kernel
theorem dX2_stepCost_25 : decode cX2_stepCost 25 = .ok (.iload_n 2, 1) := by decide +kernel
theorem dX2_stepCost_26 : decode cX2_stepCost 26 = .ok (.invokestatic 107, 3) := by decide +kernel
theorem dX2_stepCost_29 : decode cX2_stepCost 29 = .ok (.iload_n 3, 1) := by decide +kernel
theorem dX2_stepCost_30 : decode cX2_stepCost 30 = .ok (.invokevirtual 143, 3) := by decide +kernel
theorem dX2_stepCost_33 : decode cX2_stepCost 33 = .ok (.goto 4, 3) := by decide +kernel
theorem dX2_stepCost_36 : decode cX2_stepCost 36 = .ok (.iconst 0, 1) := by decide +kernel
theorem dX2_stepCost_37 : decode cX2_stepCost 37 = .ok (.ireturn, 1) := by decide +kernel
theorem dX2_agreeOn_0 : decode cX2_agreeOn 0 = .ok (.aload_n 0, 1) := by decide +kernel
theorem dX2_agreeOn_1 : decode cX2_agreeOn 1 = .ok (.iload_n 1, 1) := by decide +kernel
theorem dX2_agreeOn_2 : decode cX2_agreeOn 2 = .ok (.invokevirtual 239, 3) := by decide +kernel
theorem dX2_agreeOn_5 : decode cX2_agreeOn 5 = .ok (.istore_n 2, 1) := by decide +kernel
theorem dX2_agreeOn_6 : decode cX2_agreeOn 6 = .ok (.iconst 0, 1) := by decide +kernel
theorem dX2_agreeOn_7 : decode cX2_agreeOn 7 = .ok (.istore_n 3, 1) := by decide +kernel
theorem dX2_agreeOn_8 : decode cX2_agreeOn 8 = .ok (.iload_n 3, 1) := by decide +kernel
theorem dX2_agreeOn_9 : decode cX2_agreeOn 9 = .ok (.bipush 8, 2) := by decide +kernel
theorem dX2_agreeOn_11 : decode cX2_agreeOn 11 = .ok (.if_icmp .ge 61, 3) := by decide +kernel
theorem dX2_agreeOn_14 : decode cX2_agreeOn 14 = .ok (.iload_n 2, 1) := by decide +kernel
theorem dX2_agreeOn_15 : decode cX2_agreeOn 15 = .ok (.iload_n 3, 1) := by decide +kernel
theorem dX2_agreeOn_16 : decode cX2_agreeOn 16 = .ok (.ishr, 1) := by decide +kernel
theorem dX2_agreeOn_17 : decode cX2_agreeOn 17 = .ok (.iconst 1, 1) := by decide +kernel
theorem dX2_agreeOn_18 : decode cX2_agreeOn 18 = .ok (.iand, 1) := by decide +kernel
theorem dX2_agreeOn_19 : decode cX2_agreeOn 19 = .ok (.iconst 1, 1) := by decide +kernel
theorem dX2_agreeOn_20 : decode cX2_agreeOn 20 = .ok (.if_icmp .ne 7, 3) := by decide +kernel
theorem dX2_agreeOn_23 : decode cX2_agreeOn 23 = .ok (.iconst 1, 1) := by decide +kernel
theorem dX2_agreeOn_24 : decode cX2_agreeOn 24 = .ok (.goto 4, 3) := by decide +kernel
theorem dX2_agreeOn_27 : decode cX2_agreeOn 27 = .ok (.iconst 0, 1) := by decide +kernel
theorem dX2_agreeOn_28 : decode cX2_agreeOn 28 = .ok (.istore 4, 2) := by decide +kernel
theorem dX2_agreeOn_30 : decode cX2_agreeOn 30 = .ok (.iload 4, 2) := by decide +kernel
theorem dX2_agreeOn_32 : decode cX2_agreeOn 32 = .ok (.ifCond .eq 34, 3) := by decide +kernel
theorem dX2_agreeOn_35 : decode cX2_agreeOn 35 = .ok (.aload_n 0, 1) := by decide +kernel
theorem dX2_agreeOn_36 : decode cX2_agreeOn 36 = .ok (.getfield 31, 3) := by decide +kernel
theorem dX2_agreeOn_39 : decode cX2_agreeOn 39 = .ok (.getfield 133, 3) := by decide +kernel
theorem dX2_agreeOn_42 : decode cX2_agreeOn 42 = .ok (.iload_n 3, 1) := by decide +kernel
theorem dX2_agreeOn_43 : decode cX2_agreeOn 43 = .ok (.iload_n 1, 1) := by decide +kernel
theorem dX2_agreeOn_44 : decode cX2_agreeOn 44 = .ok (.invokestatic 107, 3) := by decide +kernel
theorem dX2_agreeOn_47 : decode cX2_agreeOn 47 = .ok (.iaload, 1) := by decide +kernel
theorem dX2_agreeOn_48 : decode cX2_agreeOn 48 = .ok (.aload_n 0, 1) := by decide +kernel
theorem dX2_agreeOn_49 : decode cX2_agreeOn 49 = .ok (.getfield 31, 3) := by decide +kernel
theorem dX2_agreeOn_52 : decode cX2_agreeOn 52 = .ok (.getfield 133, 3) := by decide +kernel
theorem dX2_agreeOn_55 : decode cX2_agreeOn 55 = .ok (.iload_n 1, 1) := by decide +kernel
theorem dX2_agreeOn_56 : decode cX2_agreeOn 56 = .ok (.iload_n 1, 1) := by decide +kernel
theorem dX2_agreeOn_57 : decode cX2_agreeOn 57 = .ok (.invokestatic 107, 3) := by decide +kernel
theorem dX2_agreeOn_60 : decode cX2_agreeOn 60 = .ok (.iaload, 1) := by decide +kernel
theorem dX2_agreeOn_61 : decode cX2_agreeOn 61 = .ok (.if_icmp .eq 5, 3) := by decide +kernel
theorem dX2_agreeOn_64 : decode cX2_agreeOn 64 = .ok (.iconst 0, 1) := by decide +kernel
theorem dX2_agreeOn_65 : decode cX2_agreeOn 65 = .ok (.ireturn, 1) := by decide +kernel
theorem dX2_agreeOn_66 : decode cX2_agreeOn 66 = .ok (.iinc 3 1, 3) := by decide +kernel
theorem dX2_agreeOn_69 : decode cX2_agreeOn 69 = .ok (.goto (-61), 3) := by decide +kernel
theorem dX2_agreeOn_72 : decode cX2_agreeOn 72 = .ok (.iconst 1, 1) := by decide +kernel
theorem dX2_agreeOn_73 : decode cX2_agreeOn 73 = .ok (.ireturn, 1) := by decide +kernel
theorem dX2_joinedWith_0 : decode cX2_joinedWith 0 = .ok (.iconst 1, 1) := by decide +kernel
theorem dX2_joinedWith_1 : decode cX2_joinedWith 1 = .ok (.iload_n 1, 1) := by decide +kernel
theorem dX2_joinedWith_2 : decode cX2_joinedWith 2 = .ok (.ishl, 1) := by decide +kernel
theorem dX2_joinedWith_3 : decode cX2_joinedWith 3 = .ok (.istore_n 2, 1) := by decide +kernel
theorem dX2_joinedWith_4 : decode cX2_joinedWith 4 = .ok (.iconst 1, 1) := by decide +kernel
theorem dX2_joinedWith_5 : decode cX2_joinedWith 5 = .ok (.istore_n 3, 1) := by decide +kernel
theorem dX2_joinedWith_6 : decode cX2_joinedWith 6 = .ok (.iload_n 3, 1) := by decide +kernel
theorem dX2_joinedWith_7 : decode cX2_joinedWith 7 = .ok (.bipush 8, 2) := by decide +kernel
theorem dX2_joinedWith_9 : decode cX2_joinedWith 9 = .ok (.if_icmp .ge 44, 3) := by decide +kernel
theorem dX2_joinedWith_12 : decode cX2_joinedWith 12 = .ok (.iconst 0, 1) := by decide +kernel
theorem dX2_joinedWith_13 : decode cX2_joinedWith 13 = .ok (.istore 4, 2) := by decide +kernel
theorem dX2_joinedWith_15 : decode cX2_joinedWith 15 = .ok (.iload 4, 2) := by decide +kernel
theorem dX2_joinedWith_17 : decode cX2_joinedWith 17 = .ok (.bipush 8, 2) := by decide +kernel
theorem dX2_joinedWith_19 : decode cX2_joinedWith 19 = .ok (.if_icmp .ge 28, 3) := by decide +kernel
theorem dX2_joinedWith_22 : decode cX2_joinedWith 22 = .ok (.iload_n 2, 1) := by decide +kernel
theorem dX2_joinedWith_23 : decode cX2_joinedWith 23 = .ok (.iload 4, 2) := by decide +kernel
theorem dX2_joinedWith_25 : decode cX2_joinedWith 25 = .ok (.ishr, 1) := by decide +kernel
theorem dX2_joinedWith_26 : decode cX2_joinedWith 26 = .ok (.iconst 1, 1) := by decide +kernel
theorem dX2_joinedWith_27 : decode cX2_joinedWith 27 = .ok (.iand, 1) := by decide +kernel
theorem dX2_joinedWith_28 : decode cX2_joinedWith 28 = .ok (.iconst 1, 1) := by decide +kernel
theorem dX2_joinedWith_29 : decode cX2_joinedWith 29 = .ok (.if_icmp .ne 12, 3) := by decide +kernel
theorem dX2_joinedWith_32 : decode cX2_joinedWith 32 = .ok (.iload_n 2, 1) := by decide +kernel
theorem dX2_joinedWith_33 : decode cX2_joinedWith 33 = .ok (.aload_n 0, 1) := by decide +kernel
theorem dX2_joinedWith_34 : decode cX2_joinedWith 34 = .ok (.iload 4, 2) := by decide +kernel
theorem dX2_joinedWith_36 : decode cX2_joinedWith 36 = .ok (.invokevirtual 242, 3) := by decide +kernel
theorem dX2_joinedWith_39 : decode cX2_joinedWith 39 = .ok (.ior, 1) := by decide +kernel
theorem dX2_joinedWith_40 : decode cX2_joinedWith 40 = .ok (.istore_n 2, 1) := by decide +kernel
theorem dX2_joinedWith_41 : decode cX2_joinedWith 41 = .ok (.iinc 4 1, 3) := by decide +kernel
theorem dX2_joinedWith_44 : decode cX2_joinedWith 44 = .ok (.goto (-29), 3) := by decide +kernel
theorem dX2_joinedWith_47 : decode cX2_joinedWith 47 = .ok (.iinc 3 1, 3) := by decide +kernel
theorem dX2_joinedWith_50 : decode cX2_joinedWith 50 = .ok (.goto (-44), 3) := by decide +kernel
theorem dX2_joinedWith_53 : decode cX2_joinedWith 53 = .ok (.iload_n 2, 1) := by decide +kernel
theorem dX2_joinedWith_54 : decode cX2_joinedWith 54 = .ok (.ireturn, 1) := by decide +kernel
theorem dX2_neighbours_0 : decode cX2_neighbours 0 = .ok (.iconst 0, 1) := by decide +kernel
theorem dX2_neighbours_1 : decode cX2_neighbours 1 = .ok (.istore_n 2, 1) := by decide +kernel
theorem dX2_neighbours_2 : decode cX2_neighbours 2 = .ok (.iconst 0, 1) := by decide +kernel
theorem dX2_neighbours_3 : decode cX2_neighbours 3 = .ok (.istore_n 3, 1) := by decide +kernel
theorem dX2_neighbours_4 : decode cX2_neighbours 4 = .ok (.iload_n 3, 1) := by decide +kernel
theorem dX2_neighbours_5 : decode cX2_neighbours 5 = .ok (.bipush 8, 2) := by decide +kernel
theorem dX2_neighbours_7 : decode cX2_neighbours 7 = .ok (.if_icmp .ge 24, 3) := by decide +kernel
theorem dX2_neighbours_10 : decode cX2_neighbours 10 = .ok (.aload_n 0, 1) := by decide +kernel
theorem dX2_neighbours_11 : decode cX2_neighbours 11 = .ok (.iload_n 1, 1) := by decide +kernel
theorem dX2_neighbours_12 : decode cX2_neighbours 12 = .ok (.iload_n 3, 1) := by decide +kernel
theorem dX2_neighbours_13 : decode cX2_neighbours 13 = .ok (.invokevirtual 101, 3) := by decide +kernel
theorem dX2_neighbours_16 : decode cX2_neighbours 16 = .ok (.ifCond .eq 9, 3) := by decide +kernel
theorem dX2_neighbours_19 : decode cX2_neighbours 19 = .ok (.iload_n 2, 1) := by decide +kernel
theorem dX2_neighbours_20 : decode cX2_neighbours 20 = .ok (.iconst 1, 1) := by decide +kernel
theorem dX2_neighbours_21 : decode cX2_neighbours 21 = .ok (.iload_n 3, 1) := by decide +kernel
theorem dX2_neighbours_22 : decode cX2_neighbours 22 = .ok (.ishl, 1) := by decide +kernel
theorem dX2_neighbours_23 : decode cX2_neighbours 23 = .ok (.ior, 1) := by decide +kernel
theorem dX2_neighbours_24 : decode cX2_neighbours 24 = .ok (.istore_n 2, 1) := by decide +kernel
theorem dX2_neighbours_25 : decode cX2_neighbours 25 = .ok (.iinc 3 1, 3) := by decide +kernel
theorem dX2_neighbours_28 : decode cX2_neighbours 28 = .ok (.goto (-24), 3) := by decide +kernel
theorem dX2_neighbours_31 : decode cX2_neighbours 31 = .ok (.iload_n 2, 1) := by decide +kernel
theorem dX2_neighbours_32 : decode cX2_neighbours 32 = .ok (.ireturn, 1) := by decide +kernel
theorem dJ9_max_7cf53_0 : decode cJ9_max_7cf53 0 = .ok (.iload_n 0, 1) := by decide +kernel
theorem dJ9_max_7cf53_1 : decode cJ9_max_7cf53 1 = .ok (.iload_n 1, 1) := by decide +kernel
theorem dJ9_max_7cf53_2 : decode cJ9_max_7cf53 2 = .ok (.if_icmp .lt 7, 3) := by decide +kernel
theorem dJ9_max_7cf53_5 : decode cJ9_max_7cf53 5 = .ok (.iload_n 0, 1) := by decide +kernel
theorem dJ9_max_7cf53_6 : decode cJ9_max_7cf53 6 = .ok (.goto 4, 3) := by decide +kernel
theorem dJ9_max_7cf53_9 : decode cJ9_max_7cf53 9 = .ok (.iload_n 1, 1) := by decide +kernel
theorem dJ9_max_7cf53_10 : decode cJ9_max_7cf53 10 = .ok (.ireturn, 1) := by decide +kernel
theorem dJ9_min_7cf53_0 : decode cJ9_min_7cf53 0 = .ok (.iload_n 0, 1) := by decide +kernel
theorem dJ9_min_7cf53_1 : decode cJ9_min_7cf53 1 = .ok (.iload_n 1, 1) := by decide +kernel
theorem dJ9_min_7cf53_2 : decode cJ9_min_7cf53 2 = .ok (.if_icmp .gt 7, 3) := by decide +kernel
theorem dJ9_min_7cf53_5 : decode cJ9_min_7cf53 5 = .ok (.iload_n 0, 1) := by decide +kernel
theorem dJ9_min_7cf53_6 : decode cJ9_min_7cf53 6 = .ok (.goto 4, 3) := by decide +kernel
theorem dJ9_min_7cf53_9 : decode cJ9_min_7cf53 9 = .ok (.iload_n 1, 1) := by decide +kernel
theorem dJ9_min_7cf53_10 : decode cJ9_min_7cf53 10 = .ok (.ireturn, 1) := by decide +kernel
