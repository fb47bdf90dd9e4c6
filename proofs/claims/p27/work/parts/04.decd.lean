theorem dg_d0 : (decode cX8_starts 14 = .ok (.getfield 7, 3)) ∧ (decode cX8_starts 17 = .ok (.iload_n 1, 1)) ∧ (decode cX8_starts 18 = .ok (.iaload, 1)) ∧ (decode cX8_starts 19 = .ok (.iastore, 1)) ∧ (decode cX8_starts 20 = .ok (.iinc 1 1, 3)) ∧ (decode cX8_starts 23 = .ok (.goto (-21), 3)) ∧ (decode cX8_starts 26 = .ok (.return_, 1)) := by decide +kernel
theorem dX8_starts_14 : decode cX8_starts 14 = .ok (.getfield 7, 3) := dg_d0.1
theorem dX8_starts_17 : decode cX8_starts 17 = .ok (.iload_n 1, 1) := dg_d0.2.1
theorem dX8_starts_18 : decode cX8_starts 18 = .ok (.iaload, 1) := dg_d0.2.2.1
theorem dX8_starts_19 : decode cX8_starts 19 = .ok (.iastore, 1) := dg_d0.2.2.2.1
theorem dX8_starts_20 : decode cX8_starts 20 = .ok (.iinc 1 1, 3) := dg_d0.2.2.2.2.1
theorem dX8_starts_23 : decode cX8_starts 23 = .ok (.goto (-21), 3) := dg_d0.2.2.2.2.2.1
theorem dX8_starts_26 : decode cX8_starts 26 = .ok (.return_, 1) := dg_d0.2.2.2.2.2.2
theorem dg_d1 : (decode cX8_settles 0 = .ok (.iconst 0, 1)) ∧ (decode cX8_settles 1 = .ok (.istore_n 1, 1)) ∧ (decode cX8_settles 2 = .ok (.iload_n 1, 1)) ∧ (decode cX8_settles 3 = .ok (.bipush 54, 2)) ∧ (decode cX8_settles 5 = .ok (.if_icmp .ge 21, 3)) ∧ (decode cX8_settles 8 = .ok (.aload_n 0, 1)) ∧ (decode cX8_settles 9 = .ok (.getfield 7, 3)) ∧ (decode cX8_settles 12 = .ok (.iload_n 1, 1)) ∧ (decode cX8_settles 13 = .ok (.aload_n 0, 1)) ∧ (decode cX8_settles 14 = .ok (.getfield 13, 3)) ∧ (decode cX8_settles 17 = .ok (.iload_n 1, 1)) ∧ (decode cX8_settles 18 = .ok (.iaload, 1)) ∧ (decode cX8_settles 19 = .ok (.iastore, 1)) ∧ (decode cX8_settles 20 = .ok (.iinc 1 1, 3)) ∧ (decode cX8_settles 23 = .ok (.goto (-21), 3)) ∧ (decode cX8_settles 26 = .ok (.return_, 1)) := by decide +kernel
theorem dX8_settles_0 : decode cX8_settles 0 = .ok (.iconst 0, 1) := dg_d1.1
theorem dX8_settles_1 : decode cX8_settles 1 = .ok (.istore_n 1, 1) := dg_d1.2.1
theorem dX8_settles_2 : decode cX8_settles 2 = .ok (.iload_n 1, 1) := dg_d1.2.2.1
theorem dX8_settles_3 : decode cX8_settles 3 = .ok (.bipush 54, 2) := dg_d1.2.2.2.1
theorem dX8_settles_5 : decode cX8_settles 5 = .ok (.if_icmp .ge 21, 3) := dg_d1.2.2.2.2.1
theorem dX8_settles_8 : decode cX8_settles 8 = .ok (.aload_n 0, 1) := dg_d1.2.2.2.2.2.1
theorem dX8_settles_9 : decode cX8_settles 9 = .ok (.getfield 7, 3) := dg_d1.2.2.2.2.2.2.1
theorem dX8_settles_12 : decode cX8_settles 12 = .ok (.iload_n 1, 1) := dg_d1.2.2.2.2.2.2.2.1
theorem dX8_settles_13 : decode cX8_settles 13 = .ok (.aload_n 0, 1) := dg_d1.2.2.2.2.2.2.2.2.1
theorem dX8_settles_14 : decode cX8_settles 14 = .ok (.getfield 13, 3) := dg_d1.2.2.2.2.2.2.2.2.2.1
theorem dX8_settles_17 : decode cX8_settles 17 = .ok (.iload_n 1, 1) := dg_d1.2.2.2.2.2.2.2.2.2.2.1
theorem dX8_settles_18 : decode cX8_settles 18 = .ok (.iaload, 1) := dg_d1.2.2.2.2.2.2.2.2.2.2.2.1
theorem dX8_settles_19 : decode cX8_settles 19 = .ok (.iastore, 1) := dg_d1.2.2.2.2.2.2.2.2.2.2.2.2.1
theorem dX8_settles_20 : decode cX8_settles 20 = .ok (.iinc 1 1, 3) := dg_d1.2.2.2.2.2.2.2.2.2.2.2.2.2.1
theorem dX8_settles_23 : decode cX8_settles 23 = .ok (.goto (-21), 3) := dg_d1.2.2.2.2.2.2.2.2.2.2.2.2.2.2.1
theorem dX8_settles_26 : decode cX8_settles 26 = .ok (.return_, 1) := dg_d1.2.2.2.2.2.2.2.2.2.2.2.2.2.2.2
theorem dg_d2 : (decode cX8_pullOf 0 = .ok (.iload_n 1, 1)) ∧ (decode cX8_pullOf 1 = .ok (.iconst 5, 1)) ∧ (decode cX8_pullOf 2 = .ok (.if_icmp .lt 7, 3)) ∧ (decode cX8_pullOf 5 = .ok (.iconst 1, 1)) ∧ (decode cX8_pullOf 6 = .ok (.goto 4, 3)) ∧ (decode cX8_pullOf 9 = .ok (.iconst 0, 1)) ∧ (decode cX8_pullOf 10 = .ok (.istore_n 2, 1)) ∧ (decode cX8_pullOf 11 = .ok (.iload_n 2, 1)) ∧ (decode cX8_pullOf 12 = .ok (.iconst 1, 1)) ∧ (decode cX8_pullOf 13 = .ok (.iadd, 1)) ∧ (decode cX8_pullOf 14 = .ok (.istore_n 3, 1)) ∧ (decode cX8_pullOf 15 = .ok (.iload_n 0, 1)) ∧ (decode cX8_pullOf 16 = .ok (.iconst 1, 1)) ∧ (decode cX8_pullOf 17 = .ok (.if_icmp .ne 7, 3)) ∧ (decode cX8_pullOf 20 = .ok (.iload_n 3, 1)) ∧ (decode cX8_pullOf 21 = .ok (.goto 28, 3)) := by decide +kernel
theorem dX8_pullOf_0 : decode cX8_pullOf 0 = .ok (.iload_n 1, 1) := dg_d2.1
theorem dX8_pullOf_1 : decode cX8_pullOf 1 = .ok (.iconst 5, 1) := dg_d2.2.1
theorem dX8_pullOf_2 : decode cX8_pullOf 2 = .ok (.if_icmp .lt 7, 3) := dg_d2.2.2.1
theorem dX8_pullOf_5 : decode cX8_pullOf 5 = .ok (.iconst 1, 1) := dg_d2.2.2.2.1
theorem dX8_pullOf_6 : decode cX8_pullOf 6 = .ok (.goto 4, 3) := dg_d2.2.2.2.2.1
theorem dX8_pullOf_9 : decode cX8_pullOf 9 = .ok (.iconst 0, 1) := dg_d2.2.2.2.2.2.1
theorem dX8_pullOf_10 : decode cX8_pullOf 10 = .ok (.istore_n 2, 1) := dg_d2.2.2.2.2.2.2.1
theorem dX8_pullOf_11 : decode cX8_pullOf 11 = .ok (.iload_n 2, 1) := dg_d2.2.2.2.2.2.2.2.1
theorem dX8_pullOf_12 : decode cX8_pullOf 12 = .ok (.iconst 1, 1) := dg_d2.2.2.2.2.2.2.2.2.1
theorem dX8_pullOf_13 : decode cX8_pullOf 13 = .ok (.iadd, 1) := dg_d2.2.2.2.2.2.2.2.2.2.1
theorem dX8_pullOf_14 : decode cX8_pullOf 14 = .ok (.istore_n 3, 1) := dg_d2.2.2.2.2.2.2.2.2.2.2.1
theorem dX8_pullOf_15 : decode cX8_pullOf 15 = .ok (.iload_n 0, 1) := dg_d2.2.2.2.2.2.2.2.2.2.2.2.1
theorem dX8_pullOf_16 : decode cX8_pullOf 16 = .ok (.iconst 1, 1) := dg_d2.2.2.2.2.2.2.2.2.2.2.2.2.1
theorem dX8_pullOf_17 : decode cX8_pullOf 17 = .ok (.if_icmp .ne 7, 3) := dg_d2.2.2.2.2.2.2.2.2.2.2.2.2.2.1
theorem dX8_pullOf_20 : decode cX8_pullOf 20 = .ok (.iload_n 3, 1) := dg_d2.2.2.2.2.2.2.2.2.2.2.2.2.2.2.1
theorem dX8_pullOf_21 : decode cX8_pullOf 21 = .ok (.goto 28, 3) := dg_d2.2.2.2.2.2.2.2.2.2.2.2.2.2.2.2
theorem dg_d3 : (decode cX8_pullOf 24 = .ok (.iload_n 0, 1)) ∧ (decode cX8_pullOf 25 = .ok (.iconst 2, 1)) ∧ (decode cX8_pullOf 26 = .ok (.if_icmp .ne 11, 3)) ∧ (decode cX8_pullOf 29 = .ok (.iload_n 3, 1)) ∧ (decode cX8_pullOf 30 = .ok (.iload_n 1, 1)) ∧ (decode cX8_pullOf 31 = .ok (.iconst 4, 1)) ∧ (decode cX8_pullOf 32 = .ok (.idiv, 1)) ∧ (decode cX8_pullOf 33 = .ok (.iadd, 1)) ∧ (decode cX8_pullOf 34 = .ok (.goto 15, 3)) ∧ (decode cX8_pullOf 37 = .ok (.iload_n 0, 1)) ∧ (decode cX8_pullOf 38 = .ok (.iconst 3, 1)) ∧ (decode cX8_pullOf 39 = .ok (.if_icmp .ne 9, 3)) ∧ (decode cX8_pullOf 42 = .ok (.iload_n 3, 1)) ∧ (decode cX8_pullOf 43 = .ok (.iconst 2, 1)) ∧ (decode cX8_pullOf 44 = .ok (.idiv, 1)) ∧ (decode cX8_pullOf 45 = .ok (.goto 4, 3)) := by decide +kernel
theorem dX8_pullOf_24 : decode cX8_pullOf 24 = .ok (.iload_n 0, 1) := dg_d3.1
theorem dX8_pullOf_25 : decode cX8_pullOf 25 = .ok (.iconst 2, 1) := dg_d3.2.1
theorem dX8_pullOf_26 : decode cX8_pullOf 26 = .ok (.if_icmp .ne 11, 3) := dg_d3.2.2.1
theorem dX8_pullOf_29 : decode cX8_pullOf 29 = .ok (.iload_n 3, 1) := dg_d3.2.2.2.1
theorem dX8_pullOf_30 : decode cX8_pullOf 30 = .ok (.iload_n 1, 1) := dg_d3.2.2.2.2.1
theorem dX8_pullOf_31 : decode cX8_pullOf 31 = .ok (.iconst 4, 1) := dg_d3.2.2.2.2.2.1
theorem dX8_pullOf_32 : decode cX8_pullOf 32 = .ok (.idiv, 1) := dg_d3.2.2.2.2.2.2.1
theorem dX8_pullOf_33 : decode cX8_pullOf 33 = .ok (.iadd, 1) := dg_d3.2.2.2.2.2.2.2.1
theorem dX8_pullOf_34 : decode cX8_pullOf 34 = .ok (.goto 15, 3) := dg_d3.2.2.2.2.2.2.2.2.1
theorem dX8_pullOf_37 : decode cX8_pullOf 37 = .ok (.iload_n 0, 1) := dg_d3.2.2.2.2.2.2.2.2.2.1
theorem dX8_pullOf_38 : decode cX8_pullOf 38 = .ok (.iconst 3, 1) := dg_d3.2.2.2.2.2.2.2.2.2.2.1
theorem dX8_pullOf_39 : decode cX8_pullOf 39 = .ok (.if_icmp .ne 9, 3) := dg_d3.2.2.2.2.2.2.2.2.2.2.2.1
theorem dX8_pullOf_42 : decode cX8_pullOf 42 = .ok (.iload_n 3, 1) := dg_d3.2.2.2.2.2.2.2.2.2.2.2.2.1
theorem dX8_pullOf_43 : decode cX8_pullOf 43 = .ok (.iconst 2, 1) := dg_d3.2.2.2.2.2.2.2.2.2.2.2.2.2.1
theorem dX8_pullOf_44 : decode cX8_pullOf 44 = .ok (.idiv, 1) := dg_d3.2.2.2.2.2.2.2.2.2.2.2.2.2.2.1
theorem dX8_pullOf_45 : decode cX8_pullOf 45 = .ok (.goto 4, 3) := dg_d3.2.2.2.2.2.2.2.2.2.2.2.2.2.2.2
theorem dg_d4 : (decode cX8_pullOf 48 = .ok (.iload_n 2, 1)) ∧ (decode cX8_pullOf 49 = .ok (.ireturn, 1)) := by decide +kernel
theorem dX8_pullOf_48 : decode cX8_pullOf 48 = .ok (.iload_n 2, 1) := dg_d4.1
theorem dX8_pullOf_49 : decode cX8_pullOf 49 = .ok (.ireturn, 1) := dg_d4.2
theorem dg_d5 : (decode cX8_pullNow 0 = .ok (.aload_n 0, 1)) ∧ (decode cX8_pullNow 1 = .ok (.getfield 63, 3)) ∧ (decode cX8_pullNow 4 = .ok (.ifCond .ne 5, 3)) ∧ (decode cX8_pullNow 7 = .ok (.iconst 0, 1)) ∧ (decode cX8_pullNow 8 = .ok (.ireturn, 1)) ∧ (decode cX8_pullNow 9 = .ok (.aload_n 0, 1)) ∧ (decode cX8_pullNow 10 = .ok (.getfield 13, 3)) ∧ (decode cX8_pullNow 13 = .ok (.bipush 20, 2)) ∧ (decode cX8_pullNow 15 = .ok (.aload_n 0, 1)) ∧ (decode cX8_pullNow 16 = .ok (.getfield 13, 3)) ∧ (decode cX8_pullNow 19 = .ok (.bipush 23, 2)) ∧ (decode cX8_pullNow 21 = .ok (.iaload, 1)) ∧ (decode cX8_pullNow 22 = .ok (.iadd, 1)) ∧ (decode cX8_pullNow 23 = .ok (.iaload, 1)) ∧ (decode cX8_pullNow 24 = .ok (.iload_n 1, 1)) ∧ (decode cX8_pullNow 25 = .ok (.invokestatic 160, 3)) := by decide +kernel
theorem dX8_pullNow_0 : decode cX8_pullNow 0 = .ok (.aload_n 0, 1) := dg_d5.1
theorem dX8_pullNow_1 : decode cX8_pullNow 1 = .ok (.getfield 63, 3) := dg_d5.2.1
theorem dX8_pullNow_4 : decode cX8_pullNow 4 = .ok (.ifCond .ne 5, 3) := dg_d5.2.2.1
theorem dX8_pullNow_7 : decode cX8_pullNow 7 = .ok (.iconst 0, 1) := dg_d5.2.2.2.1
theorem dX8_pullNow_8 : decode cX8_pullNow 8 = .ok (.ireturn, 1) := dg_d5.2.2.2.2.1
theorem dX8_pullNow_9 : decode cX8_pullNow 9 = .ok (.aload_n 0, 1) := dg_d5.2.2.2.2.2.1
theorem dX8_pullNow_10 : decode cX8_pullNow 10 = .ok (.getfield 13, 3) := dg_d5.2.2.2.2.2.2.1
theorem dX8_pullNow_13 : decode cX8_pullNow 13 = .ok (.bipush 20, 2) := dg_d5.2.2.2.2.2.2.2.1
theorem dX8_pullNow_15 : decode cX8_pullNow 15 = .ok (.aload_n 0, 1) := dg_d5.2.2.2.2.2.2.2.2.1
theorem dX8_pullNow_16 : decode cX8_pullNow 16 = .ok (.getfield 13, 3) := dg_d5.2.2.2.2.2.2.2.2.2.1
theorem dX8_pullNow_19 : decode cX8_pullNow 19 = .ok (.bipush 23, 2) := dg_d5.2.2.2.2.2.2.2.2.2.2.1
theorem dX8_pullNow_21 : decode cX8_pullNow 21 = .ok (.iaload, 1) := dg_d5.2.2.2.2.2.2.2.2.2.2.2.1
theorem dX8_pullNow_22 : decode cX8_pullNow 22 = .ok (.iadd, 1) := dg_d5.2.2.2.2.2.2.2.2.2.2.2.2.1
theorem dX8_pullNow_23 : decode cX8_pullNow 23 = .ok (.iaload, 1) := dg_d5.2.2.2.2.2.2.2.2.2.2.2.2.2.1
theorem dX8_pullNow_24 : decode cX8_pullNow 24 = .ok (.iload_n 1, 1) := dg_d5.2.2.2.2.2.2.2.2.2.2.2.2.2.2.1
theorem dX8_pullNow_25 : decode cX8_pullNow 25 = .ok (.invokestatic 160, 3) := dg_d5.2.2.2.2.2.2.2.2.2.2.2.2.2.2.2
theorem dg_d6 : (decode cX8_pullNow 28 = .ok (.istore_n 2, 1)) ∧ (decode cX8_pullNow 29 = .ok (.aload_n 0, 1)) ∧ (decode cX8_pullNow 30 = .ok (.getfield 63, 3)) ∧ (decode cX8_pullNow 33 = .ok (.iconst 3, 1)) ∧ (decode cX8_pullNow 34 = .ok (.if_icmp .ne 13, 3)) ∧ (decode cX8_pullNow 37 = .ok (.iload_n 2, 1)) ∧ (decode cX8_pullNow 38 = .ok (.ifCond .le 9, 3)) ∧ (decode cX8_pullNow 41 = .ok (.iload_n 2, 1)) ∧ (decode cX8_pullNow 42 = .ok (.iconst 1, 1)) ∧ (decode cX8_pullNow 43 = .ok (.isub, 1)) ∧ (decode cX8_pullNow 44 = .ok (.goto 4, 3)) ∧ (decode cX8_pullNow 47 = .ok (.iload_n 2, 1)) ∧ (decode cX8_pullNow 48 = .ok (.ireturn, 1)) := by decide +kernel
theorem dX8_pullNow_28 : decode cX8_pullNow 28 = .ok (.istore_n 2, 1) := dg_d6.1
theorem dX8_pullNow_29 : decode cX8_pullNow 29 = .ok (.aload_n 0, 1) := dg_d6.2.1
theorem dX8_pullNow_30 : decode cX8_pullNow 30 = .ok (.getfield 63, 3) := dg_d6.2.2.1
theorem dX8_pullNow_33 : decode cX8_pullNow 33 = .ok (.iconst 3, 1) := dg_d6.2.2.2.1
theorem dX8_pullNow_34 : decode cX8_pullNow 34 = .ok (.if_icmp .ne 13, 3) := dg_d6.2.2.2.2.1
theorem dX8_pullNow_37 : decode cX8_pullNow 37 = .ok (.iload_n 2, 1) := dg_d6.2.2.2.2.2.1
theorem dX8_pullNow_38 : decode cX8_pullNow 38 = .ok (.ifCond .le 9, 3) := dg_d6.2.2.2.2.2.2.1
theorem dX8_pullNow_41 : decode cX8_pullNow 41 = .ok (.iload_n 2, 1) := dg_d6.2.2.2.2.2.2.2.1
theorem dX8_pullNow_42 : decode cX8_pullNow 42 = .ok (.iconst 1, 1) := dg_d6.2.2.2.2.2.2.2.2.1
theorem dX8_pullNow_43 : decode cX8_pullNow 43 = .ok (.isub, 1) := dg_d6.2.2.2.2.2.2.2.2.2.1
theorem dX8_pullNow_44 : decode cX8_pullNow 44 = .ok (.goto 4, 3) := dg_d6.2.2.2.2.2.2.2.2.2.2.1
theorem dX8_pullNow_47 : decode cX8_pullNow 47 = .ok (.iload_n 2, 1) := dg_d6.2.2.2.2.2.2.2.2.2.2.2.1
theorem dX8_pullNow_48 : decode cX8_pullNow 48 = .ok (.ireturn, 1) := dg_d6.2.2.2.2.2.2.2.2.2.2.2.2
theorem dg_d7 : (decode cX8_isUp 0 = .ok (.iload_n 2, 1)) ∧ (decode cX8_isUp 1 = .ok (.i2l, 1)) ∧ (decode cX8_isUp 2 = .ok (.aload_n 0, 1)) ∧ (decode cX8_isUp 3 = .ok (.getfield 13, 3)) ∧ (decode cX8_isUp 6 = .ok (.iconst 4, 1)) ∧ (decode cX8_isUp 7 = .ok (.iload_n 1, 1)) ∧ (decode cX8_isUp 8 = .ok (.imul, 1)) ∧ (decode cX8_isUp 9 = .ok (.iconst 0, 1)) ∧ (decode cX8_isUp 10 = .ok (.iadd, 1)) ∧ (decode cX8_isUp 11 = .ok (.iaload, 1)) ∧ (decode cX8_isUp 12 = .ok (.i2l, 1)) ∧ (decode cX8_isUp 13 = .ok (.aload_n 0, 1)) ∧ (decode cX8_isUp 14 = .ok (.getfield 13, 3)) ∧ (decode cX8_isUp 17 = .ok (.iconst 4, 1)) ∧ (decode cX8_isUp 18 = .ok (.iload_n 1, 1)) ∧ (decode cX8_isUp 19 = .ok (.imul, 1)) := by decide +kernel
theorem dX8_isUp_0 : decode cX8_isUp 0 = .ok (.iload_n 2, 1) := dg_d7.1
theorem dX8_isUp_1 : decode cX8_isUp 1 = .ok (.i2l, 1) := dg_d7.2.1
theorem dX8_isUp_2 : decode cX8_isUp 2 = .ok (.aload_n 0, 1) := dg_d7.2.2.1
theorem dX8_isUp_3 : decode cX8_isUp 3 = .ok (.getfield 13, 3) := dg_d7.2.2.2.1
theorem dX8_isUp_6 : decode cX8_isUp 6 = .ok (.iconst 4, 1) := dg_d7.2.2.2.2.1
theorem dX8_isUp_7 : decode cX8_isUp 7 = .ok (.iload_n 1, 1) := dg_d7.2.2.2.2.2.1
theorem dX8_isUp_8 : decode cX8_isUp 8 = .ok (.imul, 1) := dg_d7.2.2.2.2.2.2.1
theorem dX8_isUp_9 : decode cX8_isUp 9 = .ok (.iconst 0, 1) := dg_d7.2.2.2.2.2.2.2.1
theorem dX8_isUp_10 : decode cX8_isUp 10 = .ok (.iadd, 1) := dg_d7.2.2.2.2.2.2.2.2.1
theorem dX8_isUp_11 : decode cX8_isUp 11 = .ok (.iaload, 1) := dg_d7.2.2.2.2.2.2.2.2.2.1
theorem dX8_isUp_12 : decode cX8_isUp 12 = .ok (.i2l, 1) := dg_d7.2.2.2.2.2.2.2.2.2.2.1
theorem dX8_isUp_13 : decode cX8_isUp 13 = .ok (.aload_n 0, 1) := dg_d7.2.2.2.2.2.2.2.2.2.2.2.1
theorem dX8_isUp_14 : decode cX8_isUp 14 = .ok (.getfield 13, 3) := dg_d7.2.2.2.2.2.2.2.2.2.2.2.2.1
theorem dX8_isUp_17 : decode cX8_isUp 17 = .ok (.iconst 4, 1) := dg_d7.2.2.2.2.2.2.2.2.2.2.2.2.2.1
theorem dX8_isUp_18 : decode cX8_isUp 18 = .ok (.iload_n 1, 1) := dg_d7.2.2.2.2.2.2.2.2.2.2.2.2.2.2.1
theorem dX8_isUp_19 : decode cX8_isUp 19 = .ok (.imul, 1) := dg_d7.2.2.2.2.2.2.2.2.2.2.2.2.2.2.2
theorem dg_d8 : (decode cX8_isUp 20 = .ok (.iconst 1, 1)) ∧ (decode cX8_isUp 21 = .ok (.iadd, 1)) ∧ (decode cX8_isUp 22 = .ok (.iaload, 1)) ∧ (decode cX8_isUp 23 = .ok (.i2l, 1)) ∧ (decode cX8_isUp 24 = .ok (.invokestatic 68, 3)) ∧ (decode cX8_isUp 27 = .ok (.ifCond .eq 21, 3)) ∧ (decode cX8_isUp 30 = .ok (.aload_n 0, 1)) ∧ (decode cX8_isUp 31 = .ok (.getfield 13, 3)) ∧ (decode cX8_isUp 34 = .ok (.bipush 28, 2)) ∧ (decode cX8_isUp 36 = .ok (.iaload, 1)) ∧ (decode cX8_isUp 37 = .ok (.iload_n 2, 1)) ∧ (decode cX8_isUp 38 = .ok (.ishr, 1)) ∧ (decode cX8_isUp 39 = .ok (.iconst 1, 1)) ∧ (decode cX8_isUp 40 = .ok (.iand, 1)) ∧ (decode cX8_isUp 41 = .ok (.ifCond .ne 7, 3)) ∧ (decode cX8_isUp 44 = .ok (.iconst 1, 1)) := by decide +kernel
theorem dX8_isUp_20 : decode cX8_isUp 20 = .ok (.iconst 1, 1) := dg_d8.1
theorem dX8_isUp_21 : decode cX8_isUp 21 = .ok (.iadd, 1) := dg_d8.2.1
theorem dX8_isUp_22 : decode cX8_isUp 22 = .ok (.iaload, 1) := dg_d8.2.2.1
theorem dX8_isUp_23 : decode cX8_isUp 23 = .ok (.i2l, 1) := dg_d8.2.2.2.1
theorem dX8_isUp_24 : decode cX8_isUp 24 = .ok (.invokestatic 68, 3) := dg_d8.2.2.2.2.1
theorem dX8_isUp_27 : decode cX8_isUp 27 = .ok (.ifCond .eq 21, 3) := dg_d8.2.2.2.2.2.1
theorem dX8_isUp_30 : decode cX8_isUp 30 = .ok (.aload_n 0, 1) := dg_d8.2.2.2.2.2.2.1
theorem dX8_isUp_31 : decode cX8_isUp 31 = .ok (.getfield 13, 3) := dg_d8.2.2.2.2.2.2.2.1
theorem dX8_isUp_34 : decode cX8_isUp 34 = .ok (.bipush 28, 2) := dg_d8.2.2.2.2.2.2.2.2.1
theorem dX8_isUp_36 : decode cX8_isUp 36 = .ok (.iaload, 1) := dg_d8.2.2.2.2.2.2.2.2.2.1
theorem dX8_isUp_37 : decode cX8_isUp 37 = .ok (.iload_n 2, 1) := dg_d8.2.2.2.2.2.2.2.2.2.2.1
theorem dX8_isUp_38 : decode cX8_isUp 38 = .ok (.ishr, 1) := dg_d8.2.2.2.2.2.2.2.2.2.2.2.1
theorem dX8_isUp_39 : decode cX8_isUp 39 = .ok (.iconst 1, 1) := dg_d8.2.2.2.2.2.2.2.2.2.2.2.2.1
theorem dX8_isUp_40 : decode cX8_isUp 40 = .ok (.iand, 1) := dg_d8.2.2.2.2.2.2.2.2.2.2.2.2.2.1
theorem dX8_isUp_41 : decode cX8_isUp 41 = .ok (.ifCond .ne 7, 3) := dg_d8.2.2.2.2.2.2.2.2.2.2.2.2.2.2.1
theorem dX8_isUp_44 : decode cX8_isUp 44 = .ok (.iconst 1, 1) := dg_d8.2.2.2.2.2.2.2.2.2.2.2.2.2.2.2
theorem dg_d9 : (decode cX8_isUp 45 = .ok (.goto 4, 3)) ∧ (decode cX8_isUp 48 = .ok (.iconst 0, 1)) ∧ (decode cX8_isUp 49 = .ok (.ireturn, 1)) := by decide +kernel
theorem dX8_isUp_45 : decode cX8_isUp 45 = .ok (.goto 4, 3) := dg_d9.1
theorem dX8_isUp_48 : decode cX8_isUp 48 = .ok (.iconst 0, 1) := dg_d9.2.1
theorem dX8_isUp_49 : decode cX8_isUp 49 = .ok (.ireturn, 1) := dg_d9.2.2
theorem dg_d10 : (decode cX8_stepsOn 0 = .ok (.aload_n 0, 1)) ∧ (decode cX8_stepsOn 1 = .ok (.iload_n 2, 1)) ∧ (decode cX8_stepsOn 2 = .ok (.invokevirtual 163, 3)) ∧ (decode cX8_stepsOn 5 = .ok (.istore_n 3, 1)) ∧ (decode cX8_stepsOn 6 = .ok (.iload_n 1, 1)) ∧ (decode cX8_stepsOn 7 = .ok (.bipush 6, 2)) ∧ (decode cX8_stepsOn 9 = .ok (.if_icmp .ne 5, 3)) ∧ (decode cX8_stepsOn 12 = .ok (.iconst 1, 1)) ∧ (decode cX8_stepsOn 13 = .ok (.ireturn, 1)) ∧ (decode cX8_stepsOn 14 = .ok (.iload_n 1, 1)) ∧ (decode cX8_stepsOn 15 = .ok (.iconst 5, 1)) ∧ (decode cX8_stepsOn 16 = .ok (.if_icmp .ge 67, 3)) ∧ (decode cX8_stepsOn 19 = .ok (.aload_n 0, 1)) ∧ (decode cX8_stepsOn 20 = .ok (.iload_n 1, 1)) ∧ (decode cX8_stepsOn 21 = .ok (.iload_n 2, 1)) ∧ (decode cX8_stepsOn 22 = .ok (.invokevirtual 166, 3)) := by decide +kernel
theorem dX8_stepsOn_0 : decode cX8_stepsOn 0 = .ok (.aload_n 0, 1) := dg_d10.1
theorem dX8_stepsOn_1 : decode cX8_stepsOn 1 = .ok (.iload_n 2, 1) := dg_d10.2.1
theorem dX8_stepsOn_2 : decode cX8_stepsOn 2 = .ok (.invokevirtual 163, 3) := dg_d10.2.2.1
theorem dX8_stepsOn_5 : decode cX8_stepsOn 5 = .ok (.istore_n 3, 1) := dg_d10.2.2.2.1
theorem dX8_stepsOn_6 : decode cX8_stepsOn 6 = .ok (.iload_n 1, 1) := dg_d10.2.2.2.2.1
theorem dX8_stepsOn_7 : decode cX8_stepsOn 7 = .ok (.bipush 6, 2) := dg_d10.2.2.2.2.2.1
theorem dX8_stepsOn_9 : decode cX8_stepsOn 9 = .ok (.if_icmp .ne 5, 3) := dg_d10.2.2.2.2.2.2.1
theorem dX8_stepsOn_12 : decode cX8_stepsOn 12 = .ok (.iconst 1, 1) := dg_d10.2.2.2.2.2.2.2.1
theorem dX8_stepsOn_13 : decode cX8_stepsOn 13 = .ok (.ireturn, 1) := dg_d10.2.2.2.2.2.2.2.2.1
theorem dX8_stepsOn_14 : decode cX8_stepsOn 14 = .ok (.iload_n 1, 1) := dg_d10.2.2.2.2.2.2.2.2.2.1
theorem dX8_stepsOn_15 : decode cX8_stepsOn 15 = .ok (.iconst 5, 1) := dg_d10.2.2.2.2.2.2.2.2.2.2.1
theorem dX8_stepsOn_16 : decode cX8_stepsOn 16 = .ok (.if_icmp .ge 67, 3) := dg_d10.2.2.2.2.2.2.2.2.2.2.2.1
theorem dX8_stepsOn_19 : decode cX8_stepsOn 19 = .ok (.aload_n 0, 1) := dg_d10.2.2.2.2.2.2.2.2.2.2.2.2.1
theorem dX8_stepsOn_20 : decode cX8_stepsOn 20 = .ok (.iload_n 1, 1) := dg_d10.2.2.2.2.2.2.2.2.2.2.2.2.2.1
theorem dX8_stepsOn_21 : decode cX8_stepsOn 21 = .ok (.iload_n 2, 1) := dg_d10.2.2.2.2.2.2.2.2.2.2.2.2.2.2.1
theorem dX8_stepsOn_22 : decode cX8_stepsOn 22 = .ok (.invokevirtual 166, 3) := dg_d10.2.2.2.2.2.2.2.2.2.2.2.2.2.2.2
theorem dg_d11 : (decode cX8_stepsOn 25 = .ok (.ifCond .eq 58, 3)) ∧ (decode cX8_stepsOn 28 = .ok (.aload_n 0, 1)) ∧ (decode cX8_stepsOn 29 = .ok (.getfield 13, 3)) ∧ (decode cX8_stepsOn 32 = .ok (.bipush 30, 2)) ∧ (decode cX8_stepsOn 34 = .ok (.dup2, 1)) ∧ (decode cX8_stepsOn 35 = .ok (.iaload, 1)) ∧ (decode cX8_stepsOn 36 = .ok (.iconst 3, 1)) ∧ (decode cX8_stepsOn 37 = .ok (.iadd, 1)) ∧ (decode cX8_stepsOn 38 = .ok (.iastore, 1)) ∧ (decode cX8_stepsOn 39 = .ok (.aload_n 0, 1)) ∧ (decode cX8_stepsOn 40 = .ok (.getfield 13, 3)) ∧ (decode cX8_stepsOn 43 = .ok (.bipush 31, 2)) ∧ (decode cX8_stepsOn 45 = .ok (.dup2, 1)) ∧ (decode cX8_stepsOn 46 = .ok (.iaload, 1)) ∧ (decode cX8_stepsOn 47 = .ok (.iload_n 3, 1)) ∧ (decode cX8_stepsOn 48 = .ok (.aload_n 0, 1)) := by decide +kernel
theorem dX8_stepsOn_25 : decode cX8_stepsOn 25 = .ok (.ifCond .eq 58, 3) := dg_d11.1
theorem dX8_stepsOn_28 : decode cX8_stepsOn 28 = .ok (.aload_n 0, 1) := dg_d11.2.1
theorem dX8_stepsOn_29 : decode cX8_stepsOn 29 = .ok (.getfield 13, 3) := dg_d11.2.2.1
theorem dX8_stepsOn_32 : decode cX8_stepsOn 32 = .ok (.bipush 30, 2) := dg_d11.2.2.2.1
theorem dX8_stepsOn_34 : decode cX8_stepsOn 34 = .ok (.dup2, 1) := dg_d11.2.2.2.2.1
theorem dX8_stepsOn_35 : decode cX8_stepsOn 35 = .ok (.iaload, 1) := dg_d11.2.2.2.2.2.1
theorem dX8_stepsOn_36 : decode cX8_stepsOn 36 = .ok (.iconst 3, 1) := dg_d11.2.2.2.2.2.2.1
theorem dX8_stepsOn_37 : decode cX8_stepsOn 37 = .ok (.iadd, 1) := dg_d11.2.2.2.2.2.2.2.1
theorem dX8_stepsOn_38 : decode cX8_stepsOn 38 = .ok (.iastore, 1) := dg_d11.2.2.2.2.2.2.2.2.1
theorem dX8_stepsOn_39 : decode cX8_stepsOn 39 = .ok (.aload_n 0, 1) := dg_d11.2.2.2.2.2.2.2.2.2.1
theorem dX8_stepsOn_40 : decode cX8_stepsOn 40 = .ok (.getfield 13, 3) := dg_d11.2.2.2.2.2.2.2.2.2.2.1
theorem dX8_stepsOn_43 : decode cX8_stepsOn 43 = .ok (.bipush 31, 2) := dg_d11.2.2.2.2.2.2.2.2.2.2.2.1
theorem dX8_stepsOn_45 : decode cX8_stepsOn 45 = .ok (.dup2, 1) := dg_d11.2.2.2.2.2.2.2.2.2.2.2.2.1
theorem dX8_stepsOn_46 : decode cX8_stepsOn 46 = .ok (.iaload, 1) := dg_d11.2.2.2.2.2.2.2.2.2.2.2.2.2.1
theorem dX8_stepsOn_47 : decode cX8_stepsOn 47 = .ok (.iload_n 3, 1) := dg_d11.2.2.2.2.2.2.2.2.2.2.2.2.2.2.1
theorem dX8_stepsOn_48 : decode cX8_stepsOn 48 = .ok (.aload_n 0, 1) := dg_d11.2.2.2.2.2.2.2.2.2.2.2.2.2.2.2
theorem dg_d12 : (decode cX8_stepsOn 49 = .ok (.getfield 13, 3)) ∧ (decode cX8_stepsOn 52 = .ok (.iconst 4, 1)) ∧ (decode cX8_stepsOn 53 = .ok (.iload_n 1, 1)) ∧ (decode cX8_stepsOn 54 = .ok (.imul, 1)) ∧ (decode cX8_stepsOn 55 = .ok (.iconst 3, 1)) ∧ (decode cX8_stepsOn 56 = .ok (.iadd, 1)) ∧ (decode cX8_stepsOn 57 = .ok (.iaload, 1)) ∧ (decode cX8_stepsOn 58 = .ok (.iconst 1, 1)) ∧ (decode cX8_stepsOn 59 = .ok (.if_icmp .ne 7, 3)) ∧ (decode cX8_stepsOn 62 = .ok (.iconst 0, 1)) ∧ (decode cX8_stepsOn 63 = .ok (.goto 15, 3)) ∧ (decode cX8_stepsOn 66 = .ok (.aload_n 0, 1)) ∧ (decode cX8_stepsOn 67 = .ok (.getfield 13, 3)) ∧ (decode cX8_stepsOn 70 = .ok (.iconst 4, 1)) ∧ (decode cX8_stepsOn 71 = .ok (.iload_n 1, 1)) ∧ (decode cX8_stepsOn 72 = .ok (.imul, 1)) := by decide +kernel
theorem dX8_stepsOn_49 : decode cX8_stepsOn 49 = .ok (.getfield 13, 3) := dg_d12.1
theorem dX8_stepsOn_52 : decode cX8_stepsOn 52 = .ok (.iconst 4, 1) := dg_d12.2.1
theorem dX8_stepsOn_53 : decode cX8_stepsOn 53 = .ok (.iload_n 1, 1) := dg_d12.2.2.1
theorem dX8_stepsOn_54 : decode cX8_stepsOn 54 = .ok (.imul, 1) := dg_d12.2.2.2.1
theorem dX8_stepsOn_55 : decode cX8_stepsOn 55 = .ok (.iconst 3, 1) := dg_d12.2.2.2.2.1
theorem dX8_stepsOn_56 : decode cX8_stepsOn 56 = .ok (.iadd, 1) := dg_d12.2.2.2.2.2.1
theorem dX8_stepsOn_57 : decode cX8_stepsOn 57 = .ok (.iaload, 1) := dg_d12.2.2.2.2.2.2.1
theorem dX8_stepsOn_58 : decode cX8_stepsOn 58 = .ok (.iconst 1, 1) := dg_d12.2.2.2.2.2.2.2.1
theorem dX8_stepsOn_59 : decode cX8_stepsOn 59 = .ok (.if_icmp .ne 7, 3) := dg_d12.2.2.2.2.2.2.2.2.1
theorem dX8_stepsOn_62 : decode cX8_stepsOn 62 = .ok (.iconst 0, 1) := dg_d12.2.2.2.2.2.2.2.2.2.1
theorem dX8_stepsOn_63 : decode cX8_stepsOn 63 = .ok (.goto 15, 3) := dg_d12.2.2.2.2.2.2.2.2.2.2.1
theorem dX8_stepsOn_66 : decode cX8_stepsOn 66 = .ok (.aload_n 0, 1) := dg_d12.2.2.2.2.2.2.2.2.2.2.2.1
theorem dX8_stepsOn_67 : decode cX8_stepsOn 67 = .ok (.getfield 13, 3) := dg_d12.2.2.2.2.2.2.2.2.2.2.2.2.1
theorem dX8_stepsOn_70 : decode cX8_stepsOn 70 = .ok (.iconst 4, 1) := dg_d12.2.2.2.2.2.2.2.2.2.2.2.2.2.1
theorem dX8_stepsOn_71 : decode cX8_stepsOn 71 = .ok (.iload_n 1, 1) := dg_d12.2.2.2.2.2.2.2.2.2.2.2.2.2.2.1
theorem dX8_stepsOn_72 : decode cX8_stepsOn 72 = .ok (.imul, 1) := dg_d12.2.2.2.2.2.2.2.2.2.2.2.2.2.2.2
theorem dg_d13 : (decode cX8_stepsOn 73 = .ok (.iconst 2, 1)) ∧ (decode cX8_stepsOn 74 = .ok (.iadd, 1)) ∧ (decode cX8_stepsOn 75 = .ok (.iaload, 1)) ∧ (decode cX8_stepsOn 76 = .ok (.iconst 3, 1)) ∧ (decode cX8_stepsOn 77 = .ok (.isub, 1)) ∧ (decode cX8_stepsOn 78 = .ok (.iadd, 1)) ∧ (decode cX8_stepsOn 79 = .ok (.iadd, 1)) ∧ (decode cX8_stepsOn 80 = .ok (.iastore, 1)) ∧ (decode cX8_stepsOn 81 = .ok (.iconst 1, 1)) ∧ (decode cX8_stepsOn 82 = .ok (.ireturn, 1)) ∧ (decode cX8_stepsOn 83 = .ok (.iload_n 2, 1)) ∧ (decode cX8_stepsOn 84 = .ok (.aload_n 0, 1)) ∧ (decode cX8_stepsOn 85 = .ok (.getfield 13, 3)) ∧ (decode cX8_stepsOn 88 = .ok (.bipush 26, 2)) ∧ (decode cX8_stepsOn 90 = .ok (.iaload, 1)) ∧ (decode cX8_stepsOn 91 = .ok (.if_icmp .ge 29, 3)) := by decide +kernel
theorem dX8_stepsOn_73 : decode cX8_stepsOn 73 = .ok (.iconst 2, 1) := dg_d13.1
theorem dX8_stepsOn_74 : decode cX8_stepsOn 74 = .ok (.iadd, 1) := dg_d13.2.1
theorem dX8_stepsOn_75 : decode cX8_stepsOn 75 = .ok (.iaload, 1) := dg_d13.2.2.1
theorem dX8_stepsOn_76 : decode cX8_stepsOn 76 = .ok (.iconst 3, 1) := dg_d13.2.2.2.1
theorem dX8_stepsOn_77 : decode cX8_stepsOn 77 = .ok (.isub, 1) := dg_d13.2.2.2.2.1
theorem dX8_stepsOn_78 : decode cX8_stepsOn 78 = .ok (.iadd, 1) := dg_d13.2.2.2.2.2.1
theorem dX8_stepsOn_79 : decode cX8_stepsOn 79 = .ok (.iadd, 1) := dg_d13.2.2.2.2.2.2.1
theorem dX8_stepsOn_80 : decode cX8_stepsOn 80 = .ok (.iastore, 1) := dg_d13.2.2.2.2.2.2.2.1
theorem dX8_stepsOn_81 : decode cX8_stepsOn 81 = .ok (.iconst 1, 1) := dg_d13.2.2.2.2.2.2.2.2.1
theorem dX8_stepsOn_82 : decode cX8_stepsOn 82 = .ok (.ireturn, 1) := dg_d13.2.2.2.2.2.2.2.2.2.1
theorem dX8_stepsOn_83 : decode cX8_stepsOn 83 = .ok (.iload_n 2, 1) := dg_d13.2.2.2.2.2.2.2.2.2.2.1
theorem dX8_stepsOn_84 : decode cX8_stepsOn 84 = .ok (.aload_n 0, 1) := dg_d13.2.2.2.2.2.2.2.2.2.2.2.1
theorem dX8_stepsOn_85 : decode cX8_stepsOn 85 = .ok (.getfield 13, 3) := dg_d13.2.2.2.2.2.2.2.2.2.2.2.2.1
theorem dX8_stepsOn_88 : decode cX8_stepsOn 88 = .ok (.bipush 26, 2) := dg_d13.2.2.2.2.2.2.2.2.2.2.2.2.2.1
theorem dX8_stepsOn_90 : decode cX8_stepsOn 90 = .ok (.iaload, 1) := dg_d13.2.2.2.2.2.2.2.2.2.2.2.2.2.2.1
theorem dX8_stepsOn_91 : decode cX8_stepsOn 91 = .ok (.if_icmp .ge 29, 3) := dg_d13.2.2.2.2.2.2.2.2.2.2.2.2.2.2.2
theorem dg_d14 : (decode cX8_stepsOn 94 = .ok (.aload_n 0, 1)) ∧ (decode cX8_stepsOn 95 = .ok (.getfield 13, 3)) ∧ (decode cX8_stepsOn 98 = .ok (.bipush 30, 2)) ∧ (decode cX8_stepsOn 100 = .ok (.dup2, 1)) ∧ (decode cX8_stepsOn 101 = .ok (.iaload, 1)) ∧ (decode cX8_stepsOn 102 = .ok (.iconst 3, 1)) ∧ (decode cX8_stepsOn 103 = .ok (.iadd, 1)) ∧ (decode cX8_stepsOn 104 = .ok (.iastore, 1)) ∧ (decode cX8_stepsOn 105 = .ok (.aload_n 0, 1)) ∧ (decode cX8_stepsOn 106 = .ok (.getfield 13, 3)) ∧ (decode cX8_stepsOn 109 = .ok (.bipush 31, 2)) ∧ (decode cX8_stepsOn 111 = .ok (.dup2, 1)) ∧ (decode cX8_stepsOn 112 = .ok (.iaload, 1)) ∧ (decode cX8_stepsOn 113 = .ok (.iload_n 3, 1)) ∧ (decode cX8_stepsOn 114 = .ok (.iconst 1, 1)) ∧ (decode cX8_stepsOn 115 = .ok (.iadd, 1)) := by decide +kernel
theorem dX8_stepsOn_94 : decode cX8_stepsOn 94 = .ok (.aload_n 0, 1) := dg_d14.1
theorem dX8_stepsOn_95 : decode cX8_stepsOn 95 = .ok (.getfield 13, 3) := dg_d14.2.1
theorem dX8_stepsOn_98 : decode cX8_stepsOn 98 = .ok (.bipush 30, 2) := dg_d14.2.2.1
theorem dX8_stepsOn_100 : decode cX8_stepsOn 100 = .ok (.dup2, 1) := dg_d14.2.2.2.1
theorem dX8_stepsOn_101 : decode cX8_stepsOn 101 = .ok (.iaload, 1) := dg_d14.2.2.2.2.1
theorem dX8_stepsOn_102 : decode cX8_stepsOn 102 = .ok (.iconst 3, 1) := dg_d14.2.2.2.2.2.1
theorem dX8_stepsOn_103 : decode cX8_stepsOn 103 = .ok (.iadd, 1) := dg_d14.2.2.2.2.2.2.1
theorem dX8_stepsOn_104 : decode cX8_stepsOn 104 = .ok (.iastore, 1) := dg_d14.2.2.2.2.2.2.2.1
theorem dX8_stepsOn_105 : decode cX8_stepsOn 105 = .ok (.aload_n 0, 1) := dg_d14.2.2.2.2.2.2.2.2.1
theorem dX8_stepsOn_106 : decode cX8_stepsOn 106 = .ok (.getfield 13, 3) := dg_d14.2.2.2.2.2.2.2.2.2.1
theorem dX8_stepsOn_109 : decode cX8_stepsOn 109 = .ok (.bipush 31, 2) := dg_d14.2.2.2.2.2.2.2.2.2.2.1
theorem dX8_stepsOn_111 : decode cX8_stepsOn 111 = .ok (.dup2, 1) := dg_d14.2.2.2.2.2.2.2.2.2.2.2.1
theorem dX8_stepsOn_112 : decode cX8_stepsOn 112 = .ok (.iaload, 1) := dg_d14.2.2.2.2.2.2.2.2.2.2.2.2.1
theorem dX8_stepsOn_113 : decode cX8_stepsOn 113 = .ok (.iload_n 3, 1) := dg_d14.2.2.2.2.2.2.2.2.2.2.2.2.2.1
theorem dX8_stepsOn_114 : decode cX8_stepsOn 114 = .ok (.iconst 1, 1) := dg_d14.2.2.2.2.2.2.2.2.2.2.2.2.2.2.1
theorem dX8_stepsOn_115 : decode cX8_stepsOn 115 = .ok (.iadd, 1) := dg_d14.2.2.2.2.2.2.2.2.2.2.2.2.2.2.2
theorem dg_d15 : (decode cX8_stepsOn 116 = .ok (.iadd, 1)) ∧ (decode cX8_stepsOn 117 = .ok (.iastore, 1)) ∧ (decode cX8_stepsOn 118 = .ok (.iconst 1, 1)) ∧ (decode cX8_stepsOn 119 = .ok (.ireturn, 1)) ∧ (decode cX8_stepsOn 120 = .ok (.aload_n 0, 1)) ∧ (decode cX8_stepsOn 121 = .ok (.getfield 13, 3)) ∧ (decode cX8_stepsOn 124 = .ok (.bipush 30, 2)) ∧ (decode cX8_stepsOn 126 = .ok (.dup2, 1)) ∧ (decode cX8_stepsOn 127 = .ok (.iaload, 1)) ∧ (decode cX8_stepsOn 128 = .ok (.iconst 2, 1)) ∧ (decode cX8_stepsOn 129 = .ok (.iadd, 1)) ∧ (decode cX8_stepsOn 130 = .ok (.iastore, 1)) ∧ (decode cX8_stepsOn 131 = .ok (.aload_n 0, 1)) ∧ (decode cX8_stepsOn 132 = .ok (.getfield 13, 3)) ∧ (decode cX8_stepsOn 135 = .ok (.bipush 31, 2)) ∧ (decode cX8_stepsOn 137 = .ok (.dup2, 1)) := by decide +kernel
theorem dX8_stepsOn_116 : decode cX8_stepsOn 116 = .ok (.iadd, 1) := dg_d15.1
theorem dX8_stepsOn_117 : decode cX8_stepsOn 117 = .ok (.iastore, 1) := dg_d15.2.1
theorem dX8_stepsOn_118 : decode cX8_stepsOn 118 = .ok (.iconst 1, 1) := dg_d15.2.2.1
theorem dX8_stepsOn_119 : decode cX8_stepsOn 119 = .ok (.ireturn, 1) := dg_d15.2.2.2.1
theorem dX8_stepsOn_120 : decode cX8_stepsOn 120 = .ok (.aload_n 0, 1) := dg_d15.2.2.2.2.1
theorem dX8_stepsOn_121 : decode cX8_stepsOn 121 = .ok (.getfield 13, 3) := dg_d15.2.2.2.2.2.1
theorem dX8_stepsOn_124 : decode cX8_stepsOn 124 = .ok (.bipush 30, 2) := dg_d15.2.2.2.2.2.2.1
theorem dX8_stepsOn_126 : decode cX8_stepsOn 126 = .ok (.dup2, 1) := dg_d15.2.2.2.2.2.2.2.1
theorem dX8_stepsOn_127 : decode cX8_stepsOn 127 = .ok (.iaload, 1) := dg_d15.2.2.2.2.2.2.2.2.1
theorem dX8_stepsOn_128 : decode cX8_stepsOn 128 = .ok (.iconst 2, 1) := dg_d15.2.2.2.2.2.2.2.2.2.1
theorem dX8_stepsOn_129 : decode cX8_stepsOn 129 = .ok (.iadd, 1) := dg_d15.2.2.2.2.2.2.2.2.2.2.1
theorem dX8_stepsOn_130 : decode cX8_stepsOn 130 = .ok (.iastore, 1) := dg_d15.2.2.2.2.2.2.2.2.2.2.2.1
theorem dX8_stepsOn_131 : decode cX8_stepsOn 131 = .ok (.aload_n 0, 1) := dg_d15.2.2.2.2.2.2.2.2.2.2.2.2.1
theorem dX8_stepsOn_132 : decode cX8_stepsOn 132 = .ok (.getfield 13, 3) := dg_d15.2.2.2.2.2.2.2.2.2.2.2.2.2.1
theorem dX8_stepsOn_135 : decode cX8_stepsOn 135 = .ok (.bipush 31, 2) := dg_d15.2.2.2.2.2.2.2.2.2.2.2.2.2.2.1
theorem dX8_stepsOn_137 : decode cX8_stepsOn 137 = .ok (.dup2, 1) := dg_d15.2.2.2.2.2.2.2.2.2.2.2.2.2.2.2
theorem dg_d16 : (decode cX8_stepsOn 138 = .ok (.iaload, 1)) ∧ (decode cX8_stepsOn 139 = .ok (.iconst 2, 1)) ∧ (decode cX8_stepsOn 140 = .ok (.iload_n 3, 1)) ∧ (decode cX8_stepsOn 141 = .ok (.imul, 1)) ∧ (decode cX8_stepsOn 142 = .ok (.iconst 1, 1)) ∧ (decode cX8_stepsOn 143 = .ok (.iadd, 1)) ∧ (decode cX8_stepsOn 144 = .ok (.iadd, 1)) ∧ (decode cX8_stepsOn 145 = .ok (.iastore, 1)) ∧ (decode cX8_stepsOn 146 = .ok (.aload_n 0, 1)) ∧ (decode cX8_stepsOn 147 = .ok (.dup, 1)) ∧ (decode cX8_stepsOn 148 = .ok (.getfield 169, 3)) ∧ (decode cX8_stepsOn 151 = .ok (.iconst 1, 1)) ∧ (decode cX8_stepsOn 152 = .ok (.iadd, 1)) ∧ (decode cX8_stepsOn 153 = .ok (.putfield 169, 3)) ∧ (decode cX8_stepsOn 156 = .ok (.iconst 2, 1)) ∧ (decode cX8_stepsOn 157 = .ok (.ireturn, 1)) := by decide +kernel
theorem dX8_stepsOn_138 : decode cX8_stepsOn 138 = .ok (.iaload, 1) := dg_d16.1
theorem dX8_stepsOn_139 : decode cX8_stepsOn 139 = .ok (.iconst 2, 1) := dg_d16.2.1
theorem dX8_stepsOn_140 : decode cX8_stepsOn 140 = .ok (.iload_n 3, 1) := dg_d16.2.2.1
theorem dX8_stepsOn_141 : decode cX8_stepsOn 141 = .ok (.imul, 1) := dg_d16.2.2.2.1
theorem dX8_stepsOn_142 : decode cX8_stepsOn 142 = .ok (.iconst 1, 1) := dg_d16.2.2.2.2.1
theorem dX8_stepsOn_143 : decode cX8_stepsOn 143 = .ok (.iadd, 1) := dg_d16.2.2.2.2.2.1
theorem dX8_stepsOn_144 : decode cX8_stepsOn 144 = .ok (.iadd, 1) := dg_d16.2.2.2.2.2.2.1
theorem dX8_stepsOn_145 : decode cX8_stepsOn 145 = .ok (.iastore, 1) := dg_d16.2.2.2.2.2.2.2.1
theorem dX8_stepsOn_146 : decode cX8_stepsOn 146 = .ok (.aload_n 0, 1) := dg_d16.2.2.2.2.2.2.2.2.1
theorem dX8_stepsOn_147 : decode cX8_stepsOn 147 = .ok (.dup, 1) := dg_d16.2.2.2.2.2.2.2.2.2.1
theorem dX8_stepsOn_148 : decode cX8_stepsOn 148 = .ok (.getfield 169, 3) := dg_d16.2.2.2.2.2.2.2.2.2.2.1
theorem dX8_stepsOn_151 : decode cX8_stepsOn 151 = .ok (.iconst 1, 1) := dg_d16.2.2.2.2.2.2.2.2.2.2.2.1
theorem dX8_stepsOn_152 : decode cX8_stepsOn 152 = .ok (.iadd, 1) := dg_d16.2.2.2.2.2.2.2.2.2.2.2.2.1
theorem dX8_stepsOn_153 : decode cX8_stepsOn 153 = .ok (.putfield 169, 3) := dg_d16.2.2.2.2.2.2.2.2.2.2.2.2.2.1
theorem dX8_stepsOn_156 : decode cX8_stepsOn 156 = .ok (.iconst 2, 1) := dg_d16.2.2.2.2.2.2.2.2.2.2.2.2.2.2.1
theorem dX8_stepsOn_157 : decode cX8_stepsOn 157 = .ok (.ireturn, 1) := dg_d16.2.2.2.2.2.2.2.2.2.2.2.2.2.2.2
theorem dg_d17 : (decode cX8_canWalk 0 = .ok (.aload_n 0, 1)) ∧ (decode cX8_canWalk 1 = .ok (.getfield 13, 3)) ∧ (decode cX8_canWalk 4 = .ok (.bipush 27, 2)) ∧ (decode cX8_canWalk 6 = .ok (.iaload, 1)) ∧ (decode cX8_canWalk 7 = .ok (.ifCond .le 19, 3)) ∧ (decode cX8_canWalk 10 = .ok (.aload_n 0, 1)) ∧ (decode cX8_canWalk 11 = .ok (.getfield 13, 3)) ∧ (decode cX8_canWalk 14 = .ok (.bipush 29, 2)) ∧ (decode cX8_canWalk 16 = .ok (.iaload, 1)) ∧ (decode cX8_canWalk 17 = .ok (.bipush 10, 2)) ∧ (decode cX8_canWalk 19 = .ok (.if_icmp .ge 7, 3)) ∧ (decode cX8_canWalk 22 = .ok (.iconst 1, 1)) ∧ (decode cX8_canWalk 23 = .ok (.goto 4, 3)) ∧ (decode cX8_canWalk 26 = .ok (.iconst 0, 1)) ∧ (decode cX8_canWalk 27 = .ok (.ireturn, 1)) := by decide +kernel
theorem dX8_canWalk_0 : decode cX8_canWalk 0 = .ok (.aload_n 0, 1) := dg_d17.1
theorem dX8_canWalk_1 : decode cX8_canWalk 1 = .ok (.getfield 13, 3) := dg_d17.2.1
theorem dX8_canWalk_4 : decode cX8_canWalk 4 = .ok (.bipush 27, 2) := dg_d17.2.2.1
theorem dX8_canWalk_6 : decode cX8_canWalk 6 = .ok (.iaload, 1) := dg_d17.2.2.2.1
theorem dX8_canWalk_7 : decode cX8_canWalk 7 = .ok (.ifCond .le 19, 3) := dg_d17.2.2.2.2.1
theorem dX8_canWalk_10 : decode cX8_canWalk 10 = .ok (.aload_n 0, 1) := dg_d17.2.2.2.2.2.1
theorem dX8_canWalk_11 : decode cX8_canWalk 11 = .ok (.getfield 13, 3) := dg_d17.2.2.2.2.2.2.1
theorem dX8_canWalk_14 : decode cX8_canWalk 14 = .ok (.bipush 29, 2) := dg_d17.2.2.2.2.2.2.2.1
theorem dX8_canWalk_16 : decode cX8_canWalk 16 = .ok (.iaload, 1) := dg_d17.2.2.2.2.2.2.2.2.1
theorem dX8_canWalk_17 : decode cX8_canWalk 17 = .ok (.bipush 10, 2) := dg_d17.2.2.2.2.2.2.2.2.2.1
theorem dX8_canWalk_19 : decode cX8_canWalk 19 = .ok (.if_icmp .ge 7, 3) := dg_d17.2.2.2.2.2.2.2.2.2.2.1
theorem dX8_canWalk_22 : decode cX8_canWalk 22 = .ok (.iconst 1, 1) := dg_d17.2.2.2.2.2.2.2.2.2.2.2.1
theorem dX8_canWalk_23 : decode cX8_canWalk 23 = .ok (.goto 4, 3) := dg_d17.2.2.2.2.2.2.2.2.2.2.2.2.1
theorem dX8_canWalk_26 : decode cX8_canWalk 26 = .ok (.iconst 0, 1) := dg_d17.2.2.2.2.2.2.2.2.2.2.2.2.2.1
theorem dX8_canWalk_27 : decode cX8_canWalk 27 = .ok (.ireturn, 1) := dg_d17.2.2.2.2.2.2.2.2.2.2.2.2.2.2
theorem dg_d18 : (decode cX8_steps 0 = .ok (.aload_n 0, 1)) ∧ (decode cX8_steps 1 = .ok (.invokevirtual 172, 3)) ∧ (decode cX8_steps 4 = .ok (.ifCond .ne 5, 3)) ∧ (decode cX8_steps 7 = .ok (.iconst 0, 1)) ∧ (decode cX8_steps 8 = .ok (.ireturn, 1)) ∧ (decode cX8_steps 9 = .ok (.aload_n 0, 1)) ∧ (decode cX8_steps 10 = .ok (.iload_n 1, 1)) ∧ (decode cX8_steps 11 = .ok (.aload_n 0, 1)) ∧ (decode cX8_steps 12 = .ok (.getfield 13, 3)) ∧ (decode cX8_steps 15 = .ok (.bipush 29, 2)) ∧ (decode cX8_steps 17 = .ok (.iaload, 1)) ∧ (decode cX8_steps 18 = .ok (.invokevirtual 176, 3)) ∧ (decode cX8_steps 21 = .ok (.istore_n 2, 1)) ∧ (decode cX8_steps 22 = .ok (.aload_n 0, 1)) ∧ (decode cX8_steps 23 = .ok (.getfield 13, 3)) ∧ (decode cX8_steps 26 = .ok (.bipush 27, 2)) := by decide +kernel
theorem dX8_steps_0 : decode cX8_steps 0 = .ok (.aload_n 0, 1) := dg_d18.1
theorem dX8_steps_1 : decode cX8_steps 1 = .ok (.invokevirtual 172, 3) := dg_d18.2.1
theorem dX8_steps_4 : decode cX8_steps 4 = .ok (.ifCond .ne 5, 3) := dg_d18.2.2.1
theorem dX8_steps_7 : decode cX8_steps 7 = .ok (.iconst 0, 1) := dg_d18.2.2.2.1
theorem dX8_steps_8 : decode cX8_steps 8 = .ok (.ireturn, 1) := dg_d18.2.2.2.2.1
theorem dX8_steps_9 : decode cX8_steps 9 = .ok (.aload_n 0, 1) := dg_d18.2.2.2.2.2.1
theorem dX8_steps_10 : decode cX8_steps 10 = .ok (.iload_n 1, 1) := dg_d18.2.2.2.2.2.2.1
theorem dX8_steps_11 : decode cX8_steps 11 = .ok (.aload_n 0, 1) := dg_d18.2.2.2.2.2.2.2.1
theorem dX8_steps_12 : decode cX8_steps 12 = .ok (.getfield 13, 3) := dg_d18.2.2.2.2.2.2.2.2.1
theorem dX8_steps_15 : decode cX8_steps 15 = .ok (.bipush 29, 2) := dg_d18.2.2.2.2.2.2.2.2.2.1
theorem dX8_steps_17 : decode cX8_steps 17 = .ok (.iaload, 1) := dg_d18.2.2.2.2.2.2.2.2.2.2.1
theorem dX8_steps_18 : decode cX8_steps 18 = .ok (.invokevirtual 176, 3) := dg_d18.2.2.2.2.2.2.2.2.2.2.2.1
theorem dX8_steps_21 : decode cX8_steps 21 = .ok (.istore_n 2, 1) := dg_d18.2.2.2.2.2.2.2.2.2.2.2.2.1
theorem dX8_steps_22 : decode cX8_steps 22 = .ok (.aload_n 0, 1) := dg_d18.2.2.2.2.2.2.2.2.2.2.2.2.2.1
theorem dX8_steps_23 : decode cX8_steps 23 = .ok (.getfield 13, 3) := dg_d18.2.2.2.2.2.2.2.2.2.2.2.2.2.2.1
theorem dX8_steps_26 : decode cX8_steps 26 = .ok (.bipush 27, 2) := dg_d18.2.2.2.2.2.2.2.2.2.2.2.2.2.2.2
theorem dg_d19 : (decode cX8_steps 28 = .ok (.aload_n 0, 1)) ∧ (decode cX8_steps 29 = .ok (.getfield 13, 3)) ∧ (decode cX8_steps 32 = .ok (.bipush 27, 2)) ∧ (decode cX8_steps 34 = .ok (.iaload, 1)) ∧ (decode cX8_steps 35 = .ok (.iload_n 2, 1)) ∧ (decode cX8_steps 36 = .ok (.if_icmp .le 15, 3)) ∧ (decode cX8_steps 39 = .ok (.aload_n 0, 1)) ∧ (decode cX8_steps 40 = .ok (.getfield 13, 3)) ∧ (decode cX8_steps 43 = .ok (.bipush 27, 2)) ∧ (decode cX8_steps 45 = .ok (.iaload, 1)) ∧ (decode cX8_steps 46 = .ok (.iload_n 2, 1)) ∧ (decode cX8_steps 47 = .ok (.isub, 1)) ∧ (decode cX8_steps 48 = .ok (.goto 4, 3)) ∧ (decode cX8_steps 51 = .ok (.iconst 0, 1)) ∧ (decode cX8_steps 52 = .ok (.iastore, 1)) ∧ (decode cX8_steps 53 = .ok (.aload_n 0, 1)) := by decide +kernel
theorem dX8_steps_28 : decode cX8_steps 28 = .ok (.aload_n 0, 1) := dg_d19.1
theorem dX8_steps_29 : decode cX8_steps 29 = .ok (.getfield 13, 3) := dg_d19.2.1
theorem dX8_steps_32 : decode cX8_steps 32 = .ok (.bipush 27, 2) := dg_d19.2.2.1
theorem dX8_steps_34 : decode cX8_steps 34 = .ok (.iaload, 1) := dg_d19.2.2.2.1
theorem dX8_steps_35 : decode cX8_steps 35 = .ok (.iload_n 2, 1) := dg_d19.2.2.2.2.1
theorem dX8_steps_36 : decode cX8_steps 36 = .ok (.if_icmp .le 15, 3) := dg_d19.2.2.2.2.2.1
theorem dX8_steps_39 : decode cX8_steps 39 = .ok (.aload_n 0, 1) := dg_d19.2.2.2.2.2.2.1
theorem dX8_steps_40 : decode cX8_steps 40 = .ok (.getfield 13, 3) := dg_d19.2.2.2.2.2.2.2.1
theorem dX8_steps_43 : decode cX8_steps 43 = .ok (.bipush 27, 2) := dg_d19.2.2.2.2.2.2.2.2.1
theorem dX8_steps_45 : decode cX8_steps 45 = .ok (.iaload, 1) := dg_d19.2.2.2.2.2.2.2.2.2.1
theorem dX8_steps_46 : decode cX8_steps 46 = .ok (.iload_n 2, 1) := dg_d19.2.2.2.2.2.2.2.2.2.2.1
theorem dX8_steps_47 : decode cX8_steps 47 = .ok (.isub, 1) := dg_d19.2.2.2.2.2.2.2.2.2.2.2.1
theorem dX8_steps_48 : decode cX8_steps 48 = .ok (.goto 4, 3) := dg_d19.2.2.2.2.2.2.2.2.2.2.2.2.1
theorem dX8_steps_51 : decode cX8_steps 51 = .ok (.iconst 0, 1) := dg_d19.2.2.2.2.2.2.2.2.2.2.2.2.2.1
theorem dX8_steps_52 : decode cX8_steps 52 = .ok (.iastore, 1) := dg_d19.2.2.2.2.2.2.2.2.2.2.2.2.2.2.1
theorem dX8_steps_53 : decode cX8_steps 53 = .ok (.aload_n 0, 1) := dg_d19.2.2.2.2.2.2.2.2.2.2.2.2.2.2.2
theorem dg_d20 : (decode cX8_steps 54 = .ok (.getfield 13, 3)) ∧ (decode cX8_steps 57 = .ok (.bipush 29, 2)) ∧ (decode cX8_steps 59 = .ok (.dup2, 1)) ∧ (decode cX8_steps 60 = .ok (.iaload, 1)) ∧ (decode cX8_steps 61 = .ok (.iconst 1, 1)) ∧ (decode cX8_steps 62 = .ok (.iadd, 1)) ∧ (decode cX8_steps 63 = .ok (.iastore, 1)) ∧ (decode cX8_steps 64 = .ok (.iconst 1, 1)) ∧ (decode cX8_steps 65 = .ok (.ireturn, 1)) := by decide +kernel
theorem dX8_steps_54 : decode cX8_steps 54 = .ok (.getfield 13, 3) := dg_d20.1
theorem dX8_steps_57 : decode cX8_steps 57 = .ok (.bipush 29, 2) := dg_d20.2.1
theorem dX8_steps_59 : decode cX8_steps 59 = .ok (.dup2, 1) := dg_d20.2.2.1
theorem dX8_steps_60 : decode cX8_steps 60 = .ok (.iaload, 1) := dg_d20.2.2.2.1
theorem dX8_steps_61 : decode cX8_steps 61 = .ok (.iconst 1, 1) := dg_d20.2.2.2.2.1
theorem dX8_steps_62 : decode cX8_steps 62 = .ok (.iadd, 1) := dg_d20.2.2.2.2.2.1
theorem dX8_steps_63 : decode cX8_steps 63 = .ok (.iastore, 1) := dg_d20.2.2.2.2.2.2.1
theorem dX8_steps_64 : decode cX8_steps 64 = .ok (.iconst 1, 1) := dg_d20.2.2.2.2.2.2.2.1
theorem dX8_steps_65 : decode cX8_steps 65 = .ok (.ireturn, 1) := dg_d20.2.2.2.2.2.2.2.2
theorem dg_d21 : (decode cX8_sizeOf 0 = .ok (.iload_n 0, 1)) ∧ (decode cX8_sizeOf 1 = .ok (.ifCond .ge 8, 3)) ∧ (decode cX8_sizeOf 4 = .ok (.iload_n 0, 1)) ∧ (decode cX8_sizeOf 5 = .ok (.ineg, 1)) ∧ (decode cX8_sizeOf 6 = .ok (.goto 4, 3)) ∧ (decode cX8_sizeOf 9 = .ok (.iload_n 0, 1)) ∧ (decode cX8_sizeOf 10 = .ok (.ireturn, 1)) := by decide +kernel
theorem dX8_sizeOf_0 : decode cX8_sizeOf 0 = .ok (.iload_n 0, 1) := dg_d21.1
theorem dX8_sizeOf_1 : decode cX8_sizeOf 1 = .ok (.ifCond .ge 8, 3) := dg_d21.2.1
theorem dX8_sizeOf_4 : decode cX8_sizeOf 4 = .ok (.iload_n 0, 1) := dg_d21.2.2.1
theorem dX8_sizeOf_5 : decode cX8_sizeOf 5 = .ok (.ineg, 1) := dg_d21.2.2.2.1
theorem dX8_sizeOf_6 : decode cX8_sizeOf 6 = .ok (.goto 4, 3) := dg_d21.2.2.2.2.1
theorem dX8_sizeOf_9 : decode cX8_sizeOf 9 = .ok (.iload_n 0, 1) := dg_d21.2.2.2.2.2.1
theorem dX8_sizeOf_10 : decode cX8_sizeOf 10 = .ok (.ireturn, 1) := dg_d21.2.2.2.2.2.2
theorem dg_d22 : (decode cX8_isAtWell 0 = .ok (.aload_n 0, 1)) ∧ (decode cX8_isAtWell 1 = .ok (.getfield 13, 3)) ∧ (decode cX8_isAtWell 4 = .ok (.bipush 30, 2)) ∧ (decode cX8_isAtWell 6 = .ok (.iaload, 1)) ∧ (decode cX8_isAtWell 7 = .ok (.aload_n 0, 1)) ∧ (decode cX8_isAtWell 8 = .ok (.getfield 13, 3)) ∧ (decode cX8_isAtWell 11 = .ok (.bipush 24, 2)) ∧ (decode cX8_isAtWell 13 = .ok (.iaload, 1)) ∧ (decode cX8_isAtWell 14 = .ok (.if_icmp .lt 27, 3)) ∧ (decode cX8_isAtWell 17 = .ok (.aload_n 0, 1)) ∧ (decode cX8_isAtWell 18 = .ok (.getfield 13, 3)) ∧ (decode cX8_isAtWell 21 = .ok (.bipush 31, 2)) ∧ (decode cX8_isAtWell 23 = .ok (.iaload, 1)) ∧ (decode cX8_isAtWell 24 = .ok (.invokestatic 179, 3)) ∧ (decode cX8_isAtWell 27 = .ok (.aload_n 0, 1)) ∧ (decode cX8_isAtWell 28 = .ok (.getfield 13, 3)) := by decide +kernel
theorem dX8_isAtWell_0 : decode cX8_isAtWell 0 = .ok (.aload_n 0, 1) := dg_d22.1
theorem dX8_isAtWell_1 : decode cX8_isAtWell 1 = .ok (.getfield 13, 3) := dg_d22.2.1
theorem dX8_isAtWell_4 : decode cX8_isAtWell 4 = .ok (.bipush 30, 2) := dg_d22.2.2.1
theorem dX8_isAtWell_6 : decode cX8_isAtWell 6 = .ok (.iaload, 1) := dg_d22.2.2.2.1
theorem dX8_isAtWell_7 : decode cX8_isAtWell 7 = .ok (.aload_n 0, 1) := dg_d22.2.2.2.2.1
theorem dX8_isAtWell_8 : decode cX8_isAtWell 8 = .ok (.getfield 13, 3) := dg_d22.2.2.2.2.2.1
theorem dX8_isAtWell_11 : decode cX8_isAtWell 11 = .ok (.bipush 24, 2) := dg_d22.2.2.2.2.2.2.1
theorem dX8_isAtWell_13 : decode cX8_isAtWell 13 = .ok (.iaload, 1) := dg_d22.2.2.2.2.2.2.2.1
theorem dX8_isAtWell_14 : decode cX8_isAtWell 14 = .ok (.if_icmp .lt 27, 3) := dg_d22.2.2.2.2.2.2.2.2.1
theorem dX8_isAtWell_17 : decode cX8_isAtWell 17 = .ok (.aload_n 0, 1) := dg_d22.2.2.2.2.2.2.2.2.2.1
theorem dX8_isAtWell_18 : decode cX8_isAtWell 18 = .ok (.getfield 13, 3) := dg_d22.2.2.2.2.2.2.2.2.2.2.1
theorem dX8_isAtWell_21 : decode cX8_isAtWell 21 = .ok (.bipush 31, 2) := dg_d22.2.2.2.2.2.2.2.2.2.2.2.1
theorem dX8_isAtWell_23 : decode cX8_isAtWell 23 = .ok (.iaload, 1) := dg_d22.2.2.2.2.2.2.2.2.2.2.2.2.1
theorem dX8_isAtWell_24 : decode cX8_isAtWell 24 = .ok (.invokestatic 179, 3) := dg_d22.2.2.2.2.2.2.2.2.2.2.2.2.2.1
theorem dX8_isAtWell_27 : decode cX8_isAtWell 27 = .ok (.aload_n 0, 1) := dg_d22.2.2.2.2.2.2.2.2.2.2.2.2.2.2.1
theorem dX8_isAtWell_28 : decode cX8_isAtWell 28 = .ok (.getfield 13, 3) := dg_d22.2.2.2.2.2.2.2.2.2.2.2.2.2.2.2
theorem dg_d23 : (decode cX8_isAtWell 31 = .ok (.bipush 25, 2)) ∧ (decode cX8_isAtWell 33 = .ok (.iaload, 1)) ∧ (decode cX8_isAtWell 34 = .ok (.if_icmp .gt 7, 3)) ∧ (decode cX8_isAtWell 37 = .ok (.iconst 1, 1)) ∧ (decode cX8_isAtWell 38 = .ok (.goto 4, 3)) ∧ (decode cX8_isAtWell 41 = .ok (.iconst 0, 1)) ∧ (decode cX8_isAtWell 42 = .ok (.ireturn, 1)) := by decide +kernel
theorem dX8_isAtWell_31 : decode cX8_isAtWell 31 = .ok (.bipush 25, 2) := dg_d23.1
theorem dX8_isAtWell_33 : decode cX8_isAtWell 33 = .ok (.iaload, 1) := dg_d23.2.1
theorem dX8_isAtWell_34 : decode cX8_isAtWell 34 = .ok (.if_icmp .gt 7, 3) := dg_d23.2.2.1
theorem dX8_isAtWell_37 : decode cX8_isAtWell 37 = .ok (.iconst 1, 1) := dg_d23.2.2.2.1
theorem dX8_isAtWell_38 : decode cX8_isAtWell 38 = .ok (.goto 4, 3) := dg_d23.2.2.2.2.1
theorem dX8_isAtWell_41 : decode cX8_isAtWell 41 = .ok (.iconst 0, 1) := dg_d23.2.2.2.2.2.1
theorem dX8_isAtWell_42 : decode cX8_isAtWell 42 = .ok (.ireturn, 1) := dg_d23.2.2.2.2.2.2
theorem dg_d24 : (decode cX8_plansGo 0 = .ok (.aload_n 0, 1)) ∧ (decode cX8_plansGo 1 = .ok (.bipush (-4), 2)) ∧ (decode cX8_plansGo 3 = .ok (.putfield 182, 3)) ∧ (decode cX8_plansGo 6 = .ok (.aload_n 0, 1)) ∧ (decode cX8_plansGo 7 = .ok (.iconst 0, 1)) ∧ (decode cX8_plansGo 8 = .ok (.putfield 169, 3)) ∧ (decode cX8_plansGo 11 = .ok (.iconst 0, 1)) ∧ (decode cX8_plansGo 12 = .ok (.istore_n 1, 1)) ∧ (decode cX8_plansGo 13 = .ok (.iload_n 1, 1)) ∧ (decode cX8_plansGo 14 = .ok (.aload_n 0, 1)) ∧ (decode cX8_plansGo 15 = .ok (.getfield 13, 3)) ∧ (decode cX8_plansGo 18 = .ok (.bipush 32, 2)) ∧ (decode cX8_plansGo 20 = .ok (.iaload, 1)) ∧ (decode cX8_plansGo 21 = .ok (.if_icmp .ge 48, 3)) ∧ (decode cX8_plansGo 24 = .ok (.aload_n 0, 1)) ∧ (decode cX8_plansGo 25 = .ok (.aload_n 0, 1)) := by decide +kernel
theorem dX8_plansGo_0 : decode cX8_plansGo 0 = .ok (.aload_n 0, 1) := dg_d24.1
theorem dX8_plansGo_1 : decode cX8_plansGo 1 = .ok (.bipush (-4), 2) := dg_d24.2.1
theorem dX8_plansGo_3 : decode cX8_plansGo 3 = .ok (.putfield 182, 3) := dg_d24.2.2.1
theorem dX8_plansGo_6 : decode cX8_plansGo 6 = .ok (.aload_n 0, 1) := dg_d24.2.2.2.1
theorem dX8_plansGo_7 : decode cX8_plansGo 7 = .ok (.iconst 0, 1) := dg_d24.2.2.2.2.1
theorem dX8_plansGo_8 : decode cX8_plansGo 8 = .ok (.putfield 169, 3) := dg_d24.2.2.2.2.2.1
theorem dX8_plansGo_11 : decode cX8_plansGo 11 = .ok (.iconst 0, 1) := dg_d24.2.2.2.2.2.2.1
theorem dX8_plansGo_12 : decode cX8_plansGo 12 = .ok (.istore_n 1, 1) := dg_d24.2.2.2.2.2.2.2.1
theorem dX8_plansGo_13 : decode cX8_plansGo 13 = .ok (.iload_n 1, 1) := dg_d24.2.2.2.2.2.2.2.2.1
theorem dX8_plansGo_14 : decode cX8_plansGo 14 = .ok (.aload_n 0, 1) := dg_d24.2.2.2.2.2.2.2.2.2.1
theorem dX8_plansGo_15 : decode cX8_plansGo 15 = .ok (.getfield 13, 3) := dg_d24.2.2.2.2.2.2.2.2.2.2.1
theorem dX8_plansGo_18 : decode cX8_plansGo 18 = .ok (.bipush 32, 2) := dg_d24.2.2.2.2.2.2.2.2.2.2.2.1
theorem dX8_plansGo_20 : decode cX8_plansGo 20 = .ok (.iaload, 1) := dg_d24.2.2.2.2.2.2.2.2.2.2.2.2.1
theorem dX8_plansGo_21 : decode cX8_plansGo 21 = .ok (.if_icmp .ge 48, 3) := dg_d24.2.2.2.2.2.2.2.2.2.2.2.2.2.1
theorem dX8_plansGo_24 : decode cX8_plansGo 24 = .ok (.aload_n 0, 1) := dg_d24.2.2.2.2.2.2.2.2.2.2.2.2.2.2.1
theorem dX8_plansGo_25 : decode cX8_plansGo 25 = .ok (.aload_n 0, 1) := dg_d24.2.2.2.2.2.2.2.2.2.2.2.2.2.2.2
theorem dg_d25 : (decode cX8_plansGo 26 = .ok (.getfield 13, 3)) ∧ (decode cX8_plansGo 29 = .ok (.bipush 33, 2)) ∧ (decode cX8_plansGo 31 = .ok (.iload_n 1, 1)) ∧ (decode cX8_plansGo 32 = .ok (.iadd, 1)) ∧ (decode cX8_plansGo 33 = .ok (.iaload, 1)) ∧ (decode cX8_plansGo 34 = .ok (.invokevirtual 185, 3)) ∧ (decode cX8_plansGo 37 = .ok (.istore_n 2, 1)) ∧ (decode cX8_plansGo 38 = .ok (.aload_n 0, 1)) ∧ (decode cX8_plansGo 39 = .ok (.iload_n 2, 1)) ∧ (decode cX8_plansGo 40 = .ok (.ifCond .ne 16, 3)) ∧ (decode cX8_plansGo 43 = .ok (.aload_n 0, 1)) ∧ (decode cX8_plansGo 44 = .ok (.getfield 182, 3)) ∧ (decode cX8_plansGo 47 = .ok (.bipush (-4), 2)) ∧ (decode cX8_plansGo 49 = .ok (.if_icmp .ne 7, 3)) ∧ (decode cX8_plansGo 52 = .ok (.iload_n 1, 1)) ∧ (decode cX8_plansGo 53 = .ok (.goto 7, 3)) := by decide +kernel
theorem dX8_plansGo_26 : decode cX8_plansGo 26 = .ok (.getfield 13, 3) := dg_d25.1
theorem dX8_plansGo_29 : decode cX8_plansGo 29 = .ok (.bipush 33, 2) := dg_d25.2.1
theorem dX8_plansGo_31 : decode cX8_plansGo 31 = .ok (.iload_n 1, 1) := dg_d25.2.2.1
theorem dX8_plansGo_32 : decode cX8_plansGo 32 = .ok (.iadd, 1) := dg_d25.2.2.2.1
theorem dX8_plansGo_33 : decode cX8_plansGo 33 = .ok (.iaload, 1) := dg_d25.2.2.2.2.1
theorem dX8_plansGo_34 : decode cX8_plansGo 34 = .ok (.invokevirtual 185, 3) := dg_d25.2.2.2.2.2.1
theorem dX8_plansGo_37 : decode cX8_plansGo 37 = .ok (.istore_n 2, 1) := dg_d25.2.2.2.2.2.2.1
theorem dX8_plansGo_38 : decode cX8_plansGo 38 = .ok (.aload_n 0, 1) := dg_d25.2.2.2.2.2.2.2.1
theorem dX8_plansGo_39 : decode cX8_plansGo 39 = .ok (.iload_n 2, 1) := dg_d25.2.2.2.2.2.2.2.2.1
theorem dX8_plansGo_40 : decode cX8_plansGo 40 = .ok (.ifCond .ne 16, 3) := dg_d25.2.2.2.2.2.2.2.2.2.1
theorem dX8_plansGo_43 : decode cX8_plansGo 43 = .ok (.aload_n 0, 1) := dg_d25.2.2.2.2.2.2.2.2.2.2.1
theorem dX8_plansGo_44 : decode cX8_plansGo 44 = .ok (.getfield 182, 3) := dg_d25.2.2.2.2.2.2.2.2.2.2.2.1
theorem dX8_plansGo_47 : decode cX8_plansGo 47 = .ok (.bipush (-4), 2) := dg_d25.2.2.2.2.2.2.2.2.2.2.2.2.1
theorem dX8_plansGo_49 : decode cX8_plansGo 49 = .ok (.if_icmp .ne 7, 3) := dg_d25.2.2.2.2.2.2.2.2.2.2.2.2.2.1
theorem dX8_plansGo_52 : decode cX8_plansGo 52 = .ok (.iload_n 1, 1) := dg_d25.2.2.2.2.2.2.2.2.2.2.2.2.2.2.1
theorem dX8_plansGo_53 : decode cX8_plansGo 53 = .ok (.goto 7, 3) := dg_d25.2.2.2.2.2.2.2.2.2.2.2.2.2.2.2
theorem dg_d26 : (decode cX8_plansGo 56 = .ok (.aload_n 0, 1)) ∧ (decode cX8_plansGo 57 = .ok (.getfield 182, 3)) ∧ (decode cX8_plansGo 60 = .ok (.putfield 182, 3)) ∧ (decode cX8_plansGo 63 = .ok (.iinc 1 1, 3)) ∧ (decode cX8_plansGo 66 = .ok (.goto (-53), 3)) ∧ (decode cX8_plansGo 69 = .ok (.return_, 1)) := by decide +kernel
theorem dX8_plansGo_56 : decode cX8_plansGo 56 = .ok (.aload_n 0, 1) := dg_d26.1
theorem dX8_plansGo_57 : decode cX8_plansGo 57 = .ok (.getfield 182, 3) := dg_d26.2.1
theorem dX8_plansGo_60 : decode cX8_plansGo 60 = .ok (.putfield 182, 3) := dg_d26.2.2.1
theorem dX8_plansGo_63 : decode cX8_plansGo 63 = .ok (.iinc 1 1, 3) := dg_d26.2.2.2.1
theorem dX8_plansGo_66 : decode cX8_plansGo 66 = .ok (.goto (-53), 3) := dg_d26.2.2.2.2.1
theorem dX8_plansGo_69 : decode cX8_plansGo 69 = .ok (.return_, 1) := dg_d26.2.2.2.2.2
theorem dg_d27 : (decode cX8_rule 0 = .ok (.aload_n 0, 1)) ∧ (decode cX8_rule 1 = .ok (.invokevirtual 188, 3)) ∧ (decode cX8_rule 4 = .ok (.iload_n 1, 1)) ∧ (decode cX8_rule 5 = .ok (.tableswitch 117 0 12 #[67, 72, 77, 77, 77, 77, 77, 77, 77, 77, 89, 101, 109], 67)) ∧ (decode cX8_rule 72 = .ok (.aload_n 0, 1)) ∧ (decode cX8_rule 73 = .ok (.getfield 60, 3)) ∧ (decode cX8_rule 76 = .ok (.ireturn, 1)) ∧ (decode cX8_rule 77 = .ok (.aload_n 0, 1)) ∧ (decode cX8_rule 78 = .ok (.getfield 63, 3)) ∧ (decode cX8_rule 81 = .ok (.ireturn, 1)) ∧ (decode cX8_rule 82 = .ok (.aload_n 0, 1)) ∧ (decode cX8_rule 83 = .ok (.getfield 7, 3)) ∧ (decode cX8_rule 86 = .ok (.bipush 23, 2)) ∧ (decode cX8_rule 88 = .ok (.iload_n 1, 1)) ∧ (decode cX8_rule 89 = .ok (.iadd, 1)) ∧ (decode cX8_rule 90 = .ok (.iconst 2, 1)) := by decide +kernel
theorem dX8_rule_0 : decode cX8_rule 0 = .ok (.aload_n 0, 1) := dg_d27.1
theorem dX8_rule_1 : decode cX8_rule 1 = .ok (.invokevirtual 188, 3) := dg_d27.2.1
theorem dX8_rule_4 : decode cX8_rule 4 = .ok (.iload_n 1, 1) := dg_d27.2.2.1
theorem dX8_rule_5 : decode cX8_rule 5 = .ok (.tableswitch 117 0 12 #[67, 72, 77, 77, 77, 77, 77, 77, 77, 77, 89, 101, 109], 67) := dg_d27.2.2.2.1
theorem dX8_rule_72 : decode cX8_rule 72 = .ok (.aload_n 0, 1) := dg_d27.2.2.2.2.1
theorem dX8_rule_73 : decode cX8_rule 73 = .ok (.getfield 60, 3) := dg_d27.2.2.2.2.2.1
theorem dX8_rule_76 : decode cX8_rule 76 = .ok (.ireturn, 1) := dg_d27.2.2.2.2.2.2.1
theorem dX8_rule_77 : decode cX8_rule 77 = .ok (.aload_n 0, 1) := dg_d27.2.2.2.2.2.2.2.1
theorem dX8_rule_78 : decode cX8_rule 78 = .ok (.getfield 63, 3) := dg_d27.2.2.2.2.2.2.2.2.1
theorem dX8_rule_81 : decode cX8_rule 81 = .ok (.ireturn, 1) := dg_d27.2.2.2.2.2.2.2.2.2.1
theorem dX8_rule_82 : decode cX8_rule 82 = .ok (.aload_n 0, 1) := dg_d27.2.2.2.2.2.2.2.2.2.2.1
theorem dX8_rule_83 : decode cX8_rule 83 = .ok (.getfield 7, 3) := dg_d27.2.2.2.2.2.2.2.2.2.2.2.1
theorem dX8_rule_86 : decode cX8_rule 86 = .ok (.bipush 23, 2) := dg_d27.2.2.2.2.2.2.2.2.2.2.2.2.1
theorem dX8_rule_88 : decode cX8_rule 88 = .ok (.iload_n 1, 1) := dg_d27.2.2.2.2.2.2.2.2.2.2.2.2.2.1
theorem dX8_rule_89 : decode cX8_rule 89 = .ok (.iadd, 1) := dg_d27.2.2.2.2.2.2.2.2.2.2.2.2.2.2.1
theorem dX8_rule_90 : decode cX8_rule 90 = .ok (.iconst 2, 1) := dg_d27.2.2.2.2.2.2.2.2.2.2.2.2.2.2.2
theorem dg_d28 : (decode cX8_rule 91 = .ok (.isub, 1)) ∧ (decode cX8_rule 92 = .ok (.iaload, 1)) ∧ (decode cX8_rule 93 = .ok (.ireturn, 1)) ∧ (decode cX8_rule 94 = .ok (.sipush 1000, 3)) ∧ (decode cX8_rule 97 = .ok (.aload_n 0, 1)) ∧ (decode cX8_rule 98 = .ok (.getfield 7, 3)) ∧ (decode cX8_rule 101 = .ok (.bipush 31, 2)) ∧ (decode cX8_rule 103 = .ok (.iaload, 1)) ∧ (decode cX8_rule 104 = .ok (.iadd, 1)) ∧ (decode cX8_rule 105 = .ok (.ireturn, 1)) ∧ (decode cX8_rule 106 = .ok (.aload_n 0, 1)) ∧ (decode cX8_rule 107 = .ok (.invokevirtual 191, 3)) ∧ (decode cX8_rule 110 = .ok (.invokestatic 194, 3)) ∧ (decode cX8_rule 113 = .ok (.ireturn, 1)) ∧ (decode cX8_rule 114 = .ok (.aload_n 0, 1)) ∧ (decode cX8_rule 115 = .ok (.getfield 7, 3)) := by decide +kernel
theorem dX8_rule_91 : decode cX8_rule 91 = .ok (.isub, 1) := dg_d28.1
theorem dX8_rule_92 : decode cX8_rule 92 = .ok (.iaload, 1) := dg_d28.2.1
theorem dX8_rule_93 : decode cX8_rule 93 = .ok (.ireturn, 1) := dg_d28.2.2.1
theorem dX8_rule_94 : decode cX8_rule 94 = .ok (.sipush 1000, 3) := dg_d28.2.2.2.1
theorem dX8_rule_97 : decode cX8_rule 97 = .ok (.aload_n 0, 1) := dg_d28.2.2.2.2.1
theorem dX8_rule_98 : decode cX8_rule 98 = .ok (.getfield 7, 3) := dg_d28.2.2.2.2.2.1
theorem dX8_rule_101 : decode cX8_rule 101 = .ok (.bipush 31, 2) := dg_d28.2.2.2.2.2.2.1
theorem dX8_rule_103 : decode cX8_rule 103 = .ok (.iaload, 1) := dg_d28.2.2.2.2.2.2.2.1
theorem dX8_rule_104 : decode cX8_rule 104 = .ok (.iadd, 1) := dg_d28.2.2.2.2.2.2.2.2.1
theorem dX8_rule_105 : decode cX8_rule 105 = .ok (.ireturn, 1) := dg_d28.2.2.2.2.2.2.2.2.2.1
theorem dX8_rule_106 : decode cX8_rule 106 = .ok (.aload_n 0, 1) := dg_d28.2.2.2.2.2.2.2.2.2.2.1
theorem dX8_rule_107 : decode cX8_rule 107 = .ok (.invokevirtual 191, 3) := dg_d28.2.2.2.2.2.2.2.2.2.2.2.1
theorem dX8_rule_110 : decode cX8_rule 110 = .ok (.invokestatic 194, 3) := dg_d28.2.2.2.2.2.2.2.2.2.2.2.2.1
theorem dX8_rule_113 : decode cX8_rule 113 = .ok (.ireturn, 1) := dg_d28.2.2.2.2.2.2.2.2.2.2.2.2.2.1
theorem dX8_rule_114 : decode cX8_rule 114 = .ok (.aload_n 0, 1) := dg_d28.2.2.2.2.2.2.2.2.2.2.2.2.2.2.1
theorem dX8_rule_115 : decode cX8_rule 115 = .ok (.getfield 7, 3) := dg_d28.2.2.2.2.2.2.2.2.2.2.2.2.2.2.2
theorem dg_d29 : (decode cX8_rule 118 = .ok (.bipush 32, 2)) ∧ (decode cX8_rule 120 = .ok (.iaload, 1)) ∧ (decode cX8_rule 121 = .ok (.ireturn, 1)) ∧ (decode cX8_rule 122 = .ok (.iconst (-1), 1)) ∧ (decode cX8_rule 123 = .ok (.ireturn, 1)) := by decide +kernel
theorem dX8_rule_118 : decode cX8_rule 118 = .ok (.bipush 32, 2) := dg_d29.1
theorem dX8_rule_120 : decode cX8_rule 120 = .ok (.iaload, 1) := dg_d29.2.1
theorem dX8_rule_121 : decode cX8_rule 121 = .ok (.ireturn, 1) := dg_d29.2.2.1
theorem dX8_rule_122 : decode cX8_rule 122 = .ok (.iconst (-1), 1) := dg_d29.2.2.2.1
theorem dX8_rule_123 : decode cX8_rule 123 = .ok (.ireturn, 1) := dg_d29.2.2.2.2
theorem dg_d30 : (decode cX8_star 0 = .ok (.aload_n 0, 1)) ∧ (decode cX8_star 1 = .ok (.iload_n 1, 1)) ∧ (decode cX8_star 2 = .ok (.invokevirtual 150, 3)) ∧ (decode cX8_star 5 = .ok (.ifCond .eq 28, 3)) ∧ (decode cX8_star 8 = .ok (.iload_n 2, 1)) ∧ (decode cX8_star 9 = .ok (.i2l, 1)) ∧ (decode cX8_star 10 = .ok (.lconst 0, 1)) ∧ (decode cX8_star 11 = .ok (.ldc2_w 198, 3)) ∧ (decode cX8_star 14 = .ok (.invokestatic 68, 3)) ∧ (decode cX8_star 17 = .ok (.ifCond .eq 16, 3)) ∧ (decode cX8_star 20 = .ok (.aload_n 0, 1)) ∧ (decode cX8_star 21 = .ok (.getfield 7, 3)) ∧ (decode cX8_star 24 = .ok (.iconst 4, 1)) ∧ (decode cX8_star 25 = .ok (.iload_n 1, 1)) ∧ (decode cX8_star 26 = .ok (.imul, 1)) ∧ (decode cX8_star 27 = .ok (.iload_n 2, 1)) := by decide +kernel
theorem dX8_star_0 : decode cX8_star 0 = .ok (.aload_n 0, 1) := dg_d30.1
theorem dX8_star_1 : decode cX8_star 1 = .ok (.iload_n 1, 1) := dg_d30.2.1
theorem dX8_star_2 : decode cX8_star 2 = .ok (.invokevirtual 150, 3) := dg_d30.2.2.1
theorem dX8_star_5 : decode cX8_star 5 = .ok (.ifCond .eq 28, 3) := dg_d30.2.2.2.1
theorem dX8_star_8 : decode cX8_star 8 = .ok (.iload_n 2, 1) := dg_d30.2.2.2.2.1
theorem dX8_star_9 : decode cX8_star 9 = .ok (.i2l, 1) := dg_d30.2.2.2.2.2.1
theorem dX8_star_10 : decode cX8_star 10 = .ok (.lconst 0, 1) := dg_d30.2.2.2.2.2.2.1
theorem dX8_star_11 : decode cX8_star 11 = .ok (.ldc2_w 198, 3) := dg_d30.2.2.2.2.2.2.2.1
theorem dX8_star_14 : decode cX8_star 14 = .ok (.invokestatic 68, 3) := dg_d30.2.2.2.2.2.2.2.2.1
theorem dX8_star_17 : decode cX8_star 17 = .ok (.ifCond .eq 16, 3) := dg_d30.2.2.2.2.2.2.2.2.2.1
theorem dX8_star_20 : decode cX8_star 20 = .ok (.aload_n 0, 1) := dg_d30.2.2.2.2.2.2.2.2.2.2.1
theorem dX8_star_21 : decode cX8_star 21 = .ok (.getfield 7, 3) := dg_d30.2.2.2.2.2.2.2.2.2.2.2.1
theorem dX8_star_24 : decode cX8_star 24 = .ok (.iconst 4, 1) := dg_d30.2.2.2.2.2.2.2.2.2.2.2.2.1
theorem dX8_star_25 : decode cX8_star 25 = .ok (.iload_n 1, 1) := dg_d30.2.2.2.2.2.2.2.2.2.2.2.2.2.1
theorem dX8_star_26 : decode cX8_star 26 = .ok (.imul, 1) := dg_d30.2.2.2.2.2.2.2.2.2.2.2.2.2.2.1
theorem dX8_star_27 : decode cX8_star 27 = .ok (.iload_n 2, 1) := dg_d30.2.2.2.2.2.2.2.2.2.2.2.2.2.2.2
theorem dg_d31 : (decode cX8_star 28 = .ok (.iadd, 1)) ∧ (decode cX8_star 29 = .ok (.iaload, 1)) ∧ (decode cX8_star 30 = .ok (.goto 4, 3)) ∧ (decode cX8_star 33 = .ok (.iconst (-1), 1)) ∧ (decode cX8_star 34 = .ok (.ireturn, 1)) := by decide +kernel
theorem dX8_star_28 : decode cX8_star 28 = .ok (.iadd, 1) := dg_d31.1
theorem dX8_star_29 : decode cX8_star 29 = .ok (.iaload, 1) := dg_d31.2.1
theorem dX8_star_30 : decode cX8_star 30 = .ok (.goto 4, 3) := dg_d31.2.2.1
theorem dX8_star_33 : decode cX8_star 33 = .ok (.iconst (-1), 1) := dg_d31.2.2.2.1
theorem dX8_star_34 : decode cX8_star 34 = .ok (.ireturn, 1) := dg_d31.2.2.2.2
theorem dg_d32 : (decode cX8_walker 0 = .ok (.aload_n 0, 1)) ∧ (decode cX8_walker 1 = .ok (.iload_n 1, 1)) ∧ (decode cX8_walker 2 = .ok (.invokevirtual 200, 3)) ∧ (decode cX8_walker 5 = .ok (.ifCond .eq 15, 3)) ∧ (decode cX8_walker 8 = .ok (.aload_n 0, 1)) ∧ (decode cX8_walker 9 = .ok (.getfield 7, 3)) ∧ (decode cX8_walker 12 = .ok (.bipush 20, 2)) ∧ (decode cX8_walker 14 = .ok (.iload_n 1, 1)) ∧ (decode cX8_walker 15 = .ok (.iadd, 1)) ∧ (decode cX8_walker 16 = .ok (.iaload, 1)) ∧ (decode cX8_walker 17 = .ok (.goto 4, 3)) ∧ (decode cX8_walker 20 = .ok (.iconst (-1), 1)) ∧ (decode cX8_walker 21 = .ok (.ireturn, 1)) := by decide +kernel
theorem dX8_walker_0 : decode cX8_walker 0 = .ok (.aload_n 0, 1) := dg_d32.1
theorem dX8_walker_1 : decode cX8_walker 1 = .ok (.iload_n 1, 1) := dg_d32.2.1
theorem dX8_walker_2 : decode cX8_walker 2 = .ok (.invokevirtual 200, 3) := dg_d32.2.2.1
theorem dX8_walker_5 : decode cX8_walker 5 = .ok (.ifCond .eq 15, 3) := dg_d32.2.2.2.1
theorem dX8_walker_8 : decode cX8_walker 8 = .ok (.aload_n 0, 1) := dg_d32.2.2.2.2.1
theorem dX8_walker_9 : decode cX8_walker 9 = .ok (.getfield 7, 3) := dg_d32.2.2.2.2.2.1
theorem dX8_walker_12 : decode cX8_walker 12 = .ok (.bipush 20, 2) := dg_d32.2.2.2.2.2.2.1
theorem dX8_walker_14 : decode cX8_walker 14 = .ok (.iload_n 1, 1) := dg_d32.2.2.2.2.2.2.2.1
theorem dX8_walker_15 : decode cX8_walker 15 = .ok (.iadd, 1) := dg_d32.2.2.2.2.2.2.2.2.1
theorem dX8_walker_16 : decode cX8_walker 16 = .ok (.iaload, 1) := dg_d32.2.2.2.2.2.2.2.2.2.1
theorem dX8_walker_17 : decode cX8_walker 17 = .ok (.goto 4, 3) := dg_d32.2.2.2.2.2.2.2.2.2.2.1
theorem dX8_walker_20 : decode cX8_walker 20 = .ok (.iconst (-1), 1) := dg_d32.2.2.2.2.2.2.2.2.2.2.2.1
theorem dX8_walker_21 : decode cX8_walker 21 = .ok (.ireturn, 1) := dg_d32.2.2.2.2.2.2.2.2.2.2.2.2
theorem dg_d33 : (decode cX8_plan 0 = .ok (.iload_n 1, 1)) ∧ (decode cX8_plan 1 = .ok (.i2l, 1)) ∧ (decode cX8_plan 2 = .ok (.lconst 0, 1)) ∧ (decode cX8_plan 3 = .ok (.aload_n 0, 1)) ∧ (decode cX8_plan 4 = .ok (.getfield 7, 3)) ∧ (decode cX8_plan 7 = .ok (.bipush 32, 2)) ∧ (decode cX8_plan 9 = .ok (.iaload, 1)) ∧ (decode cX8_plan 10 = .ok (.iconst 1, 1)) ∧ (decode cX8_plan 11 = .ok (.isub, 1)) ∧ (decode cX8_plan 12 = .ok (.i2l, 1)) ∧ (decode cX8_plan 13 = .ok (.invokestatic 68, 3)) ∧ (decode cX8_plan 16 = .ok (.ifCond .eq 15, 3)) ∧ (decode cX8_plan 19 = .ok (.aload_n 0, 1)) ∧ (decode cX8_plan 20 = .ok (.getfield 7, 3)) ∧ (decode cX8_plan 23 = .ok (.bipush 33, 2)) ∧ (decode cX8_plan 25 = .ok (.iload_n 1, 1)) := by decide +kernel
theorem dX8_plan_0 : decode cX8_plan 0 = .ok (.iload_n 1, 1) := dg_d33.1
theorem dX8_plan_1 : decode cX8_plan 1 = .ok (.i2l, 1) := dg_d33.2.1
theorem dX8_plan_2 : decode cX8_plan 2 = .ok (.lconst 0, 1) := dg_d33.2.2.1
theorem dX8_plan_3 : decode cX8_plan 3 = .ok (.aload_n 0, 1) := dg_d33.2.2.2.1
theorem dX8_plan_4 : decode cX8_plan 4 = .ok (.getfield 7, 3) := dg_d33.2.2.2.2.1
theorem dX8_plan_7 : decode cX8_plan 7 = .ok (.bipush 32, 2) := dg_d33.2.2.2.2.2.1
theorem dX8_plan_9 : decode cX8_plan 9 = .ok (.iaload, 1) := dg_d33.2.2.2.2.2.2.1
theorem dX8_plan_10 : decode cX8_plan 10 = .ok (.iconst 1, 1) := dg_d33.2.2.2.2.2.2.2.1
theorem dX8_plan_11 : decode cX8_plan 11 = .ok (.isub, 1) := dg_d33.2.2.2.2.2.2.2.2.1
theorem dX8_plan_12 : decode cX8_plan 12 = .ok (.i2l, 1) := dg_d33.2.2.2.2.2.2.2.2.2.1
theorem dX8_plan_13 : decode cX8_plan 13 = .ok (.invokestatic 68, 3) := dg_d33.2.2.2.2.2.2.2.2.2.2.1
theorem dX8_plan_16 : decode cX8_plan 16 = .ok (.ifCond .eq 15, 3) := dg_d33.2.2.2.2.2.2.2.2.2.2.2.1
theorem dX8_plan_19 : decode cX8_plan 19 = .ok (.aload_n 0, 1) := dg_d33.2.2.2.2.2.2.2.2.2.2.2.2.1
theorem dX8_plan_20 : decode cX8_plan 20 = .ok (.getfield 7, 3) := dg_d33.2.2.2.2.2.2.2.2.2.2.2.2.2.1
theorem dX8_plan_23 : decode cX8_plan 23 = .ok (.bipush 33, 2) := dg_d33.2.2.2.2.2.2.2.2.2.2.2.2.2.2.1
theorem dX8_plan_25 : decode cX8_plan 25 = .ok (.iload_n 1, 1) := dg_d33.2.2.2.2.2.2.2.2.2.2.2.2.2.2.2
theorem dg_d34 : (decode cX8_plan 26 = .ok (.iadd, 1)) ∧ (decode cX8_plan 27 = .ok (.iaload, 1)) ∧ (decode cX8_plan 28 = .ok (.goto 4, 3)) ∧ (decode cX8_plan 31 = .ok (.iconst (-1), 1)) ∧ (decode cX8_plan 32 = .ok (.ireturn, 1)) := by decide +kernel
theorem dX8_plan_26 : decode cX8_plan 26 = .ok (.iadd, 1) := dg_d34.1
theorem dX8_plan_27 : decode cX8_plan 27 = .ok (.iaload, 1) := dg_d34.2.1
theorem dX8_plan_28 : decode cX8_plan 28 = .ok (.goto 4, 3) := dg_d34.2.2.1
theorem dX8_plan_31 : decode cX8_plan 31 = .ok (.iconst (-1), 1) := dg_d34.2.2.2.1
theorem dX8_plan_32 : decode cX8_plan 32 = .ok (.ireturn, 1) := dg_d34.2.2.2.2
theorem dg_d35 : (decode cX8_becomes 0 = .ok (.aload_n 0, 1)) ∧ (decode cX8_becomes 1 = .ok (.getfield 7, 3)) ∧ (decode cX8_becomes 4 = .ok (.iload_n 1, 1)) ∧ (decode cX8_becomes 5 = .ok (.iaload, 1)) ∧ (decode cX8_becomes 6 = .ok (.istore_n 3, 1)) ∧ (decode cX8_becomes 7 = .ok (.aload_n 0, 1)) ∧ (decode cX8_becomes 8 = .ok (.getfield 7, 3)) ∧ (decode cX8_becomes 11 = .ok (.iload_n 1, 1)) ∧ (decode cX8_becomes 12 = .ok (.iload_n 2, 1)) ∧ (decode cX8_becomes 13 = .ok (.iastore, 1)) ∧ (decode cX8_becomes 14 = .ok (.iload_n 3, 1)) ∧ (decode cX8_becomes 15 = .ok (.ireturn, 1)) := by decide +kernel
theorem dX8_becomes_0 : decode cX8_becomes 0 = .ok (.aload_n 0, 1) := dg_d35.1
theorem dX8_becomes_1 : decode cX8_becomes 1 = .ok (.getfield 7, 3) := dg_d35.2.1
theorem dX8_becomes_4 : decode cX8_becomes 4 = .ok (.iload_n 1, 1) := dg_d35.2.2.1
theorem dX8_becomes_5 : decode cX8_becomes 5 = .ok (.iaload, 1) := dg_d35.2.2.2.1
theorem dX8_becomes_6 : decode cX8_becomes 6 = .ok (.istore_n 3, 1) := dg_d35.2.2.2.2.1
theorem dX8_becomes_7 : decode cX8_becomes 7 = .ok (.aload_n 0, 1) := dg_d35.2.2.2.2.2.1
theorem dX8_becomes_8 : decode cX8_becomes 8 = .ok (.getfield 7, 3) := dg_d35.2.2.2.2.2.2.1
theorem dX8_becomes_11 : decode cX8_becomes 11 = .ok (.iload_n 1, 1) := dg_d35.2.2.2.2.2.2.2.1
theorem dX8_becomes_12 : decode cX8_becomes 12 = .ok (.iload_n 2, 1) := dg_d35.2.2.2.2.2.2.2.2.1
theorem dX8_becomes_13 : decode cX8_becomes 13 = .ok (.iastore, 1) := dg_d35.2.2.2.2.2.2.2.2.2.1
theorem dX8_becomes_14 : decode cX8_becomes 14 = .ok (.iload_n 3, 1) := dg_d35.2.2.2.2.2.2.2.2.2.2.1
theorem dX8_becomes_15 : decode cX8_becomes 15 = .ok (.ireturn, 1) := dg_d35.2.2.2.2.2.2.2.2.2.2.2
theorem dg_d36 : (decode cX8_canBe 0 = .ok (.iload_n 1, 1)) ∧ (decode cX8_canBe 1 = .ok (.tableswitch 81 2 6 #[35, 41, 51, 61, 71], 35)) ∧ (decode cX8_canBe 36 = .ok (.aload_n 0, 1)) ∧ (decode cX8_canBe 37 = .ok (.iload_n 2, 1)) ∧ (decode cX8_canBe 38 = .ok (.invokevirtual 200, 3)) ∧ (decode cX8_canBe 41 = .ok (.ireturn, 1)) ∧ (decode cX8_canBe 42 = .ok (.iload_n 2, 1)) ∧ (decode cX8_canBe 43 = .ok (.i2l, 1)) ∧ (decode cX8_canBe 44 = .ok (.lconst 1, 1)) ∧ (decode cX8_canBe 45 = .ok (.ldc2_w 203, 3)) ∧ (decode cX8_canBe 48 = .ok (.invokestatic 68, 3)) ∧ (decode cX8_canBe 51 = .ok (.ireturn, 1)) ∧ (decode cX8_canBe 52 = .ok (.iload_n 2, 1)) ∧ (decode cX8_canBe 53 = .ok (.i2l, 1)) ∧ (decode cX8_canBe 54 = .ok (.lconst 0, 1)) ∧ (decode cX8_canBe 55 = .ok (.ldc2_w 158, 3)) := by decide +kernel
theorem dX8_canBe_0 : decode cX8_canBe 0 = .ok (.iload_n 1, 1) := dg_d36.1
theorem dX8_canBe_1 : decode cX8_canBe 1 = .ok (.tableswitch 81 2 6 #[35, 41, 51, 61, 71], 35) := dg_d36.2.1
theorem dX8_canBe_36 : decode cX8_canBe 36 = .ok (.aload_n 0, 1) := dg_d36.2.2.1
theorem dX8_canBe_37 : decode cX8_canBe 37 = .ok (.iload_n 2, 1) := dg_d36.2.2.2.1
theorem dX8_canBe_38 : decode cX8_canBe 38 = .ok (.invokevirtual 200, 3) := dg_d36.2.2.2.2.1
theorem dX8_canBe_41 : decode cX8_canBe 41 = .ok (.ireturn, 1) := dg_d36.2.2.2.2.2.1
theorem dX8_canBe_42 : decode cX8_canBe 42 = .ok (.iload_n 2, 1) := dg_d36.2.2.2.2.2.2.1
theorem dX8_canBe_43 : decode cX8_canBe 43 = .ok (.i2l, 1) := dg_d36.2.2.2.2.2.2.2.1
theorem dX8_canBe_44 : decode cX8_canBe 44 = .ok (.lconst 1, 1) := dg_d36.2.2.2.2.2.2.2.2.1
theorem dX8_canBe_45 : decode cX8_canBe 45 = .ok (.ldc2_w 203, 3) := dg_d36.2.2.2.2.2.2.2.2.2.1
theorem dX8_canBe_48 : decode cX8_canBe 48 = .ok (.invokestatic 68, 3) := dg_d36.2.2.2.2.2.2.2.2.2.2.1
theorem dX8_canBe_51 : decode cX8_canBe 51 = .ok (.ireturn, 1) := dg_d36.2.2.2.2.2.2.2.2.2.2.2.1
theorem dX8_canBe_52 : decode cX8_canBe 52 = .ok (.iload_n 2, 1) := dg_d36.2.2.2.2.2.2.2.2.2.2.2.2.1
theorem dX8_canBe_53 : decode cX8_canBe 53 = .ok (.i2l, 1) := dg_d36.2.2.2.2.2.2.2.2.2.2.2.2.2.1
theorem dX8_canBe_54 : decode cX8_canBe 54 = .ok (.lconst 0, 1) := dg_d36.2.2.2.2.2.2.2.2.2.2.2.2.2.2.1
theorem dX8_canBe_55 : decode cX8_canBe 55 = .ok (.ldc2_w 158, 3) := dg_d36.2.2.2.2.2.2.2.2.2.2.2.2.2.2.2
theorem dg_d37 : (decode cX8_canBe 58 = .ok (.invokestatic 68, 3)) ∧ (decode cX8_canBe 61 = .ok (.ireturn, 1)) ∧ (decode cX8_canBe 62 = .ok (.iload_n 2, 1)) ∧ (decode cX8_canBe 63 = .ok (.i2l, 1)) ∧ (decode cX8_canBe 64 = .ok (.lconst 0, 1)) ∧ (decode cX8_canBe 65 = .ok (.ldc2_w 205, 3)) ∧ (decode cX8_canBe 68 = .ok (.invokestatic 68, 3)) ∧ (decode cX8_canBe 71 = .ok (.ireturn, 1)) ∧ (decode cX8_canBe 72 = .ok (.iload_n 2, 1)) ∧ (decode cX8_canBe 73 = .ok (.i2l, 1)) ∧ (decode cX8_canBe 74 = .ok (.lconst 0, 1)) ∧ (decode cX8_canBe 75 = .ok (.ldc2_w 207, 3)) ∧ (decode cX8_canBe 78 = .ok (.invokestatic 68, 3)) ∧ (decode cX8_canBe 81 = .ok (.ireturn, 1)) ∧ (decode cX8_canBe 82 = .ok (.iconst 0, 1)) ∧ (decode cX8_canBe 83 = .ok (.ireturn, 1)) := by decide +kernel
theorem dX8_canBe_58 : decode cX8_canBe 58 = .ok (.invokestatic 68, 3) := dg_d37.1
theorem dX8_canBe_61 : decode cX8_canBe 61 = .ok (.ireturn, 1) := dg_d37.2.1
theorem dX8_canBe_62 : decode cX8_canBe 62 = .ok (.iload_n 2, 1) := dg_d37.2.2.1
theorem dX8_canBe_63 : decode cX8_canBe 63 = .ok (.i2l, 1) := dg_d37.2.2.2.1
theorem dX8_canBe_64 : decode cX8_canBe 64 = .ok (.lconst 0, 1) := dg_d37.2.2.2.2.1
theorem dX8_canBe_65 : decode cX8_canBe 65 = .ok (.ldc2_w 205, 3) := dg_d37.2.2.2.2.2.1
theorem dX8_canBe_68 : decode cX8_canBe 68 = .ok (.invokestatic 68, 3) := dg_d37.2.2.2.2.2.2.1
theorem dX8_canBe_71 : decode cX8_canBe 71 = .ok (.ireturn, 1) := dg_d37.2.2.2.2.2.2.2.1
theorem dX8_canBe_72 : decode cX8_canBe 72 = .ok (.iload_n 2, 1) := dg_d37.2.2.2.2.2.2.2.2.1
theorem dX8_canBe_73 : decode cX8_canBe 73 = .ok (.i2l, 1) := dg_d37.2.2.2.2.2.2.2.2.2.1
theorem dX8_canBe_74 : decode cX8_canBe 74 = .ok (.lconst 0, 1) := dg_d37.2.2.2.2.2.2.2.2.2.2.1
theorem dX8_canBe_75 : decode cX8_canBe 75 = .ok (.ldc2_w 207, 3) := dg_d37.2.2.2.2.2.2.2.2.2.2.2.1
theorem dX8_canBe_78 : decode cX8_canBe 78 = .ok (.invokestatic 68, 3) := dg_d37.2.2.2.2.2.2.2.2.2.2.2.2.1
theorem dX8_canBe_81 : decode cX8_canBe 81 = .ok (.ireturn, 1) := dg_d37.2.2.2.2.2.2.2.2.2.2.2.2.2.1
theorem dX8_canBe_82 : decode cX8_canBe 82 = .ok (.iconst 0, 1) := dg_d37.2.2.2.2.2.2.2.2.2.2.2.2.2.2.1
theorem dX8_canBe_83 : decode cX8_canBe 83 = .ok (.ireturn, 1) := dg_d37.2.2.2.2.2.2.2.2.2.2.2.2.2.2.2
theorem dg_d38 : (decode cX8_set 0 = .ok (.aload_n 0, 1)) ∧ (decode cX8_set 1 = .ok (.iload_n 1, 1)) ∧ (decode cX8_set 2 = .ok (.iload_n 2, 1)) ∧ (decode cX8_set 3 = .ok (.invokevirtual 209, 3)) ∧ (decode cX8_set 6 = .ok (.ifCond .eq 17, 3)) ∧ (decode cX8_set 9 = .ok (.aload_n 0, 1)) ∧ (decode cX8_set 10 = .ok (.bipush 23, 2)) ∧ (decode cX8_set 12 = .ok (.iload_n 1, 1)) ∧ (decode cX8_set 13 = .ok (.iadd, 1)) ∧ (decode cX8_set 14 = .ok (.iconst 2, 1)) ∧ (decode cX8_set 15 = .ok (.isub, 1)) ∧ (decode cX8_set 16 = .ok (.iload_n 2, 1)) ∧ (decode cX8_set 17 = .ok (.invokevirtual 212, 3)) ∧ (decode cX8_set 20 = .ok (.goto 4, 3)) ∧ (decode cX8_set 23 = .ok (.iconst (-1), 1)) ∧ (decode cX8_set 24 = .ok (.ireturn, 1)) := by decide +kernel
theorem dX8_set_0 : decode cX8_set 0 = .ok (.aload_n 0, 1) := dg_d38.1
theorem dX8_set_1 : decode cX8_set 1 = .ok (.iload_n 1, 1) := dg_d38.2.1
theorem dX8_set_2 : decode cX8_set 2 = .ok (.iload_n 2, 1) := dg_d38.2.2.1
theorem dX8_set_3 : decode cX8_set 3 = .ok (.invokevirtual 209, 3) := dg_d38.2.2.2.1
theorem dX8_set_6 : decode cX8_set 6 = .ok (.ifCond .eq 17, 3) := dg_d38.2.2.2.2.1
theorem dX8_set_9 : decode cX8_set 9 = .ok (.aload_n 0, 1) := dg_d38.2.2.2.2.2.1
theorem dX8_set_10 : decode cX8_set 10 = .ok (.bipush 23, 2) := dg_d38.2.2.2.2.2.2.1
theorem dX8_set_12 : decode cX8_set 12 = .ok (.iload_n 1, 1) := dg_d38.2.2.2.2.2.2.2.1
theorem dX8_set_13 : decode cX8_set 13 = .ok (.iadd, 1) := dg_d38.2.2.2.2.2.2.2.2.1
theorem dX8_set_14 : decode cX8_set 14 = .ok (.iconst 2, 1) := dg_d38.2.2.2.2.2.2.2.2.2.1
theorem dX8_set_15 : decode cX8_set 15 = .ok (.isub, 1) := dg_d38.2.2.2.2.2.2.2.2.2.2.1
theorem dX8_set_16 : decode cX8_set 16 = .ok (.iload_n 2, 1) := dg_d38.2.2.2.2.2.2.2.2.2.2.2.1
theorem dX8_set_17 : decode cX8_set 17 = .ok (.invokevirtual 212, 3) := dg_d38.2.2.2.2.2.2.2.2.2.2.2.2.1
theorem dX8_set_20 : decode cX8_set 20 = .ok (.goto 4, 3) := dg_d38.2.2.2.2.2.2.2.2.2.2.2.2.2.1
theorem dX8_set_23 : decode cX8_set 23 = .ok (.iconst (-1), 1) := dg_d38.2.2.2.2.2.2.2.2.2.2.2.2.2.2.1
theorem dX8_set_24 : decode cX8_set 24 = .ok (.ireturn, 1) := dg_d38.2.2.2.2.2.2.2.2.2.2.2.2.2.2.2
theorem dg_d39 : (decode cX8_cloud 0 = .ok (.iload_n 1, 1)) ∧ (decode cX8_cloud 1 = .ok (.invokestatic 215, 3)) ∧ (decode cX8_cloud 4 = .ok (.ifCond .ne 5, 3)) ∧ (decode cX8_cloud 7 = .ok (.iconst (-1), 1)) ∧ (decode cX8_cloud 8 = .ok (.ireturn, 1)) ∧ (decode cX8_cloud 9 = .ok (.aload_n 0, 1)) ∧ (decode cX8_cloud 10 = .ok (.getfield 7, 3)) ∧ (decode cX8_cloud 13 = .ok (.bipush 28, 2)) ∧ (decode cX8_cloud 15 = .ok (.iaload, 1)) ∧ (decode cX8_cloud 16 = .ok (.iload_n 1, 1)) ∧ (decode cX8_cloud 17 = .ok (.ishr, 1)) ∧ (decode cX8_cloud 18 = .ok (.iconst 1, 1)) ∧ (decode cX8_cloud 19 = .ok (.iand, 1)) ∧ (decode cX8_cloud 20 = .ok (.istore_n 3, 1)) ∧ (decode cX8_cloud 21 = .ok (.aload_n 0, 1)) ∧ (decode cX8_cloud 22 = .ok (.getfield 7, 3)) := by decide +kernel
theorem dX8_cloud_0 : decode cX8_cloud 0 = .ok (.iload_n 1, 1) := dg_d39.1
theorem dX8_cloud_1 : decode cX8_cloud 1 = .ok (.invokestatic 215, 3) := dg_d39.2.1
theorem dX8_cloud_4 : decode cX8_cloud 4 = .ok (.ifCond .ne 5, 3) := dg_d39.2.2.1
theorem dX8_cloud_7 : decode cX8_cloud 7 = .ok (.iconst (-1), 1) := dg_d39.2.2.2.1
theorem dX8_cloud_8 : decode cX8_cloud 8 = .ok (.ireturn, 1) := dg_d39.2.2.2.2.1
theorem dX8_cloud_9 : decode cX8_cloud 9 = .ok (.aload_n 0, 1) := dg_d39.2.2.2.2.2.1
theorem dX8_cloud_10 : decode cX8_cloud 10 = .ok (.getfield 7, 3) := dg_d39.2.2.2.2.2.2.1
theorem dX8_cloud_13 : decode cX8_cloud 13 = .ok (.bipush 28, 2) := dg_d39.2.2.2.2.2.2.2.1
theorem dX8_cloud_15 : decode cX8_cloud 15 = .ok (.iaload, 1) := dg_d39.2.2.2.2.2.2.2.2.1
theorem dX8_cloud_16 : decode cX8_cloud 16 = .ok (.iload_n 1, 1) := dg_d39.2.2.2.2.2.2.2.2.2.1
theorem dX8_cloud_17 : decode cX8_cloud 17 = .ok (.ishr, 1) := dg_d39.2.2.2.2.2.2.2.2.2.2.1
theorem dX8_cloud_18 : decode cX8_cloud 18 = .ok (.iconst 1, 1) := dg_d39.2.2.2.2.2.2.2.2.2.2.2.1
theorem dX8_cloud_19 : decode cX8_cloud 19 = .ok (.iand, 1) := dg_d39.2.2.2.2.2.2.2.2.2.2.2.2.1
theorem dX8_cloud_20 : decode cX8_cloud 20 = .ok (.istore_n 3, 1) := dg_d39.2.2.2.2.2.2.2.2.2.2.2.2.2.1
theorem dX8_cloud_21 : decode cX8_cloud 21 = .ok (.aload_n 0, 1) := dg_d39.2.2.2.2.2.2.2.2.2.2.2.2.2.2.1
theorem dX8_cloud_22 : decode cX8_cloud 22 = .ok (.getfield 7, 3) := dg_d39.2.2.2.2.2.2.2.2.2.2.2.2.2.2.2
theorem dg_d40 : (decode cX8_cloud 25 = .ok (.bipush 28, 2)) ∧ (decode cX8_cloud 27 = .ok (.iload_n 2, 1)) ∧ (decode cX8_cloud 28 = .ok (.ifCond .eq 17, 3)) ∧ (decode cX8_cloud 31 = .ok (.aload_n 0, 1)) ∧ (decode cX8_cloud 32 = .ok (.getfield 7, 3)) ∧ (decode cX8_cloud 35 = .ok (.bipush 28, 2)) ∧ (decode cX8_cloud 37 = .ok (.iaload, 1)) ∧ (decode cX8_cloud 38 = .ok (.iconst 1, 1)) ∧ (decode cX8_cloud 39 = .ok (.iload_n 1, 1)) ∧ (decode cX8_cloud 40 = .ok (.ishl, 1)) ∧ (decode cX8_cloud 41 = .ok (.ior, 1)) ∧ (decode cX8_cloud 42 = .ok (.goto 16, 3)) ∧ (decode cX8_cloud 45 = .ok (.aload_n 0, 1)) ∧ (decode cX8_cloud 46 = .ok (.getfield 7, 3)) ∧ (decode cX8_cloud 49 = .ok (.bipush 28, 2)) ∧ (decode cX8_cloud 51 = .ok (.iaload, 1)) := by decide +kernel
theorem dX8_cloud_25 : decode cX8_cloud 25 = .ok (.bipush 28, 2) := dg_d40.1
theorem dX8_cloud_27 : decode cX8_cloud 27 = .ok (.iload_n 2, 1) := dg_d40.2.1
theorem dX8_cloud_28 : decode cX8_cloud 28 = .ok (.ifCond .eq 17, 3) := dg_d40.2.2.1
theorem dX8_cloud_31 : decode cX8_cloud 31 = .ok (.aload_n 0, 1) := dg_d40.2.2.2.1
theorem dX8_cloud_32 : decode cX8_cloud 32 = .ok (.getfield 7, 3) := dg_d40.2.2.2.2.1
theorem dX8_cloud_35 : decode cX8_cloud 35 = .ok (.bipush 28, 2) := dg_d40.2.2.2.2.2.1
theorem dX8_cloud_37 : decode cX8_cloud 37 = .ok (.iaload, 1) := dg_d40.2.2.2.2.2.2.1
theorem dX8_cloud_38 : decode cX8_cloud 38 = .ok (.iconst 1, 1) := dg_d40.2.2.2.2.2.2.2.1
theorem dX8_cloud_39 : decode cX8_cloud 39 = .ok (.iload_n 1, 1) := dg_d40.2.2.2.2.2.2.2.2.1
theorem dX8_cloud_40 : decode cX8_cloud 40 = .ok (.ishl, 1) := dg_d40.2.2.2.2.2.2.2.2.2.1
theorem dX8_cloud_41 : decode cX8_cloud 41 = .ok (.ior, 1) := dg_d40.2.2.2.2.2.2.2.2.2.2.1
theorem dX8_cloud_42 : decode cX8_cloud 42 = .ok (.goto 16, 3) := dg_d40.2.2.2.2.2.2.2.2.2.2.2.1
theorem dX8_cloud_45 : decode cX8_cloud 45 = .ok (.aload_n 0, 1) := dg_d40.2.2.2.2.2.2.2.2.2.2.2.2.1
theorem dX8_cloud_46 : decode cX8_cloud 46 = .ok (.getfield 7, 3) := dg_d40.2.2.2.2.2.2.2.2.2.2.2.2.2.1
theorem dX8_cloud_49 : decode cX8_cloud 49 = .ok (.bipush 28, 2) := dg_d40.2.2.2.2.2.2.2.2.2.2.2.2.2.2.1
theorem dX8_cloud_51 : decode cX8_cloud 51 = .ok (.iaload, 1) := dg_d40.2.2.2.2.2.2.2.2.2.2.2.2.2.2.2
theorem dg_d41 : (decode cX8_cloud 52 = .ok (.iconst 1, 1)) ∧ (decode cX8_cloud 53 = .ok (.iload_n 1, 1)) ∧ (decode cX8_cloud 54 = .ok (.ishl, 1)) ∧ (decode cX8_cloud 55 = .ok (.iconst (-1), 1)) ∧ (decode cX8_cloud 56 = .ok (.ixor, 1)) ∧ (decode cX8_cloud 57 = .ok (.iand, 1)) ∧ (decode cX8_cloud 58 = .ok (.iastore, 1)) ∧ (decode cX8_cloud 59 = .ok (.iload_n 3, 1)) ∧ (decode cX8_cloud 60 = .ok (.ireturn, 1)) := by decide +kernel
theorem dX8_cloud_52 : decode cX8_cloud 52 = .ok (.iconst 1, 1) := dg_d41.1
theorem dX8_cloud_53 : decode cX8_cloud 53 = .ok (.iload_n 1, 1) := dg_d41.2.1
theorem dX8_cloud_54 : decode cX8_cloud 54 = .ok (.ishl, 1) := dg_d41.2.2.1
theorem dX8_cloud_55 : decode cX8_cloud 55 = .ok (.iconst (-1), 1) := dg_d41.2.2.2.1
theorem dX8_cloud_56 : decode cX8_cloud 56 = .ok (.ixor, 1) := dg_d41.2.2.2.2.1
theorem dX8_cloud_57 : decode cX8_cloud 57 = .ok (.iand, 1) := dg_d41.2.2.2.2.2.1
theorem dX8_cloud_58 : decode cX8_cloud 58 = .ok (.iastore, 1) := dg_d41.2.2.2.2.2.2.1
theorem dX8_cloud_59 : decode cX8_cloud 59 = .ok (.iload_n 3, 1) := dg_d41.2.2.2.2.2.2.2.1
theorem dX8_cloud_60 : decode cX8_cloud 60 = .ok (.ireturn, 1) := dg_d41.2.2.2.2.2.2.2.2
theorem dg_d42 : (decode cX8_know 0 = .ok (.aload_n 0, 1)) ∧ (decode cX8_know 1 = .ok (.iload_n 1, 1)) ∧ (decode cX8_know 2 = .ok (.invokevirtual 150, 3)) ∧ (decode cX8_know 5 = .ok (.ifCond .eq 19, 3)) ∧ (decode cX8_know 8 = .ok (.aload_n 0, 1)) ∧ (decode cX8_know 9 = .ok (.iconst 4, 1)) ∧ (decode cX8_know 10 = .ok (.iload_n 1, 1)) ∧ (decode cX8_know 11 = .ok (.imul, 1)) ∧ (decode cX8_know 12 = .ok (.iconst 3, 1)) ∧ (decode cX8_know 13 = .ok (.iadd, 1)) ∧ (decode cX8_know 14 = .ok (.iload_n 2, 1)) ∧ (decode cX8_know 15 = .ok (.invokestatic 194, 3)) ∧ (decode cX8_know 18 = .ok (.invokevirtual 212, 3)) ∧ (decode cX8_know 21 = .ok (.goto 4, 3)) ∧ (decode cX8_know 24 = .ok (.iconst (-1), 1)) ∧ (decode cX8_know 25 = .ok (.ireturn, 1)) := by decide +kernel
theorem dX8_know_0 : decode cX8_know 0 = .ok (.aload_n 0, 1) := dg_d42.1
theorem dX8_know_1 : decode cX8_know 1 = .ok (.iload_n 1, 1) := dg_d42.2.1
theorem dX8_know_2 : decode cX8_know 2 = .ok (.invokevirtual 150, 3) := dg_d42.2.2.1
theorem dX8_know_5 : decode cX8_know 5 = .ok (.ifCond .eq 19, 3) := dg_d42.2.2.2.1
theorem dX8_know_8 : decode cX8_know 8 = .ok (.aload_n 0, 1) := dg_d42.2.2.2.2.1
theorem dX8_know_9 : decode cX8_know 9 = .ok (.iconst 4, 1) := dg_d42.2.2.2.2.2.1
theorem dX8_know_10 : decode cX8_know 10 = .ok (.iload_n 1, 1) := dg_d42.2.2.2.2.2.2.1
theorem dX8_know_11 : decode cX8_know 11 = .ok (.imul, 1) := dg_d42.2.2.2.2.2.2.2.1
theorem dX8_know_12 : decode cX8_know 12 = .ok (.iconst 3, 1) := dg_d42.2.2.2.2.2.2.2.2.1
theorem dX8_know_13 : decode cX8_know 13 = .ok (.iadd, 1) := dg_d42.2.2.2.2.2.2.2.2.2.1
theorem dX8_know_14 : decode cX8_know 14 = .ok (.iload_n 2, 1) := dg_d42.2.2.2.2.2.2.2.2.2.2.1
theorem dX8_know_15 : decode cX8_know 15 = .ok (.invokestatic 194, 3) := dg_d42.2.2.2.2.2.2.2.2.2.2.2.1
theorem dX8_know_18 : decode cX8_know 18 = .ok (.invokevirtual 212, 3) := dg_d42.2.2.2.2.2.2.2.2.2.2.2.2.1
theorem dX8_know_21 : decode cX8_know 21 = .ok (.goto 4, 3) := dg_d42.2.2.2.2.2.2.2.2.2.2.2.2.2.1
theorem dX8_know_24 : decode cX8_know 24 = .ok (.iconst (-1), 1) := dg_d42.2.2.2.2.2.2.2.2.2.2.2.2.2.2.1
theorem dX8_know_25 : decode cX8_know 25 = .ok (.ireturn, 1) := dg_d42.2.2.2.2.2.2.2.2.2.2.2.2.2.2.2
theorem dg_d43 : (decode cX8_turn 0 = .ok (.aload_n 0, 1)) ∧ (decode cX8_turn 1 = .ok (.iload_n 1, 1)) ∧ (decode cX8_turn 2 = .ok (.invokevirtual 150, 3)) ∧ (decode cX8_turn 5 = .ok (.ifCond .eq 28, 3)) ∧ (decode cX8_turn 8 = .ok (.iload_n 2, 1)) ∧ (decode cX8_turn 9 = .ok (.i2l, 1)) ∧ (decode cX8_turn 10 = .ok (.lconst 0, 1)) ∧ (decode cX8_turn 11 = .ok (.ldc2_w 156, 3)) ∧ (decode cX8_turn 14 = .ok (.invokestatic 68, 3)) ∧ (decode cX8_turn 17 = .ok (.ifCond .eq 16, 3)) ∧ (decode cX8_turn 20 = .ok (.aload_n 0, 1)) ∧ (decode cX8_turn 21 = .ok (.iconst 4, 1)) ∧ (decode cX8_turn 22 = .ok (.iload_n 1, 1)) ∧ (decode cX8_turn 23 = .ok (.imul, 1)) ∧ (decode cX8_turn 24 = .ok (.iconst 2, 1)) ∧ (decode cX8_turn 25 = .ok (.iadd, 1)) := by decide +kernel
theorem dX8_turn_0 : decode cX8_turn 0 = .ok (.aload_n 0, 1) := dg_d43.1
theorem dX8_turn_1 : decode cX8_turn 1 = .ok (.iload_n 1, 1) := dg_d43.2.1
theorem dX8_turn_2 : decode cX8_turn 2 = .ok (.invokevirtual 150, 3) := dg_d43.2.2.1
theorem dX8_turn_5 : decode cX8_turn 5 = .ok (.ifCond .eq 28, 3) := dg_d43.2.2.2.1
theorem dX8_turn_8 : decode cX8_turn 8 = .ok (.iload_n 2, 1) := dg_d43.2.2.2.2.1
theorem dX8_turn_9 : decode cX8_turn 9 = .ok (.i2l, 1) := dg_d43.2.2.2.2.2.1
theorem dX8_turn_10 : decode cX8_turn 10 = .ok (.lconst 0, 1) := dg_d43.2.2.2.2.2.2.1
theorem dX8_turn_11 : decode cX8_turn 11 = .ok (.ldc2_w 156, 3) := dg_d43.2.2.2.2.2.2.2.1
theorem dX8_turn_14 : decode cX8_turn 14 = .ok (.invokestatic 68, 3) := dg_d43.2.2.2.2.2.2.2.2.1
theorem dX8_turn_17 : decode cX8_turn 17 = .ok (.ifCond .eq 16, 3) := dg_d43.2.2.2.2.2.2.2.2.2.1
theorem dX8_turn_20 : decode cX8_turn 20 = .ok (.aload_n 0, 1) := dg_d43.2.2.2.2.2.2.2.2.2.2.1
theorem dX8_turn_21 : decode cX8_turn 21 = .ok (.iconst 4, 1) := dg_d43.2.2.2.2.2.2.2.2.2.2.2.1
theorem dX8_turn_22 : decode cX8_turn 22 = .ok (.iload_n 1, 1) := dg_d43.2.2.2.2.2.2.2.2.2.2.2.2.1
theorem dX8_turn_23 : decode cX8_turn 23 = .ok (.imul, 1) := dg_d43.2.2.2.2.2.2.2.2.2.2.2.2.2.1
theorem dX8_turn_24 : decode cX8_turn 24 = .ok (.iconst 2, 1) := dg_d43.2.2.2.2.2.2.2.2.2.2.2.2.2.2.1
theorem dX8_turn_25 : decode cX8_turn 25 = .ok (.iadd, 1) := dg_d43.2.2.2.2.2.2.2.2.2.2.2.2.2.2.2
theorem dg_d44 : (decode cX8_turn 26 = .ok (.iload_n 2, 1)) ∧ (decode cX8_turn 27 = .ok (.invokevirtual 212, 3)) ∧ (decode cX8_turn 30 = .ok (.goto 4, 3)) ∧ (decode cX8_turn 33 = .ok (.iconst (-1), 1)) ∧ (decode cX8_turn 34 = .ok (.ireturn, 1)) := by decide +kernel
theorem dX8_turn_26 : decode cX8_turn 26 = .ok (.iload_n 2, 1) := dg_d44.1
theorem dX8_turn_27 : decode cX8_turn 27 = .ok (.invokevirtual 212, 3) := dg_d44.2.1
theorem dX8_turn_30 : decode cX8_turn 30 = .ok (.goto 4, 3) := dg_d44.2.2.1
theorem dX8_turn_33 : decode cX8_turn 33 = .ok (.iconst (-1), 1) := dg_d44.2.2.2.1
theorem dX8_turn_34 : decode cX8_turn 34 = .ok (.ireturn, 1) := dg_d44.2.2.2.2
theorem dg_d45 : (decode cX8_teach 0 = .ok (.aload_n 0, 1)) ∧ (decode cX8_teach 1 = .ok (.iload_n 1, 1)) ∧ (decode cX8_teach 2 = .ok (.invokevirtual 200, 3)) ∧ (decode cX8_teach 5 = .ok (.ifCond .eq 27, 3)) ∧ (decode cX8_teach 8 = .ok (.iload_n 2, 1)) ∧ (decode cX8_teach 9 = .ok (.i2l, 1)) ∧ (decode cX8_teach 10 = .ok (.lconst 0, 1)) ∧ (decode cX8_teach 11 = .ok (.ldc2_w 198, 3)) ∧ (decode cX8_teach 14 = .ok (.invokestatic 68, 3)) ∧ (decode cX8_teach 17 = .ok (.ifCond .eq 15, 3)) ∧ (decode cX8_teach 20 = .ok (.aload_n 0, 1)) ∧ (decode cX8_teach 21 = .ok (.bipush 20, 2)) ∧ (decode cX8_teach 23 = .ok (.iload_n 1, 1)) ∧ (decode cX8_teach 24 = .ok (.iadd, 1)) ∧ (decode cX8_teach 25 = .ok (.iload_n 2, 1)) ∧ (decode cX8_teach 26 = .ok (.invokevirtual 212, 3)) := by decide +kernel
theorem dX8_teach_0 : decode cX8_teach 0 = .ok (.aload_n 0, 1) := dg_d45.1
theorem dX8_teach_1 : decode cX8_teach 1 = .ok (.iload_n 1, 1) := dg_d45.2.1
theorem dX8_teach_2 : decode cX8_teach 2 = .ok (.invokevirtual 200, 3) := dg_d45.2.2.1
theorem dX8_teach_5 : decode cX8_teach 5 = .ok (.ifCond .eq 27, 3) := dg_d45.2.2.2.1
theorem dX8_teach_8 : decode cX8_teach 8 = .ok (.iload_n 2, 1) := dg_d45.2.2.2.2.1
theorem dX8_teach_9 : decode cX8_teach 9 = .ok (.i2l, 1) := dg_d45.2.2.2.2.2.1
theorem dX8_teach_10 : decode cX8_teach 10 = .ok (.lconst 0, 1) := dg_d45.2.2.2.2.2.2.1
theorem dX8_teach_11 : decode cX8_teach 11 = .ok (.ldc2_w 198, 3) := dg_d45.2.2.2.2.2.2.2.1
theorem dX8_teach_14 : decode cX8_teach 14 = .ok (.invokestatic 68, 3) := dg_d45.2.2.2.2.2.2.2.2.1
theorem dX8_teach_17 : decode cX8_teach 17 = .ok (.ifCond .eq 15, 3) := dg_d45.2.2.2.2.2.2.2.2.2.1
theorem dX8_teach_20 : decode cX8_teach 20 = .ok (.aload_n 0, 1) := dg_d45.2.2.2.2.2.2.2.2.2.2.1
theorem dX8_teach_21 : decode cX8_teach 21 = .ok (.bipush 20, 2) := dg_d45.2.2.2.2.2.2.2.2.2.2.2.1
theorem dX8_teach_23 : decode cX8_teach 23 = .ok (.iload_n 1, 1) := dg_d45.2.2.2.2.2.2.2.2.2.2.2.2.1
theorem dX8_teach_24 : decode cX8_teach 24 = .ok (.iadd, 1) := dg_d45.2.2.2.2.2.2.2.2.2.2.2.2.2.1
theorem dX8_teach_25 : decode cX8_teach 25 = .ok (.iload_n 2, 1) := dg_d45.2.2.2.2.2.2.2.2.2.2.2.2.2.2.1
theorem dX8_teach_26 : decode cX8_teach 26 = .ok (.invokevirtual 212, 3) := dg_d45.2.2.2.2.2.2.2.2.2.2.2.2.2.2.2
theorem dg_d46 : (decode cX8_teach 29 = .ok (.goto 4, 3)) ∧ (decode cX8_teach 32 = .ok (.iconst (-1), 1)) ∧ (decode cX8_teach 33 = .ok (.ireturn, 1)) := by decide +kernel
theorem dX8_teach_29 : decode cX8_teach 29 = .ok (.goto 4, 3) := dg_d46.1
theorem dX8_teach_32 : decode cX8_teach 32 = .ok (.iconst (-1), 1) := dg_d46.2.1
theorem dX8_teach_33 : decode cX8_teach 33 = .ok (.ireturn, 1) := dg_d46.2.2
theorem dg_d47 : (decode cX8_plans 0 = .ok (.aload_n 0, 1)) ∧ (decode cX8_plans 1 = .ok (.iload_n 1, 1)) ∧ (decode cX8_plans 2 = .ok (.invokevirtual 218, 3)) ∧ (decode cX8_plans 5 = .ok (.ifCond .ne 5, 3)) ∧ (decode cX8_plans 8 = .ok (.iconst (-1), 1)) ∧ (decode cX8_plans 9 = .ok (.ireturn, 1)) ∧ (decode cX8_plans 10 = .ok (.aload_n 0, 1)) ∧ (decode cX8_plans 11 = .ok (.getfield 7, 3)) ∧ (decode cX8_plans 14 = .ok (.bipush 32, 2)) ∧ (decode cX8_plans 16 = .ok (.iaload, 1)) ∧ (decode cX8_plans 17 = .ok (.bipush 8, 2)) ∧ (decode cX8_plans 19 = .ok (.if_icmp .ne 6, 3)) ∧ (decode cX8_plans 22 = .ok (.bipush (-3), 2)) ∧ (decode cX8_plans 24 = .ok (.ireturn, 1)) ∧ (decode cX8_plans 25 = .ok (.aload_n 0, 1)) ∧ (decode cX8_plans 26 = .ok (.getfield 7, 3)) := by decide +kernel
theorem dX8_plans_0 : decode cX8_plans 0 = .ok (.aload_n 0, 1) := dg_d47.1
theorem dX8_plans_1 : decode cX8_plans 1 = .ok (.iload_n 1, 1) := dg_d47.2.1
theorem dX8_plans_2 : decode cX8_plans 2 = .ok (.invokevirtual 218, 3) := dg_d47.2.2.1
theorem dX8_plans_5 : decode cX8_plans 5 = .ok (.ifCond .ne 5, 3) := dg_d47.2.2.2.1
theorem dX8_plans_8 : decode cX8_plans 8 = .ok (.iconst (-1), 1) := dg_d47.2.2.2.2.1
theorem dX8_plans_9 : decode cX8_plans 9 = .ok (.ireturn, 1) := dg_d47.2.2.2.2.2.1
theorem dX8_plans_10 : decode cX8_plans 10 = .ok (.aload_n 0, 1) := dg_d47.2.2.2.2.2.2.1
theorem dX8_plans_11 : decode cX8_plans 11 = .ok (.getfield 7, 3) := dg_d47.2.2.2.2.2.2.2.1
theorem dX8_plans_14 : decode cX8_plans 14 = .ok (.bipush 32, 2) := dg_d47.2.2.2.2.2.2.2.2.1
theorem dX8_plans_16 : decode cX8_plans 16 = .ok (.iaload, 1) := dg_d47.2.2.2.2.2.2.2.2.2.1
theorem dX8_plans_17 : decode cX8_plans 17 = .ok (.bipush 8, 2) := dg_d47.2.2.2.2.2.2.2.2.2.2.1
theorem dX8_plans_19 : decode cX8_plans 19 = .ok (.if_icmp .ne 6, 3) := dg_d47.2.2.2.2.2.2.2.2.2.2.2.1
theorem dX8_plans_22 : decode cX8_plans 22 = .ok (.bipush (-3), 2) := dg_d47.2.2.2.2.2.2.2.2.2.2.2.2.1
theorem dX8_plans_24 : decode cX8_plans 24 = .ok (.ireturn, 1) := dg_d47.2.2.2.2.2.2.2.2.2.2.2.2.2.1
theorem dX8_plans_25 : decode cX8_plans 25 = .ok (.aload_n 0, 1) := dg_d47.2.2.2.2.2.2.2.2.2.2.2.2.2.2.1
theorem dX8_plans_26 : decode cX8_plans 26 = .ok (.getfield 7, 3) := dg_d47.2.2.2.2.2.2.2.2.2.2.2.2.2.2.2
theorem dg_d48 : (decode cX8_plans 29 = .ok (.bipush 33, 2)) ∧ (decode cX8_plans 31 = .ok (.aload_n 0, 1)) ∧ (decode cX8_plans 32 = .ok (.getfield 7, 3)) ∧ (decode cX8_plans 35 = .ok (.bipush 32, 2)) ∧ (decode cX8_plans 37 = .ok (.iaload, 1)) ∧ (decode cX8_plans 38 = .ok (.iadd, 1)) ∧ (decode cX8_plans 39 = .ok (.iload_n 1, 1)) ∧ (decode cX8_plans 40 = .ok (.iastore, 1)) ∧ (decode cX8_plans 41 = .ok (.aload_n 0, 1)) ∧ (decode cX8_plans 42 = .ok (.getfield 7, 3)) ∧ (decode cX8_plans 45 = .ok (.bipush 32, 2)) ∧ (decode cX8_plans 47 = .ok (.dup2, 1)) ∧ (decode cX8_plans 48 = .ok (.iaload, 1)) ∧ (decode cX8_plans 49 = .ok (.iconst 1, 1)) ∧ (decode cX8_plans 50 = .ok (.iadd, 1)) ∧ (decode cX8_plans 51 = .ok (.iastore, 1)) := by decide +kernel
theorem dX8_plans_29 : decode cX8_plans 29 = .ok (.bipush 33, 2) := dg_d48.1
theorem dX8_plans_31 : decode cX8_plans 31 = .ok (.aload_n 0, 1) := dg_d48.2.1
theorem dX8_plans_32 : decode cX8_plans 32 = .ok (.getfield 7, 3) := dg_d48.2.2.1
theorem dX8_plans_35 : decode cX8_plans 35 = .ok (.bipush 32, 2) := dg_d48.2.2.2.1
theorem dX8_plans_37 : decode cX8_plans 37 = .ok (.iaload, 1) := dg_d48.2.2.2.2.1
theorem dX8_plans_38 : decode cX8_plans 38 = .ok (.iadd, 1) := dg_d48.2.2.2.2.2.1
theorem dX8_plans_39 : decode cX8_plans 39 = .ok (.iload_n 1, 1) := dg_d48.2.2.2.2.2.2.1
theorem dX8_plans_40 : decode cX8_plans 40 = .ok (.iastore, 1) := dg_d48.2.2.2.2.2.2.2.1
theorem dX8_plans_41 : decode cX8_plans 41 = .ok (.aload_n 0, 1) := dg_d48.2.2.2.2.2.2.2.2.1
theorem dX8_plans_42 : decode cX8_plans 42 = .ok (.getfield 7, 3) := dg_d48.2.2.2.2.2.2.2.2.2.1
theorem dX8_plans_45 : decode cX8_plans 45 = .ok (.bipush 32, 2) := dg_d48.2.2.2.2.2.2.2.2.2.2.1
theorem dX8_plans_47 : decode cX8_plans 47 = .ok (.dup2, 1) := dg_d48.2.2.2.2.2.2.2.2.2.2.2.1
theorem dX8_plans_48 : decode cX8_plans 48 = .ok (.iaload, 1) := dg_d48.2.2.2.2.2.2.2.2.2.2.2.2.1
theorem dX8_plans_49 : decode cX8_plans 49 = .ok (.iconst 1, 1) := dg_d48.2.2.2.2.2.2.2.2.2.2.2.2.2.1
theorem dX8_plans_50 : decode cX8_plans 50 = .ok (.iadd, 1) := dg_d48.2.2.2.2.2.2.2.2.2.2.2.2.2.2.1
theorem dX8_plans_51 : decode cX8_plans 51 = .ok (.iastore, 1) := dg_d48.2.2.2.2.2.2.2.2.2.2.2.2.2.2.2
theorem dg_d49 : (decode cX8_plans 52 = .ok (.aload_n 0, 1)) ∧ (decode cX8_plans 53 = .ok (.getfield 7, 3)) ∧ (decode cX8_plans 56 = .ok (.bipush 32, 2)) ∧ (decode cX8_plans 58 = .ok (.iaload, 1)) ∧ (decode cX8_plans 59 = .ok (.ireturn, 1)) := by decide +kernel
theorem dX8_plans_52 : decode cX8_plans 52 = .ok (.aload_n 0, 1) := dg_d49.1
theorem dX8_plans_53 : decode cX8_plans 53 = .ok (.getfield 7, 3) := dg_d49.2.1
theorem dX8_plans_56 : decode cX8_plans 56 = .ok (.bipush 32, 2) := dg_d49.2.2.1
theorem dX8_plans_58 : decode cX8_plans 58 = .ok (.iaload, 1) := dg_d49.2.2.2.1
theorem dX8_plans_59 : decode cX8_plans 59 = .ok (.ireturn, 1) := dg_d49.2.2.2.2
theorem dg_d50 : (decode cX8_cut 0 = .ok (.iload_n 1, 1)) ∧ (decode cX8_cut 1 = .ok (.i2l, 1)) ∧ (decode cX8_cut 2 = .ok (.lconst 0, 1)) ∧ (decode cX8_cut 3 = .ok (.aload_n 0, 1)) ∧ (decode cX8_cut 4 = .ok (.getfield 7, 3)) ∧ (decode cX8_cut 7 = .ok (.bipush 32, 2)) ∧ (decode cX8_cut 9 = .ok (.iaload, 1)) ∧ (decode cX8_cut 10 = .ok (.i2l, 1)) ∧ (decode cX8_cut 11 = .ok (.invokestatic 68, 3)) ∧ (decode cX8_cut 14 = .ok (.ifCond .eq 13, 3)) ∧ (decode cX8_cut 17 = .ok (.aload_n 0, 1)) ∧ (decode cX8_cut 18 = .ok (.bipush 32, 2)) ∧ (decode cX8_cut 20 = .ok (.iload_n 1, 1)) ∧ (decode cX8_cut 21 = .ok (.invokevirtual 212, 3)) ∧ (decode cX8_cut 24 = .ok (.goto 4, 3)) ∧ (decode cX8_cut 27 = .ok (.iconst (-1), 1)) := by decide +kernel
theorem dX8_cut_0 : decode cX8_cut 0 = .ok (.iload_n 1, 1) := dg_d50.1
theorem dX8_cut_1 : decode cX8_cut 1 = .ok (.i2l, 1) := dg_d50.2.1
theorem dX8_cut_2 : decode cX8_cut 2 = .ok (.lconst 0, 1) := dg_d50.2.2.1
theorem dX8_cut_3 : decode cX8_cut 3 = .ok (.aload_n 0, 1) := dg_d50.2.2.2.1
theorem dX8_cut_4 : decode cX8_cut 4 = .ok (.getfield 7, 3) := dg_d50.2.2.2.2.1
theorem dX8_cut_7 : decode cX8_cut 7 = .ok (.bipush 32, 2) := dg_d50.2.2.2.2.2.1
theorem dX8_cut_9 : decode cX8_cut 9 = .ok (.iaload, 1) := dg_d50.2.2.2.2.2.2.1
theorem dX8_cut_10 : decode cX8_cut 10 = .ok (.i2l, 1) := dg_d50.2.2.2.2.2.2.2.1
theorem dX8_cut_11 : decode cX8_cut 11 = .ok (.invokestatic 68, 3) := dg_d50.2.2.2.2.2.2.2.2.1
theorem dX8_cut_14 : decode cX8_cut 14 = .ok (.ifCond .eq 13, 3) := dg_d50.2.2.2.2.2.2.2.2.2.1
theorem dX8_cut_17 : decode cX8_cut 17 = .ok (.aload_n 0, 1) := dg_d50.2.2.2.2.2.2.2.2.2.2.1
theorem dX8_cut_18 : decode cX8_cut 18 = .ok (.bipush 32, 2) := dg_d50.2.2.2.2.2.2.2.2.2.2.2.1
theorem dX8_cut_20 : decode cX8_cut 20 = .ok (.iload_n 1, 1) := dg_d50.2.2.2.2.2.2.2.2.2.2.2.2.1
theorem dX8_cut_21 : decode cX8_cut 21 = .ok (.invokevirtual 212, 3) := dg_d50.2.2.2.2.2.2.2.2.2.2.2.2.2.1
theorem dX8_cut_24 : decode cX8_cut 24 = .ok (.goto 4, 3) := dg_d50.2.2.2.2.2.2.2.2.2.2.2.2.2.2.1
theorem dX8_cut_27 : decode cX8_cut 27 = .ok (.iconst (-1), 1) := dg_d50.2.2.2.2.2.2.2.2.2.2.2.2.2.2.2
theorem dX8_cut_28 : decode cX8_cut 28 = .ok (.ireturn, 1) := by decide +kernel
theorem dg_d51 : (decode cX8_pull 0 = .ok (.iload_n 1, 1)) ∧ (decode cX8_pull 1 = .ok (.invokestatic 215, 3)) ∧ (decode cX8_pull 4 = .ok (.ifCond .ne 5, 3)) ∧ (decode cX8_pull 7 = .ok (.iconst (-1), 1)) ∧ (decode cX8_pull 8 = .ok (.ireturn, 1)) ∧ (decode cX8_pull 9 = .ok (.aload_n 0, 1)) ∧ (decode cX8_pull 10 = .ok (.invokevirtual 188, 3)) ∧ (decode cX8_pull 13 = .ok (.aload_n 0, 1)) ∧ (decode cX8_pull 14 = .ok (.iload_n 1, 1)) ∧ (decode cX8_pull 15 = .ok (.invokevirtual 163, 3)) ∧ (decode cX8_pull 18 = .ok (.ireturn, 1)) := by decide +kernel
theorem dX8_pull_0 : decode cX8_pull 0 = .ok (.iload_n 1, 1) := dg_d51.1
theorem dX8_pull_1 : decode cX8_pull 1 = .ok (.invokestatic 215, 3) := dg_d51.2.1
theorem dX8_pull_4 : decode cX8_pull 4 = .ok (.ifCond .ne 5, 3) := dg_d51.2.2.1
theorem dX8_pull_7 : decode cX8_pull 7 = .ok (.iconst (-1), 1) := dg_d51.2.2.2.1
theorem dX8_pull_8 : decode cX8_pull 8 = .ok (.ireturn, 1) := dg_d51.2.2.2.2.1
theorem dX8_pull_9 : decode cX8_pull 9 = .ok (.aload_n 0, 1) := dg_d51.2.2.2.2.2.1
theorem dX8_pull_10 : decode cX8_pull 10 = .ok (.invokevirtual 188, 3) := dg_d51.2.2.2.2.2.2.1
theorem dX8_pull_13 : decode cX8_pull 13 = .ok (.aload_n 0, 1) := dg_d51.2.2.2.2.2.2.2.1
theorem dX8_pull_14 : decode cX8_pull 14 = .ok (.iload_n 1, 1) := dg_d51.2.2.2.2.2.2.2.2.1
theorem dX8_pull_15 : decode cX8_pull 15 = .ok (.invokevirtual 163, 3) := dg_d51.2.2.2.2.2.2.2.2.2.1
theorem dX8_pull_18 : decode cX8_pull 18 = .ok (.ireturn, 1) := dg_d51.2.2.2.2.2.2.2.2.2.2
theorem dg_d52 : (decode cX8_up 0 = .ok (.iload_n 1, 1)) ∧ (decode cX8_up 1 = .ok (.invokestatic 215, 3)) ∧ (decode cX8_up 4 = .ok (.ifCond .ne 5, 3)) ∧ (decode cX8_up 7 = .ok (.iconst (-1), 1)) ∧ (decode cX8_up 8 = .ok (.ireturn, 1)) ∧ (decode cX8_up 9 = .ok (.aload_n 0, 1)) ∧ (decode cX8_up 10 = .ok (.invokevirtual 188, 3)) ∧ (decode cX8_up 13 = .ok (.iconst 0, 1)) ∧ (decode cX8_up 14 = .ok (.istore_n 2, 1)) ∧ (decode cX8_up 15 = .ok (.iconst 0, 1)) ∧ (decode cX8_up 16 = .ok (.istore_n 3, 1)) ∧ (decode cX8_up 17 = .ok (.iload_n 3, 1)) ∧ (decode cX8_up 18 = .ok (.aload_n 0, 1)) ∧ (decode cX8_up 19 = .ok (.getfield 60, 3)) ∧ (decode cX8_up 22 = .ok (.if_icmp .ge 23, 3)) ∧ (decode cX8_up 25 = .ok (.iload_n 2, 1)) := by decide +kernel
theorem dX8_up_0 : decode cX8_up 0 = .ok (.iload_n 1, 1) := dg_d52.1
theorem dX8_up_1 : decode cX8_up 1 = .ok (.invokestatic 215, 3) := dg_d52.2.1
theorem dX8_up_4 : decode cX8_up 4 = .ok (.ifCond .ne 5, 3) := dg_d52.2.2.1
theorem dX8_up_7 : decode cX8_up 7 = .ok (.iconst (-1), 1) := dg_d52.2.2.2.1
theorem dX8_up_8 : decode cX8_up 8 = .ok (.ireturn, 1) := dg_d52.2.2.2.2.1
theorem dX8_up_9 : decode cX8_up 9 = .ok (.aload_n 0, 1) := dg_d52.2.2.2.2.2.1
theorem dX8_up_10 : decode cX8_up 10 = .ok (.invokevirtual 188, 3) := dg_d52.2.2.2.2.2.2.1
theorem dX8_up_13 : decode cX8_up 13 = .ok (.iconst 0, 1) := dg_d52.2.2.2.2.2.2.2.1
theorem dX8_up_14 : decode cX8_up 14 = .ok (.istore_n 2, 1) := dg_d52.2.2.2.2.2.2.2.2.1
theorem dX8_up_15 : decode cX8_up 15 = .ok (.iconst 0, 1) := dg_d52.2.2.2.2.2.2.2.2.2.1
theorem dX8_up_16 : decode cX8_up 16 = .ok (.istore_n 3, 1) := dg_d52.2.2.2.2.2.2.2.2.2.2.1
theorem dX8_up_17 : decode cX8_up 17 = .ok (.iload_n 3, 1) := dg_d52.2.2.2.2.2.2.2.2.2.2.2.1
theorem dX8_up_18 : decode cX8_up 18 = .ok (.aload_n 0, 1) := dg_d52.2.2.2.2.2.2.2.2.2.2.2.2.1
theorem dX8_up_19 : decode cX8_up 19 = .ok (.getfield 60, 3) := dg_d52.2.2.2.2.2.2.2.2.2.2.2.2.2.1
theorem dX8_up_22 : decode cX8_up 22 = .ok (.if_icmp .ge 23, 3) := dg_d52.2.2.2.2.2.2.2.2.2.2.2.2.2.2.1
theorem dX8_up_25 : decode cX8_up 25 = .ok (.iload_n 2, 1) := dg_d52.2.2.2.2.2.2.2.2.2.2.2.2.2.2.2
theorem dg_d53 : (decode cX8_up 26 = .ok (.aload_n 0, 1)) ∧ (decode cX8_up 27 = .ok (.iload_n 3, 1)) ∧ (decode cX8_up 28 = .ok (.iload_n 1, 1)) ∧ (decode cX8_up 29 = .ok (.invokevirtual 166, 3)) ∧ (decode cX8_up 32 = .ok (.invokestatic 194, 3)) ∧ (decode cX8_up 35 = .ok (.iload_n 3, 1)) ∧ (decode cX8_up 36 = .ok (.ishl, 1)) ∧ (decode cX8_up 37 = .ok (.ior, 1)) ∧ (decode cX8_up 38 = .ok (.istore_n 2, 1)) ∧ (decode cX8_up 39 = .ok (.iinc 3 1, 3)) ∧ (decode cX8_up 42 = .ok (.goto (-25), 3)) ∧ (decode cX8_up 45 = .ok (.iload_n 2, 1)) ∧ (decode cX8_up 46 = .ok (.ireturn, 1)) := by decide +kernel
theorem dX8_up_26 : decode cX8_up 26 = .ok (.aload_n 0, 1) := dg_d53.1
theorem dX8_up_27 : decode cX8_up 27 = .ok (.iload_n 3, 1) := dg_d53.2.1
theorem dX8_up_28 : decode cX8_up 28 = .ok (.iload_n 1, 1) := dg_d53.2.2.1
theorem dX8_up_29 : decode cX8_up 29 = .ok (.invokevirtual 166, 3) := dg_d53.2.2.2.1
theorem dX8_up_32 : decode cX8_up 32 = .ok (.invokestatic 194, 3) := dg_d53.2.2.2.2.1
theorem dX8_up_35 : decode cX8_up 35 = .ok (.iload_n 3, 1) := dg_d53.2.2.2.2.2.1
theorem dX8_up_36 : decode cX8_up 36 = .ok (.ishl, 1) := dg_d53.2.2.2.2.2.2.1
theorem dX8_up_37 : decode cX8_up 37 = .ok (.ior, 1) := dg_d53.2.2.2.2.2.2.2.1
theorem dX8_up_38 : decode cX8_up 38 = .ok (.istore_n 2, 1) := dg_d53.2.2.2.2.2.2.2.2.1
theorem dX8_up_39 : decode cX8_up 39 = .ok (.iinc 3 1, 3) := dg_d53.2.2.2.2.2.2.2.2.2.1
theorem dX8_up_42 : decode cX8_up 42 = .ok (.goto (-25), 3) := dg_d53.2.2.2.2.2.2.2.2.2.2.1
theorem dX8_up_45 : decode cX8_up 45 = .ok (.iload_n 2, 1) := dg_d53.2.2.2.2.2.2.2.2.2.2.2.1
theorem dX8_up_46 : decode cX8_up 46 = .ok (.ireturn, 1) := dg_d53.2.2.2.2.2.2.2.2.2.2.2.2
theorem dg_d54 : (decode cX8_go 0 = .ok (.aload_n 0, 1)) ∧ (decode cX8_go 1 = .ok (.iload_n 1, 1)) ∧ (decode cX8_go 2 = .ok (.invokevirtual 218, 3)) ∧ (decode cX8_go 5 = .ok (.ifCond .ne 5, 3)) ∧ (decode cX8_go 8 = .ok (.iconst (-1), 1)) ∧ (decode cX8_go 9 = .ok (.ireturn, 1)) ∧ (decode cX8_go 10 = .ok (.aload_n 0, 1)) ∧ (decode cX8_go 11 = .ok (.invokevirtual 188, 3)) ∧ (decode cX8_go 14 = .ok (.aload_n 0, 1)) ∧ (decode cX8_go 15 = .ok (.iload_n 1, 1)) ∧ (decode cX8_go 16 = .ok (.invokevirtual 185, 3)) ∧ (decode cX8_go 19 = .ok (.ifCond .ne 6, 3)) ∧ (decode cX8_go 22 = .ok (.bipush (-2), 2)) ∧ (decode cX8_go 24 = .ok (.ireturn, 1)) ∧ (decode cX8_go 25 = .ok (.aload_n 0, 1)) ∧ (decode cX8_go 26 = .ok (.invokevirtual 221, 3)) := by decide +kernel
theorem dX8_go_0 : decode cX8_go 0 = .ok (.aload_n 0, 1) := dg_d54.1
theorem dX8_go_1 : decode cX8_go 1 = .ok (.iload_n 1, 1) := dg_d54.2.1
theorem dX8_go_2 : decode cX8_go 2 = .ok (.invokevirtual 218, 3) := dg_d54.2.2.1
theorem dX8_go_5 : decode cX8_go 5 = .ok (.ifCond .ne 5, 3) := dg_d54.2.2.2.1
theorem dX8_go_8 : decode cX8_go 8 = .ok (.iconst (-1), 1) := dg_d54.2.2.2.2.1
theorem dX8_go_9 : decode cX8_go 9 = .ok (.ireturn, 1) := dg_d54.2.2.2.2.2.1
theorem dX8_go_10 : decode cX8_go 10 = .ok (.aload_n 0, 1) := dg_d54.2.2.2.2.2.2.1
theorem dX8_go_11 : decode cX8_go 11 = .ok (.invokevirtual 188, 3) := dg_d54.2.2.2.2.2.2.2.1
theorem dX8_go_14 : decode cX8_go 14 = .ok (.aload_n 0, 1) := dg_d54.2.2.2.2.2.2.2.2.1
theorem dX8_go_15 : decode cX8_go 15 = .ok (.iload_n 1, 1) := dg_d54.2.2.2.2.2.2.2.2.2.1
theorem dX8_go_16 : decode cX8_go 16 = .ok (.invokevirtual 185, 3) := dg_d54.2.2.2.2.2.2.2.2.2.2.1
theorem dX8_go_19 : decode cX8_go 19 = .ok (.ifCond .ne 6, 3) := dg_d54.2.2.2.2.2.2.2.2.2.2.2.1
theorem dX8_go_22 : decode cX8_go 22 = .ok (.bipush (-2), 2) := dg_d54.2.2.2.2.2.2.2.2.2.2.2.2.1
theorem dX8_go_24 : decode cX8_go 24 = .ok (.ireturn, 1) := dg_d54.2.2.2.2.2.2.2.2.2.2.2.2.2.1
theorem dX8_go_25 : decode cX8_go 25 = .ok (.aload_n 0, 1) := dg_d54.2.2.2.2.2.2.2.2.2.2.2.2.2.2.1
theorem dX8_go_26 : decode cX8_go 26 = .ok (.invokevirtual 221, 3) := dg_d54.2.2.2.2.2.2.2.2.2.2.2.2.2.2.2
theorem dg_d55 : (decode cX8_go 29 = .ok (.aload_n 0, 1)) ∧ (decode cX8_go 30 = .ok (.getfield 7, 3)) ∧ (decode cX8_go 33 = .ok (.bipush 30, 2)) ∧ (decode cX8_go 35 = .ok (.iaload, 1)) ∧ (decode cX8_go 36 = .ok (.ireturn, 1)) := by decide +kernel
theorem dX8_go_29 : decode cX8_go 29 = .ok (.aload_n 0, 1) := dg_d55.1
theorem dX8_go_30 : decode cX8_go 30 = .ok (.getfield 7, 3) := dg_d55.2.1
theorem dX8_go_33 : decode cX8_go 33 = .ok (.bipush 30, 2) := dg_d55.2.2.1
theorem dX8_go_35 : decode cX8_go 35 = .ok (.iaload, 1) := dg_d55.2.2.2.1
theorem dX8_go_36 : decode cX8_go 36 = .ok (.ireturn, 1) := dg_d55.2.2.2.2
theorem dg_d56 : (decode cX8_runs 0 = .ok (.iload_n 1, 1)) ∧ (decode cX8_runs 1 = .ok (.i2l, 1)) ∧ (decode cX8_runs 2 = .ok (.lconst 0, 1)) ∧ (decode cX8_runs 3 = .ok (.ldc2_w 156, 3)) ∧ (decode cX8_runs 6 = .ok (.invokestatic 68, 3)) ∧ (decode cX8_runs 9 = .ok (.ifCond .ne 5, 3)) ∧ (decode cX8_runs 12 = .ok (.iconst (-1), 1)) ∧ (decode cX8_runs 13 = .ok (.ireturn, 1)) ∧ (decode cX8_runs 14 = .ok (.aload_n 0, 1)) ∧ (decode cX8_runs 15 = .ok (.invokevirtual 188, 3)) ∧ (decode cX8_runs 18 = .ok (.aload_n 0, 1)) ∧ (decode cX8_runs 19 = .ok (.invokevirtual 224, 3)) ∧ (decode cX8_runs 22 = .ok (.iload_n 1, 1)) ∧ (decode cX8_runs 23 = .ok (.tableswitch 86 0 5 #[37, 45, 57, 65, 73, 78], 37)) ∧ (decode cX8_runs 60 = .ok (.aload_n 0, 1)) ∧ (decode cX8_runs 61 = .ok (.getfield 13, 3)) := by decide +kernel
theorem dX8_runs_0 : decode cX8_runs 0 = .ok (.iload_n 1, 1) := dg_d56.1
theorem dX8_runs_1 : decode cX8_runs 1 = .ok (.i2l, 1) := dg_d56.2.1
theorem dX8_runs_2 : decode cX8_runs 2 = .ok (.lconst 0, 1) := dg_d56.2.2.1
theorem dX8_runs_3 : decode cX8_runs 3 = .ok (.ldc2_w 156, 3) := dg_d56.2.2.2.1
theorem dX8_runs_6 : decode cX8_runs 6 = .ok (.invokestatic 68, 3) := dg_d56.2.2.2.2.1
theorem dX8_runs_9 : decode cX8_runs 9 = .ok (.ifCond .ne 5, 3) := dg_d56.2.2.2.2.2.1
theorem dX8_runs_12 : decode cX8_runs 12 = .ok (.iconst (-1), 1) := dg_d56.2.2.2.2.2.2.1
theorem dX8_runs_13 : decode cX8_runs 13 = .ok (.ireturn, 1) := dg_d56.2.2.2.2.2.2.2.1
theorem dX8_runs_14 : decode cX8_runs 14 = .ok (.aload_n 0, 1) := dg_d56.2.2.2.2.2.2.2.2.1
theorem dX8_runs_15 : decode cX8_runs 15 = .ok (.invokevirtual 188, 3) := dg_d56.2.2.2.2.2.2.2.2.2.1
theorem dX8_runs_18 : decode cX8_runs 18 = .ok (.aload_n 0, 1) := dg_d56.2.2.2.2.2.2.2.2.2.2.1
theorem dX8_runs_19 : decode cX8_runs 19 = .ok (.invokevirtual 224, 3) := dg_d56.2.2.2.2.2.2.2.2.2.2.2.1
theorem dX8_runs_22 : decode cX8_runs 22 = .ok (.iload_n 1, 1) := dg_d56.2.2.2.2.2.2.2.2.2.2.2.2.1
theorem dX8_runs_23 : decode cX8_runs 23 = .ok (.tableswitch 86 0 5 #[37, 45, 57, 65, 73, 78], 37) := dg_d56.2.2.2.2.2.2.2.2.2.2.2.2.2.1
theorem dX8_runs_60 : decode cX8_runs 60 = .ok (.aload_n 0, 1) := dg_d56.2.2.2.2.2.2.2.2.2.2.2.2.2.2.1
theorem dX8_runs_61 : decode cX8_runs 61 = .ok (.getfield 13, 3) := dg_d56.2.2.2.2.2.2.2.2.2.2.2.2.2.2.2
theorem dg_d57 : (decode cX8_runs 64 = .ok (.bipush 30, 2)) ∧ (decode cX8_runs 66 = .ok (.iaload, 1)) ∧ (decode cX8_runs 67 = .ok (.ireturn, 1)) ∧ (decode cX8_runs 68 = .ok (.sipush 1000, 3)) ∧ (decode cX8_runs 71 = .ok (.aload_n 0, 1)) ∧ (decode cX8_runs 72 = .ok (.getfield 13, 3)) ∧ (decode cX8_runs 75 = .ok (.bipush 31, 2)) ∧ (decode cX8_runs 77 = .ok (.iaload, 1)) ∧ (decode cX8_runs 78 = .ok (.iadd, 1)) ∧ (decode cX8_runs 79 = .ok (.ireturn, 1)) ∧ (decode cX8_runs 80 = .ok (.aload_n 0, 1)) ∧ (decode cX8_runs 81 = .ok (.getfield 13, 3)) ∧ (decode cX8_runs 84 = .ok (.bipush 27, 2)) ∧ (decode cX8_runs 86 = .ok (.iaload, 1)) ∧ (decode cX8_runs 87 = .ok (.ireturn, 1)) ∧ (decode cX8_runs 88 = .ok (.aload_n 0, 1)) := by decide +kernel
theorem dX8_runs_64 : decode cX8_runs 64 = .ok (.bipush 30, 2) := dg_d57.1
theorem dX8_runs_66 : decode cX8_runs 66 = .ok (.iaload, 1) := dg_d57.2.1
theorem dX8_runs_67 : decode cX8_runs 67 = .ok (.ireturn, 1) := dg_d57.2.2.1
theorem dX8_runs_68 : decode cX8_runs 68 = .ok (.sipush 1000, 3) := dg_d57.2.2.2.1
theorem dX8_runs_71 : decode cX8_runs 71 = .ok (.aload_n 0, 1) := dg_d57.2.2.2.2.1
theorem dX8_runs_72 : decode cX8_runs 72 = .ok (.getfield 13, 3) := dg_d57.2.2.2.2.2.1
theorem dX8_runs_75 : decode cX8_runs 75 = .ok (.bipush 31, 2) := dg_d57.2.2.2.2.2.2.1
theorem dX8_runs_77 : decode cX8_runs 77 = .ok (.iaload, 1) := dg_d57.2.2.2.2.2.2.2.1
theorem dX8_runs_78 : decode cX8_runs 78 = .ok (.iadd, 1) := dg_d57.2.2.2.2.2.2.2.2.1
theorem dX8_runs_79 : decode cX8_runs 79 = .ok (.ireturn, 1) := dg_d57.2.2.2.2.2.2.2.2.2.1
theorem dX8_runs_80 : decode cX8_runs 80 = .ok (.aload_n 0, 1) := dg_d57.2.2.2.2.2.2.2.2.2.2.1
theorem dX8_runs_81 : decode cX8_runs 81 = .ok (.getfield 13, 3) := dg_d57.2.2.2.2.2.2.2.2.2.2.2.1
theorem dX8_runs_84 : decode cX8_runs 84 = .ok (.bipush 27, 2) := dg_d57.2.2.2.2.2.2.2.2.2.2.2.2.1
theorem dX8_runs_86 : decode cX8_runs 86 = .ok (.iaload, 1) := dg_d57.2.2.2.2.2.2.2.2.2.2.2.2.2.1
theorem dX8_runs_87 : decode cX8_runs 87 = .ok (.ireturn, 1) := dg_d57.2.2.2.2.2.2.2.2.2.2.2.2.2.2.1
theorem dX8_runs_88 : decode cX8_runs 88 = .ok (.aload_n 0, 1) := dg_d57.2.2.2.2.2.2.2.2.2.2.2.2.2.2.2
theorem dg_d58 : (decode cX8_runs 89 = .ok (.getfield 13, 3)) ∧ (decode cX8_runs 92 = .ok (.bipush 29, 2)) ∧ (decode cX8_runs 94 = .ok (.iaload, 1)) ∧ (decode cX8_runs 95 = .ok (.ireturn, 1)) ∧ (decode cX8_runs 96 = .ok (.aload_n 0, 1)) ∧ (decode cX8_runs 97 = .ok (.getfield 169, 3)) ∧ (decode cX8_runs 100 = .ok (.ireturn, 1)) ∧ (decode cX8_runs 101 = .ok (.aload_n 0, 1)) ∧ (decode cX8_runs 102 = .ok (.invokevirtual 191, 3)) ∧ (decode cX8_runs 105 = .ok (.invokestatic 194, 3)) ∧ (decode cX8_runs 108 = .ok (.ireturn, 1)) ∧ (decode cX8_runs 109 = .ok (.aload_n 0, 1)) ∧ (decode cX8_runs 110 = .ok (.getfield 182, 3)) ∧ (decode cX8_runs 113 = .ok (.ireturn, 1)) := by decide +kernel
theorem dX8_runs_89 : decode cX8_runs 89 = .ok (.getfield 13, 3) := dg_d58.1
theorem dX8_runs_92 : decode cX8_runs 92 = .ok (.bipush 29, 2) := dg_d58.2.1
theorem dX8_runs_94 : decode cX8_runs 94 = .ok (.iaload, 1) := dg_d58.2.2.1
theorem dX8_runs_95 : decode cX8_runs 95 = .ok (.ireturn, 1) := dg_d58.2.2.2.1
theorem dX8_runs_96 : decode cX8_runs 96 = .ok (.aload_n 0, 1) := dg_d58.2.2.2.2.1
theorem dX8_runs_97 : decode cX8_runs 97 = .ok (.getfield 169, 3) := dg_d58.2.2.2.2.2.1
theorem dX8_runs_100 : decode cX8_runs 100 = .ok (.ireturn, 1) := dg_d58.2.2.2.2.2.2.1
theorem dX8_runs_101 : decode cX8_runs 101 = .ok (.aload_n 0, 1) := dg_d58.2.2.2.2.2.2.2.1
theorem dX8_runs_102 : decode cX8_runs 102 = .ok (.invokevirtual 191, 3) := dg_d58.2.2.2.2.2.2.2.2.1
theorem dX8_runs_105 : decode cX8_runs 105 = .ok (.invokestatic 194, 3) := dg_d58.2.2.2.2.2.2.2.2.2.1
theorem dX8_runs_108 : decode cX8_runs 108 = .ok (.ireturn, 1) := dg_d58.2.2.2.2.2.2.2.2.2.2.1
theorem dX8_runs_109 : decode cX8_runs 109 = .ok (.aload_n 0, 1) := dg_d58.2.2.2.2.2.2.2.2.2.2.2.1
theorem dX8_runs_110 : decode cX8_runs 110 = .ok (.getfield 182, 3) := dg_d58.2.2.2.2.2.2.2.2.2.2.2.2.1
theorem dX8_runs_113 : decode cX8_runs 113 = .ok (.ireturn, 1) := dg_d58.2.2.2.2.2.2.2.2.2.2.2.2.2
theorem dg_d59 : (decode cX8_isBetter 0 = .ok (.aload_n 0, 1)) ∧ (decode cX8_isBetter 1 = .ok (.getfield 13, 3)) ∧ (decode cX8_isBetter 4 = .ok (.bipush 31, 2)) ∧ (decode cX8_isBetter 6 = .ok (.iaload, 1)) ∧ (decode cX8_isBetter 7 = .ok (.invokestatic 179, 3)) ∧ (decode cX8_isBetter 10 = .ok (.istore_n 1, 1)) ∧ (decode cX8_isBetter 11 = .ok (.iload_n 1, 1)) ∧ (decode cX8_isBetter 12 = .ok (.aload_n 0, 1)) ∧ (decode cX8_isBetter 13 = .ok (.getfield 227, 3)) ∧ (decode cX8_isBetter 16 = .ok (.invokestatic 179, 3)) ∧ (decode cX8_isBetter 19 = .ok (.if_icmp .lt 28, 3)) ∧ (decode cX8_isBetter 22 = .ok (.iload_n 1, 1)) ∧ (decode cX8_isBetter 23 = .ok (.aload_n 0, 1)) ∧ (decode cX8_isBetter 24 = .ok (.getfield 227, 3)) ∧ (decode cX8_isBetter 27 = .ok (.invokestatic 179, 3)) ∧ (decode cX8_isBetter 30 = .ok (.if_icmp .ne 21, 3)) := by decide +kernel
theorem dX8_isBetter_0 : decode cX8_isBetter 0 = .ok (.aload_n 0, 1) := dg_d59.1
theorem dX8_isBetter_1 : decode cX8_isBetter 1 = .ok (.getfield 13, 3) := dg_d59.2.1
theorem dX8_isBetter_4 : decode cX8_isBetter 4 = .ok (.bipush 31, 2) := dg_d59.2.2.1
theorem dX8_isBetter_6 : decode cX8_isBetter 6 = .ok (.iaload, 1) := dg_d59.2.2.2.1
theorem dX8_isBetter_7 : decode cX8_isBetter 7 = .ok (.invokestatic 179, 3) := dg_d59.2.2.2.2.1
theorem dX8_isBetter_10 : decode cX8_isBetter 10 = .ok (.istore_n 1, 1) := dg_d59.2.2.2.2.2.1
theorem dX8_isBetter_11 : decode cX8_isBetter 11 = .ok (.iload_n 1, 1) := dg_d59.2.2.2.2.2.2.1
theorem dX8_isBetter_12 : decode cX8_isBetter 12 = .ok (.aload_n 0, 1) := dg_d59.2.2.2.2.2.2.2.1
theorem dX8_isBetter_13 : decode cX8_isBetter 13 = .ok (.getfield 227, 3) := dg_d59.2.2.2.2.2.2.2.2.1
theorem dX8_isBetter_16 : decode cX8_isBetter 16 = .ok (.invokestatic 179, 3) := dg_d59.2.2.2.2.2.2.2.2.2.1
theorem dX8_isBetter_19 : decode cX8_isBetter 19 = .ok (.if_icmp .lt 28, 3) := dg_d59.2.2.2.2.2.2.2.2.2.2.1
theorem dX8_isBetter_22 : decode cX8_isBetter 22 = .ok (.iload_n 1, 1) := dg_d59.2.2.2.2.2.2.2.2.2.2.2.1
theorem dX8_isBetter_23 : decode cX8_isBetter 23 = .ok (.aload_n 0, 1) := dg_d59.2.2.2.2.2.2.2.2.2.2.2.2.1
theorem dX8_isBetter_24 : decode cX8_isBetter 24 = .ok (.getfield 227, 3) := dg_d59.2.2.2.2.2.2.2.2.2.2.2.2.2.1
theorem dX8_isBetter_27 : decode cX8_isBetter 27 = .ok (.invokestatic 179, 3) := dg_d59.2.2.2.2.2.2.2.2.2.2.2.2.2.2.1
theorem dX8_isBetter_30 : decode cX8_isBetter 30 = .ok (.if_icmp .ne 21, 3) := dg_d59.2.2.2.2.2.2.2.2.2.2.2.2.2.2.2
theorem dg_d60 : (decode cX8_isBetter 33 = .ok (.aload_n 0, 1)) ∧ (decode cX8_isBetter 34 = .ok (.getfield 13, 3)) ∧ (decode cX8_isBetter 37 = .ok (.bipush 30, 2)) ∧ (decode cX8_isBetter 39 = .ok (.iaload, 1)) ∧ (decode cX8_isBetter 40 = .ok (.aload_n 0, 1)) ∧ (decode cX8_isBetter 41 = .ok (.getfield 230, 3)) ∧ (decode cX8_isBetter 44 = .ok (.if_icmp .le 7, 3)) ∧ (decode cX8_isBetter 47 = .ok (.iconst 1, 1)) ∧ (decode cX8_isBetter 48 = .ok (.goto 4, 3)) ∧ (decode cX8_isBetter 51 = .ok (.iconst 0, 1)) ∧ (decode cX8_isBetter 52 = .ok (.istore_n 2, 1)) ∧ (decode cX8_isBetter 53 = .ok (.aload_n 0, 1)) ∧ (decode cX8_isBetter 54 = .ok (.iload_n 2, 1)) ∧ (decode cX8_isBetter 55 = .ok (.ifCond .eq 13, 3)) ∧ (decode cX8_isBetter 58 = .ok (.aload_n 0, 1)) ∧ (decode cX8_isBetter 59 = .ok (.getfield 13, 3)) := by decide +kernel
theorem dX8_isBetter_33 : decode cX8_isBetter 33 = .ok (.aload_n 0, 1) := dg_d60.1
theorem dX8_isBetter_34 : decode cX8_isBetter 34 = .ok (.getfield 13, 3) := dg_d60.2.1
theorem dX8_isBetter_37 : decode cX8_isBetter 37 = .ok (.bipush 30, 2) := dg_d60.2.2.1
theorem dX8_isBetter_39 : decode cX8_isBetter 39 = .ok (.iaload, 1) := dg_d60.2.2.2.1
theorem dX8_isBetter_40 : decode cX8_isBetter 40 = .ok (.aload_n 0, 1) := dg_d60.2.2.2.2.1
theorem dX8_isBetter_41 : decode cX8_isBetter 41 = .ok (.getfield 230, 3) := dg_d60.2.2.2.2.2.1
theorem dX8_isBetter_44 : decode cX8_isBetter 44 = .ok (.if_icmp .le 7, 3) := dg_d60.2.2.2.2.2.2.1
theorem dX8_isBetter_47 : decode cX8_isBetter 47 = .ok (.iconst 1, 1) := dg_d60.2.2.2.2.2.2.2.1
theorem dX8_isBetter_48 : decode cX8_isBetter 48 = .ok (.goto 4, 3) := dg_d60.2.2.2.2.2.2.2.2.1
theorem dX8_isBetter_51 : decode cX8_isBetter 51 = .ok (.iconst 0, 1) := dg_d60.2.2.2.2.2.2.2.2.2.1
theorem dX8_isBetter_52 : decode cX8_isBetter 52 = .ok (.istore_n 2, 1) := dg_d60.2.2.2.2.2.2.2.2.2.2.1
theorem dX8_isBetter_53 : decode cX8_isBetter 53 = .ok (.aload_n 0, 1) := dg_d60.2.2.2.2.2.2.2.2.2.2.2.1
theorem dX8_isBetter_54 : decode cX8_isBetter 54 = .ok (.iload_n 2, 1) := dg_d60.2.2.2.2.2.2.2.2.2.2.2.2.1
theorem dX8_isBetter_55 : decode cX8_isBetter 55 = .ok (.ifCond .eq 13, 3) := dg_d60.2.2.2.2.2.2.2.2.2.2.2.2.2.1
theorem dX8_isBetter_58 : decode cX8_isBetter 58 = .ok (.aload_n 0, 1) := dg_d60.2.2.2.2.2.2.2.2.2.2.2.2.2.2.1
theorem dX8_isBetter_59 : decode cX8_isBetter 59 = .ok (.getfield 13, 3) := dg_d60.2.2.2.2.2.2.2.2.2.2.2.2.2.2.2
theorem dg_d61 : (decode cX8_isBetter 62 = .ok (.bipush 30, 2)) ∧ (decode cX8_isBetter 64 = .ok (.iaload, 1)) ∧ (decode cX8_isBetter 65 = .ok (.goto 7, 3)) ∧ (decode cX8_isBetter 68 = .ok (.aload_n 0, 1)) ∧ (decode cX8_isBetter 69 = .ok (.getfield 230, 3)) ∧ (decode cX8_isBetter 72 = .ok (.putfield 230, 3)) ∧ (decode cX8_isBetter 75 = .ok (.aload_n 0, 1)) ∧ (decode cX8_isBetter 76 = .ok (.iload_n 2, 1)) ∧ (decode cX8_isBetter 77 = .ok (.ifCond .eq 13, 3)) ∧ (decode cX8_isBetter 80 = .ok (.aload_n 0, 1)) ∧ (decode cX8_isBetter 81 = .ok (.getfield 13, 3)) ∧ (decode cX8_isBetter 84 = .ok (.bipush 31, 2)) ∧ (decode cX8_isBetter 86 = .ok (.iaload, 1)) ∧ (decode cX8_isBetter 87 = .ok (.goto 7, 3)) ∧ (decode cX8_isBetter 90 = .ok (.aload_n 0, 1)) ∧ (decode cX8_isBetter 91 = .ok (.getfield 227, 3)) := by decide +kernel
theorem dX8_isBetter_62 : decode cX8_isBetter 62 = .ok (.bipush 30, 2) := dg_d61.1
theorem dX8_isBetter_64 : decode cX8_isBetter 64 = .ok (.iaload, 1) := dg_d61.2.1
theorem dX8_isBetter_65 : decode cX8_isBetter 65 = .ok (.goto 7, 3) := dg_d61.2.2.1
theorem dX8_isBetter_68 : decode cX8_isBetter 68 = .ok (.aload_n 0, 1) := dg_d61.2.2.2.1
theorem dX8_isBetter_69 : decode cX8_isBetter 69 = .ok (.getfield 230, 3) := dg_d61.2.2.2.2.1
theorem dX8_isBetter_72 : decode cX8_isBetter 72 = .ok (.putfield 230, 3) := dg_d61.2.2.2.2.2.1
theorem dX8_isBetter_75 : decode cX8_isBetter 75 = .ok (.aload_n 0, 1) := dg_d61.2.2.2.2.2.2.1
theorem dX8_isBetter_76 : decode cX8_isBetter 76 = .ok (.iload_n 2, 1) := dg_d61.2.2.2.2.2.2.2.1
theorem dX8_isBetter_77 : decode cX8_isBetter 77 = .ok (.ifCond .eq 13, 3) := dg_d61.2.2.2.2.2.2.2.2.1
theorem dX8_isBetter_80 : decode cX8_isBetter 80 = .ok (.aload_n 0, 1) := dg_d61.2.2.2.2.2.2.2.2.2.1
theorem dX8_isBetter_81 : decode cX8_isBetter 81 = .ok (.getfield 13, 3) := dg_d61.2.2.2.2.2.2.2.2.2.2.1
theorem dX8_isBetter_84 : decode cX8_isBetter 84 = .ok (.bipush 31, 2) := dg_d61.2.2.2.2.2.2.2.2.2.2.2.1
theorem dX8_isBetter_86 : decode cX8_isBetter 86 = .ok (.iaload, 1) := dg_d61.2.2.2.2.2.2.2.2.2.2.2.2.1
theorem dX8_isBetter_87 : decode cX8_isBetter 87 = .ok (.goto 7, 3) := dg_d61.2.2.2.2.2.2.2.2.2.2.2.2.2.1
theorem dX8_isBetter_90 : decode cX8_isBetter 90 = .ok (.aload_n 0, 1) := dg_d61.2.2.2.2.2.2.2.2.2.2.2.2.2.2.1
theorem dX8_isBetter_91 : decode cX8_isBetter 91 = .ok (.getfield 227, 3) := dg_d61.2.2.2.2.2.2.2.2.2.2.2.2.2.2.2
theorem dg_d62 : (decode cX8_isBetter 94 = .ok (.putfield 227, 3)) ∧ (decode cX8_isBetter 97 = .ok (.iload_n 2, 1)) ∧ (decode cX8_isBetter 98 = .ok (.ireturn, 1)) := by decide +kernel
theorem dX8_isBetter_94 : decode cX8_isBetter 94 = .ok (.putfield 227, 3) := dg_d62.1
theorem dX8_isBetter_97 : decode cX8_isBetter 97 = .ok (.iload_n 2, 1) := dg_d62.2.1
theorem dX8_isBetter_98 : decode cX8_isBetter 98 = .ok (.ireturn, 1) := dg_d62.2.2
theorem dg_d63 : (decode cX8_next 0 = .ok (.aload_n 0, 1)) ∧ (decode cX8_next 1 = .ok (.invokevirtual 188, 3)) ∧ (decode cX8_next 4 = .ok (.aload_n 0, 1)) ∧ (decode cX8_next 5 = .ok (.invokevirtual 172, 3)) ∧ (decode cX8_next 8 = .ok (.ifCond .ne 6, 3)) ∧ (decode cX8_next 11 = .ok (.bipush (-2), 2)) ∧ (decode cX8_next 13 = .ok (.ireturn, 1)) ∧ (decode cX8_next 14 = .ok (.bipush (-4), 2)) ∧ (decode cX8_next 16 = .ok (.istore_n 1, 1)) ∧ (decode cX8_next 17 = .ok (.aload_n 0, 1)) ∧ (decode cX8_next 18 = .ok (.ldc 233, 2)) ∧ (decode cX8_next 20 = .ok (.putfield 227, 3)) ∧ (decode cX8_next 23 = .ok (.aload_n 0, 1)) ∧ (decode cX8_next 24 = .ok (.iconst 0, 1)) ∧ (decode cX8_next 25 = .ok (.putfield 230, 3)) ∧ (decode cX8_next 28 = .ok (.iconst 0, 1)) := by decide +kernel
theorem dX8_next_0 : decode cX8_next 0 = .ok (.aload_n 0, 1) := dg_d63.1
theorem dX8_next_1 : decode cX8_next 1 = .ok (.invokevirtual 188, 3) := dg_d63.2.1
theorem dX8_next_4 : decode cX8_next 4 = .ok (.aload_n 0, 1) := dg_d63.2.2.1
theorem dX8_next_5 : decode cX8_next 5 = .ok (.invokevirtual 172, 3) := dg_d63.2.2.2.1
theorem dX8_next_8 : decode cX8_next 8 = .ok (.ifCond .ne 6, 3) := dg_d63.2.2.2.2.1
theorem dX8_next_11 : decode cX8_next 11 = .ok (.bipush (-2), 2) := dg_d63.2.2.2.2.2.1
theorem dX8_next_13 : decode cX8_next 13 = .ok (.ireturn, 1) := dg_d63.2.2.2.2.2.2.1
theorem dX8_next_14 : decode cX8_next 14 = .ok (.bipush (-4), 2) := dg_d63.2.2.2.2.2.2.2.1
theorem dX8_next_16 : decode cX8_next 16 = .ok (.istore_n 1, 1) := dg_d63.2.2.2.2.2.2.2.2.1
theorem dX8_next_17 : decode cX8_next 17 = .ok (.aload_n 0, 1) := dg_d63.2.2.2.2.2.2.2.2.2.1
theorem dX8_next_18 : decode cX8_next 18 = .ok (.ldc 233, 2) := dg_d63.2.2.2.2.2.2.2.2.2.2.1
theorem dX8_next_20 : decode cX8_next 20 = .ok (.putfield 227, 3) := dg_d63.2.2.2.2.2.2.2.2.2.2.2.1
theorem dX8_next_23 : decode cX8_next 23 = .ok (.aload_n 0, 1) := dg_d63.2.2.2.2.2.2.2.2.2.2.2.2.1
theorem dX8_next_24 : decode cX8_next 24 = .ok (.iconst 0, 1) := dg_d63.2.2.2.2.2.2.2.2.2.2.2.2.2.1
theorem dX8_next_25 : decode cX8_next 25 = .ok (.putfield 230, 3) := dg_d63.2.2.2.2.2.2.2.2.2.2.2.2.2.2.1
theorem dX8_next_28 : decode cX8_next 28 = .ok (.iconst 0, 1) := dg_d63.2.2.2.2.2.2.2.2.2.2.2.2.2.2.2
theorem dg_d64 : (decode cX8_next 29 = .ok (.istore_n 2, 1)) ∧ (decode cX8_next 30 = .ok (.iload_n 2, 1)) ∧ (decode cX8_next 31 = .ok (.iconst 5, 1)) ∧ (decode cX8_next 32 = .ok (.if_icmp .gt 40, 3)) ∧ (decode cX8_next 35 = .ok (.aload_n 0, 1)) ∧ (decode cX8_next 36 = .ok (.iload_n 2, 1)) ∧ (decode cX8_next 37 = .ok (.invokevirtual 218, 3)) ∧ (decode cX8_next 40 = .ok (.ifCond .eq 26, 3)) ∧ (decode cX8_next 43 = .ok (.aload_n 0, 1)) ∧ (decode cX8_next 44 = .ok (.invokevirtual 188, 3)) ∧ (decode cX8_next 47 = .ok (.aload_n 0, 1)) ∧ (decode cX8_next 48 = .ok (.iload_n 2, 1)) ∧ (decode cX8_next 49 = .ok (.invokevirtual 185, 3)) ∧ (decode cX8_next 52 = .ok (.pop, 1)) ∧ (decode cX8_next 53 = .ok (.aload_n 0, 1)) ∧ (decode cX8_next 54 = .ok (.invokevirtual 234, 3)) := by decide +kernel
theorem dX8_next_29 : decode cX8_next 29 = .ok (.istore_n 2, 1) := dg_d64.1
theorem dX8_next_30 : decode cX8_next 30 = .ok (.iload_n 2, 1) := dg_d64.2.1
theorem dX8_next_31 : decode cX8_next 31 = .ok (.iconst 5, 1) := dg_d64.2.2.1
theorem dX8_next_32 : decode cX8_next 32 = .ok (.if_icmp .gt 40, 3) := dg_d64.2.2.2.1
theorem dX8_next_35 : decode cX8_next 35 = .ok (.aload_n 0, 1) := dg_d64.2.2.2.2.1
theorem dX8_next_36 : decode cX8_next 36 = .ok (.iload_n 2, 1) := dg_d64.2.2.2.2.2.1
theorem dX8_next_37 : decode cX8_next 37 = .ok (.invokevirtual 218, 3) := dg_d64.2.2.2.2.2.2.1
theorem dX8_next_40 : decode cX8_next 40 = .ok (.ifCond .eq 26, 3) := dg_d64.2.2.2.2.2.2.2.1
theorem dX8_next_43 : decode cX8_next 43 = .ok (.aload_n 0, 1) := dg_d64.2.2.2.2.2.2.2.2.1
theorem dX8_next_44 : decode cX8_next 44 = .ok (.invokevirtual 188, 3) := dg_d64.2.2.2.2.2.2.2.2.2.1
theorem dX8_next_47 : decode cX8_next 47 = .ok (.aload_n 0, 1) := dg_d64.2.2.2.2.2.2.2.2.2.2.1
theorem dX8_next_48 : decode cX8_next 48 = .ok (.iload_n 2, 1) := dg_d64.2.2.2.2.2.2.2.2.2.2.2.1
theorem dX8_next_49 : decode cX8_next 49 = .ok (.invokevirtual 185, 3) := dg_d64.2.2.2.2.2.2.2.2.2.2.2.2.1
theorem dX8_next_52 : decode cX8_next 52 = .ok (.pop, 1) := dg_d64.2.2.2.2.2.2.2.2.2.2.2.2.2.1
theorem dX8_next_53 : decode cX8_next 53 = .ok (.aload_n 0, 1) := dg_d64.2.2.2.2.2.2.2.2.2.2.2.2.2.2.1
theorem dX8_next_54 : decode cX8_next 54 = .ok (.invokevirtual 234, 3) := dg_d64.2.2.2.2.2.2.2.2.2.2.2.2.2.2.2
theorem dg_d65 : (decode cX8_next 57 = .ok (.ifCond .eq 7, 3)) ∧ (decode cX8_next 60 = .ok (.iload_n 2, 1)) ∧ (decode cX8_next 61 = .ok (.goto 4, 3)) ∧ (decode cX8_next 64 = .ok (.iload_n 1, 1)) ∧ (decode cX8_next 65 = .ok (.istore_n 1, 1)) ∧ (decode cX8_next 66 = .ok (.iinc 2 1, 3)) ∧ (decode cX8_next 69 = .ok (.goto (-39), 3)) ∧ (decode cX8_next 72 = .ok (.iload_n 1, 1)) ∧ (decode cX8_next 73 = .ok (.ireturn, 1)) := by decide +kernel
theorem dX8_next_57 : decode cX8_next 57 = .ok (.ifCond .eq 7, 3) := dg_d65.1
theorem dX8_next_60 : decode cX8_next 60 = .ok (.iload_n 2, 1) := dg_d65.2.1
theorem dX8_next_61 : decode cX8_next 61 = .ok (.goto 4, 3) := dg_d65.2.2.1
theorem dX8_next_64 : decode cX8_next 64 = .ok (.iload_n 1, 1) := dg_d65.2.2.2.1
theorem dX8_next_65 : decode cX8_next 65 = .ok (.istore_n 1, 1) := dg_d65.2.2.2.2.1
theorem dX8_next_66 : decode cX8_next 66 = .ok (.iinc 2 1, 3) := dg_d65.2.2.2.2.2.1
theorem dX8_next_69 : decode cX8_next 69 = .ok (.goto (-39), 3) := dg_d65.2.2.2.2.2.2.1
theorem dX8_next_72 : decode cX8_next 72 = .ok (.iload_n 1, 1) := dg_d65.2.2.2.2.2.2.2.1
theorem dX8_next_73 : decode cX8_next 73 = .ok (.ireturn, 1) := dg_d65.2.2.2.2.2.2.2.2
theorem dg_d66 : (decode cX8_power 0 = .ok (.iconst 1, 1)) ∧ (decode cX8_power 1 = .ok (.istore_n 2, 1)) ∧ (decode cX8_power 2 = .ok (.iconst 0, 1)) ∧ (decode cX8_power 3 = .ok (.istore_n 3, 1)) ∧ (decode cX8_power 4 = .ok (.iload_n 3, 1)) ∧ (decode cX8_power 5 = .ok (.iload_n 1, 1)) ∧ (decode cX8_power 6 = .ok (.if_icmp .ge 13, 3)) ∧ (decode cX8_power 9 = .ok (.iload_n 2, 1)) ∧ (decode cX8_power 10 = .ok (.iload_n 0, 1)) ∧ (decode cX8_power 11 = .ok (.imul, 1)) ∧ (decode cX8_power 12 = .ok (.istore_n 2, 1)) ∧ (decode cX8_power 13 = .ok (.iinc 3 1, 3)) ∧ (decode cX8_power 16 = .ok (.goto (-12), 3)) ∧ (decode cX8_power 19 = .ok (.iload_n 2, 1)) ∧ (decode cX8_power 20 = .ok (.ireturn, 1)) := by decide +kernel
theorem dX8_power_0 : decode cX8_power 0 = .ok (.iconst 1, 1) := dg_d66.1
theorem dX8_power_1 : decode cX8_power 1 = .ok (.istore_n 2, 1) := dg_d66.2.1
theorem dX8_power_2 : decode cX8_power 2 = .ok (.iconst 0, 1) := dg_d66.2.2.1
theorem dX8_power_3 : decode cX8_power 3 = .ok (.istore_n 3, 1) := dg_d66.2.2.2.1
theorem dX8_power_4 : decode cX8_power 4 = .ok (.iload_n 3, 1) := dg_d66.2.2.2.2.1
theorem dX8_power_5 : decode cX8_power 5 = .ok (.iload_n 1, 1) := dg_d66.2.2.2.2.2.1
theorem dX8_power_6 : decode cX8_power 6 = .ok (.if_icmp .ge 13, 3) := dg_d66.2.2.2.2.2.2.1
theorem dX8_power_9 : decode cX8_power 9 = .ok (.iload_n 2, 1) := dg_d66.2.2.2.2.2.2.2.1
theorem dX8_power_10 : decode cX8_power 10 = .ok (.iload_n 0, 1) := dg_d66.2.2.2.2.2.2.2.2.1
theorem dX8_power_11 : decode cX8_power 11 = .ok (.imul, 1) := dg_d66.2.2.2.2.2.2.2.2.2.1
theorem dX8_power_12 : decode cX8_power 12 = .ok (.istore_n 2, 1) := dg_d66.2.2.2.2.2.2.2.2.2.2.1
theorem dX8_power_13 : decode cX8_power 13 = .ok (.iinc 3 1, 3) := dg_d66.2.2.2.2.2.2.2.2.2.2.2.1
theorem dX8_power_16 : decode cX8_power 16 = .ok (.goto (-12), 3) := dg_d66.2.2.2.2.2.2.2.2.2.2.2.2.1
theorem dX8_power_19 : decode cX8_power 19 = .ok (.iload_n 2, 1) := dg_d66.2.2.2.2.2.2.2.2.2.2.2.2.2.1
theorem dX8_power_20 : decode cX8_power 20 = .ok (.ireturn, 1) := dg_d66.2.2.2.2.2.2.2.2.2.2.2.2.2.2
theorem dg_d67 : (decode cX8_aimIn 0 = .ok (.iload_n 0, 1)) ∧ (decode cX8_aimIn 1 = .ok (.bipush 7, 2)) ∧ (decode cX8_aimIn 3 = .ok (.iload_n 1, 1)) ∧ (decode cX8_aimIn 4 = .ok (.iconst 1, 1)) ∧ (decode cX8_aimIn 5 = .ok (.isub, 1)) ∧ (decode cX8_aimIn 6 = .ok (.iload_n 2, 1)) ∧ (decode cX8_aimIn 7 = .ok (.isub, 1)) ∧ (decode cX8_aimIn 8 = .ok (.invokestatic 237, 3)) ∧ (decode cX8_aimIn 11 = .ok (.idiv, 1)) ∧ (decode cX8_aimIn 12 = .ok (.bipush 7, 2)) ∧ (decode cX8_aimIn 14 = .ok (.irem, 1)) ∧ (decode cX8_aimIn 15 = .ok (.ireturn, 1)) := by decide +kernel
theorem dX8_aimIn_0 : decode cX8_aimIn 0 = .ok (.iload_n 0, 1) := dg_d67.1
theorem dX8_aimIn_1 : decode cX8_aimIn 1 = .ok (.bipush 7, 2) := dg_d67.2.1
theorem dX8_aimIn_3 : decode cX8_aimIn 3 = .ok (.iload_n 1, 1) := dg_d67.2.2.1
theorem dX8_aimIn_4 : decode cX8_aimIn 4 = .ok (.iconst 1, 1) := dg_d67.2.2.2.1
theorem dX8_aimIn_5 : decode cX8_aimIn 5 = .ok (.isub, 1) := dg_d67.2.2.2.2.1
theorem dX8_aimIn_6 : decode cX8_aimIn 6 = .ok (.iload_n 2, 1) := dg_d67.2.2.2.2.2.1
theorem dX8_aimIn_7 : decode cX8_aimIn 7 = .ok (.isub, 1) := dg_d67.2.2.2.2.2.2.1
theorem dX8_aimIn_8 : decode cX8_aimIn 8 = .ok (.invokestatic 237, 3) := dg_d67.2.2.2.2.2.2.2.1
theorem dX8_aimIn_11 : decode cX8_aimIn 11 = .ok (.idiv, 1) := dg_d67.2.2.2.2.2.2.2.2.1
theorem dX8_aimIn_12 : decode cX8_aimIn 12 = .ok (.bipush 7, 2) := dg_d67.2.2.2.2.2.2.2.2.2.1
theorem dX8_aimIn_14 : decode cX8_aimIn 14 = .ok (.irem, 1) := dg_d67.2.2.2.2.2.2.2.2.2.2.1
theorem dX8_aimIn_15 : decode cX8_aimIn 15 = .ok (.ireturn, 1) := dg_d67.2.2.2.2.2.2.2.2.2.2.2
theorem dg_d68 : (decode cX8_isRow 0 = .ok (.iconst 1, 1)) ∧ (decode cX8_isRow 1 = .ok (.istore_n 3, 1)) ∧ (decode cX8_isRow 2 = .ok (.iconst 0, 1)) ∧ (decode cX8_isRow 3 = .ok (.istore 4, 2)) ∧ (decode cX8_isRow 5 = .ok (.iload 4, 2)) ∧ (decode cX8_isRow 7 = .ok (.iload_n 2, 1)) ∧ (decode cX8_isRow 8 = .ok (.if_icmp .ge 33, 3)) ∧ (decode cX8_isRow 11 = .ok (.iload_n 3, 1)) ∧ (decode cX8_isRow 12 = .ok (.ifCond .eq 21, 3)) ∧ (decode cX8_isRow 15 = .ok (.aload_n 0, 1)) ∧ (decode cX8_isRow 16 = .ok (.iload_n 1, 1)) ∧ (decode cX8_isRow 17 = .ok (.iload_n 2, 1)) ∧ (decode cX8_isRow 18 = .ok (.iload 4, 2)) ∧ (decode cX8_isRow 20 = .ok (.invokestatic 240, 3)) ∧ (decode cX8_isRow 23 = .ok (.invokevirtual 218, 3)) ∧ (decode cX8_isRow 26 = .ok (.ifCond .eq 7, 3)) := by decide +kernel
theorem dX8_isRow_0 : decode cX8_isRow 0 = .ok (.iconst 1, 1) := dg_d68.1
theorem dX8_isRow_1 : decode cX8_isRow 1 = .ok (.istore_n 3, 1) := dg_d68.2.1
theorem dX8_isRow_2 : decode cX8_isRow 2 = .ok (.iconst 0, 1) := dg_d68.2.2.1
theorem dX8_isRow_3 : decode cX8_isRow 3 = .ok (.istore 4, 2) := dg_d68.2.2.2.1
theorem dX8_isRow_5 : decode cX8_isRow 5 = .ok (.iload 4, 2) := dg_d68.2.2.2.2.1
theorem dX8_isRow_7 : decode cX8_isRow 7 = .ok (.iload_n 2, 1) := dg_d68.2.2.2.2.2.1
theorem dX8_isRow_8 : decode cX8_isRow 8 = .ok (.if_icmp .ge 33, 3) := dg_d68.2.2.2.2.2.2.1
theorem dX8_isRow_11 : decode cX8_isRow 11 = .ok (.iload_n 3, 1) := dg_d68.2.2.2.2.2.2.2.1
theorem dX8_isRow_12 : decode cX8_isRow 12 = .ok (.ifCond .eq 21, 3) := dg_d68.2.2.2.2.2.2.2.2.1
theorem dX8_isRow_15 : decode cX8_isRow 15 = .ok (.aload_n 0, 1) := dg_d68.2.2.2.2.2.2.2.2.2.1
theorem dX8_isRow_16 : decode cX8_isRow 16 = .ok (.iload_n 1, 1) := dg_d68.2.2.2.2.2.2.2.2.2.2.1
theorem dX8_isRow_17 : decode cX8_isRow 17 = .ok (.iload_n 2, 1) := dg_d68.2.2.2.2.2.2.2.2.2.2.2.1
theorem dX8_isRow_18 : decode cX8_isRow 18 = .ok (.iload 4, 2) := dg_d68.2.2.2.2.2.2.2.2.2.2.2.2.1
theorem dX8_isRow_20 : decode cX8_isRow 20 = .ok (.invokestatic 240, 3) := dg_d68.2.2.2.2.2.2.2.2.2.2.2.2.2.1
theorem dX8_isRow_23 : decode cX8_isRow 23 = .ok (.invokevirtual 218, 3) := dg_d68.2.2.2.2.2.2.2.2.2.2.2.2.2.2.1
theorem dX8_isRow_26 : decode cX8_isRow 26 = .ok (.ifCond .eq 7, 3) := dg_d68.2.2.2.2.2.2.2.2.2.2.2.2.2.2.2
theorem dg_d69 : (decode cX8_isRow 29 = .ok (.iconst 1, 1)) ∧ (decode cX8_isRow 30 = .ok (.goto 4, 3)) ∧ (decode cX8_isRow 33 = .ok (.iconst 0, 1)) ∧ (decode cX8_isRow 34 = .ok (.istore_n 3, 1)) ∧ (decode cX8_isRow 35 = .ok (.iinc 4 1, 3)) ∧ (decode cX8_isRow 38 = .ok (.goto (-33), 3)) ∧ (decode cX8_isRow 41 = .ok (.iload_n 3, 1)) ∧ (decode cX8_isRow 42 = .ok (.ireturn, 1)) := by decide +kernel
theorem dX8_isRow_29 : decode cX8_isRow 29 = .ok (.iconst 1, 1) := dg_d69.1
theorem dX8_isRow_30 : decode cX8_isRow 30 = .ok (.goto 4, 3) := dg_d69.2.1
theorem dX8_isRow_33 : decode cX8_isRow 33 = .ok (.iconst 0, 1) := dg_d69.2.2.1
theorem dX8_isRow_34 : decode cX8_isRow 34 = .ok (.istore_n 3, 1) := dg_d69.2.2.2.1
theorem dX8_isRow_35 : decode cX8_isRow 35 = .ok (.iinc 4 1, 3) := dg_d69.2.2.2.2.1
theorem dX8_isRow_38 : decode cX8_isRow 38 = .ok (.goto (-33), 3) := dg_d69.2.2.2.2.2.1
theorem dX8_isRow_41 : decode cX8_isRow 41 = .ok (.iload_n 3, 1) := dg_d69.2.2.2.2.2.2.1
theorem dX8_isRow_42 : decode cX8_isRow 42 = .ok (.ireturn, 1) := dg_d69.2.2.2.2.2.2.2
theorem dg_d70 : (decode cX8_best 0 = .ok (.iload_n 1, 1)) ∧ (decode cX8_best 1 = .ok (.i2l, 1)) ∧ (decode cX8_best 2 = .ok (.lconst 0, 1)) ∧ (decode cX8_best 3 = .ok (.ldc2_w 244, 3)) ∧ (decode cX8_best 6 = .ok (.invokestatic 68, 3)) ∧ (decode cX8_best 9 = .ok (.ifCond .eq 25, 3)) ∧ (decode cX8_best 12 = .ok (.iload_n 2, 1)) ∧ (decode cX8_best 13 = .ok (.invokestatic 246, 3)) ∧ (decode cX8_best 16 = .ok (.ifCond .ne 20, 3)) ∧ (decode cX8_best 19 = .ok (.iload_n 2, 1)) ∧ (decode cX8_best 20 = .ok (.bipush 10, 2)) ∧ (decode cX8_best 22 = .ok (.isub, 1)) ∧ (decode cX8_best 23 = .ok (.i2l, 1)) ∧ (decode cX8_best 24 = .ok (.lconst 0, 1)) ∧ (decode cX8_best 25 = .ok (.ldc2_w 198, 3)) ∧ (decode cX8_best 28 = .ok (.invokestatic 68, 3)) := by decide +kernel
theorem dX8_best_0 : decode cX8_best 0 = .ok (.iload_n 1, 1) := dg_d70.1
theorem dX8_best_1 : decode cX8_best 1 = .ok (.i2l, 1) := dg_d70.2.1
theorem dX8_best_2 : decode cX8_best 2 = .ok (.lconst 0, 1) := dg_d70.2.2.1
theorem dX8_best_3 : decode cX8_best 3 = .ok (.ldc2_w 244, 3) := dg_d70.2.2.2.1
theorem dX8_best_6 : decode cX8_best 6 = .ok (.invokestatic 68, 3) := dg_d70.2.2.2.2.1
theorem dX8_best_9 : decode cX8_best 9 = .ok (.ifCond .eq 25, 3) := dg_d70.2.2.2.2.2.1
theorem dX8_best_12 : decode cX8_best 12 = .ok (.iload_n 2, 1) := dg_d70.2.2.2.2.2.2.1
theorem dX8_best_13 : decode cX8_best 13 = .ok (.invokestatic 246, 3) := dg_d70.2.2.2.2.2.2.2.1
theorem dX8_best_16 : decode cX8_best 16 = .ok (.ifCond .ne 20, 3) := dg_d70.2.2.2.2.2.2.2.2.1
theorem dX8_best_19 : decode cX8_best 19 = .ok (.iload_n 2, 1) := dg_d70.2.2.2.2.2.2.2.2.2.1
theorem dX8_best_20 : decode cX8_best 20 = .ok (.bipush 10, 2) := dg_d70.2.2.2.2.2.2.2.2.2.2.1
theorem dX8_best_22 : decode cX8_best 22 = .ok (.isub, 1) := dg_d70.2.2.2.2.2.2.2.2.2.2.2.1
theorem dX8_best_23 : decode cX8_best 23 = .ok (.i2l, 1) := dg_d70.2.2.2.2.2.2.2.2.2.2.2.2.1
theorem dX8_best_24 : decode cX8_best 24 = .ok (.lconst 0, 1) := dg_d70.2.2.2.2.2.2.2.2.2.2.2.2.2.1
theorem dX8_best_25 : decode cX8_best 25 = .ok (.ldc2_w 198, 3) := dg_d70.2.2.2.2.2.2.2.2.2.2.2.2.2.2.1
theorem dX8_best_28 : decode cX8_best 28 = .ok (.invokestatic 68, 3) := dg_d70.2.2.2.2.2.2.2.2.2.2.2.2.2.2.2
theorem dg_d71 : (decode cX8_best 31 = .ok (.ifCond .ne 5, 3)) ∧ (decode cX8_best 34 = .ok (.iconst (-1), 1)) ∧ (decode cX8_best 35 = .ok (.ireturn, 1)) ∧ (decode cX8_best 36 = .ok (.iconst 0, 1)) ∧ (decode cX8_best 37 = .ok (.istore_n 3, 1)) ∧ (decode cX8_best 38 = .ok (.aload_n 0, 1)) ∧ (decode cX8_best 39 = .ok (.ldc 233, 2)) ∧ (decode cX8_best 41 = .ok (.putfield 227, 3)) ∧ (decode cX8_best 44 = .ok (.aload_n 0, 1)) ∧ (decode cX8_best 45 = .ok (.iconst 0, 1)) ∧ (decode cX8_best 46 = .ok (.putfield 230, 3)) ∧ (decode cX8_best 49 = .ok (.iconst 0, 1)) ∧ (decode cX8_best 50 = .ok (.istore 4, 2)) ∧ (decode cX8_best 52 = .ok (.iload 4, 2)) ∧ (decode cX8_best 54 = .ok (.bipush 7, 2)) ∧ (decode cX8_best 56 = .ok (.iload_n 1, 1)) := by decide +kernel
theorem dX8_best_31 : decode cX8_best 31 = .ok (.ifCond .ne 5, 3) := dg_d71.1
theorem dX8_best_34 : decode cX8_best 34 = .ok (.iconst (-1), 1) := dg_d71.2.1
theorem dX8_best_35 : decode cX8_best 35 = .ok (.ireturn, 1) := dg_d71.2.2.1
theorem dX8_best_36 : decode cX8_best 36 = .ok (.iconst 0, 1) := dg_d71.2.2.2.1
theorem dX8_best_37 : decode cX8_best 37 = .ok (.istore_n 3, 1) := dg_d71.2.2.2.2.1
theorem dX8_best_38 : decode cX8_best 38 = .ok (.aload_n 0, 1) := dg_d71.2.2.2.2.2.1
theorem dX8_best_39 : decode cX8_best 39 = .ok (.ldc 233, 2) := dg_d71.2.2.2.2.2.2.1
theorem dX8_best_41 : decode cX8_best 41 = .ok (.putfield 227, 3) := dg_d71.2.2.2.2.2.2.2.1
theorem dX8_best_44 : decode cX8_best 44 = .ok (.aload_n 0, 1) := dg_d71.2.2.2.2.2.2.2.2.1
theorem dX8_best_45 : decode cX8_best 45 = .ok (.iconst 0, 1) := dg_d71.2.2.2.2.2.2.2.2.2.1
theorem dX8_best_46 : decode cX8_best 46 = .ok (.putfield 230, 3) := dg_d71.2.2.2.2.2.2.2.2.2.2.1
theorem dX8_best_49 : decode cX8_best 49 = .ok (.iconst 0, 1) := dg_d71.2.2.2.2.2.2.2.2.2.2.2.1
theorem dX8_best_50 : decode cX8_best 50 = .ok (.istore 4, 2) := dg_d71.2.2.2.2.2.2.2.2.2.2.2.2.1
theorem dX8_best_52 : decode cX8_best 52 = .ok (.iload 4, 2) := dg_d71.2.2.2.2.2.2.2.2.2.2.2.2.2.1
theorem dX8_best_54 : decode cX8_best 54 = .ok (.bipush 7, 2) := dg_d71.2.2.2.2.2.2.2.2.2.2.2.2.2.2.1
theorem dX8_best_56 : decode cX8_best 56 = .ok (.iload_n 1, 1) := dg_d71.2.2.2.2.2.2.2.2.2.2.2.2.2.2.2
theorem dg_d72 : (decode cX8_best 57 = .ok (.invokestatic 237, 3)) ∧ (decode cX8_best 60 = .ok (.if_icmp .ge 65, 3)) ∧ (decode cX8_best 63 = .ok (.aload_n 0, 1)) ∧ (decode cX8_best 64 = .ok (.iload 4, 2)) ∧ (decode cX8_best 66 = .ok (.iload_n 1, 1)) ∧ (decode cX8_best 67 = .ok (.invokevirtual 249, 3)) ∧ (decode cX8_best 70 = .ok (.ifCond .eq 49, 3)) ∧ (decode cX8_best 73 = .ok (.aload_n 0, 1)) ∧ (decode cX8_best 74 = .ok (.invokevirtual 188, 3)) ∧ (decode cX8_best 77 = .ok (.iconst 0, 1)) ∧ (decode cX8_best 78 = .ok (.istore 5, 2)) ∧ (decode cX8_best 80 = .ok (.iload 5, 2)) ∧ (decode cX8_best 82 = .ok (.iload_n 1, 1)) ∧ (decode cX8_best 83 = .ok (.if_icmp .ge 22, 3)) ∧ (decode cX8_best 86 = .ok (.aload_n 0, 1)) ∧ (decode cX8_best 87 = .ok (.iload 4, 2)) := by decide +kernel
theorem dX8_best_57 : decode cX8_best 57 = .ok (.invokestatic 237, 3) := dg_d72.1
theorem dX8_best_60 : decode cX8_best 60 = .ok (.if_icmp .ge 65, 3) := dg_d72.2.1
theorem dX8_best_63 : decode cX8_best 63 = .ok (.aload_n 0, 1) := dg_d72.2.2.1
theorem dX8_best_64 : decode cX8_best 64 = .ok (.iload 4, 2) := dg_d72.2.2.2.1
theorem dX8_best_66 : decode cX8_best 66 = .ok (.iload_n 1, 1) := dg_d72.2.2.2.2.1
theorem dX8_best_67 : decode cX8_best 67 = .ok (.invokevirtual 249, 3) := dg_d72.2.2.2.2.2.1
theorem dX8_best_70 : decode cX8_best 70 = .ok (.ifCond .eq 49, 3) := dg_d72.2.2.2.2.2.2.1
theorem dX8_best_73 : decode cX8_best 73 = .ok (.aload_n 0, 1) := dg_d72.2.2.2.2.2.2.2.1
theorem dX8_best_74 : decode cX8_best 74 = .ok (.invokevirtual 188, 3) := dg_d72.2.2.2.2.2.2.2.2.1
theorem dX8_best_77 : decode cX8_best 77 = .ok (.iconst 0, 1) := dg_d72.2.2.2.2.2.2.2.2.2.1
theorem dX8_best_78 : decode cX8_best 78 = .ok (.istore 5, 2) := dg_d72.2.2.2.2.2.2.2.2.2.2.1
theorem dX8_best_80 : decode cX8_best 80 = .ok (.iload 5, 2) := dg_d72.2.2.2.2.2.2.2.2.2.2.2.1
theorem dX8_best_82 : decode cX8_best 82 = .ok (.iload_n 1, 1) := dg_d72.2.2.2.2.2.2.2.2.2.2.2.2.1
theorem dX8_best_83 : decode cX8_best 83 = .ok (.if_icmp .ge 22, 3) := dg_d72.2.2.2.2.2.2.2.2.2.2.2.2.2.1
theorem dX8_best_86 : decode cX8_best 86 = .ok (.aload_n 0, 1) := dg_d72.2.2.2.2.2.2.2.2.2.2.2.2.2.2.1
theorem dX8_best_87 : decode cX8_best 87 = .ok (.iload 4, 2) := dg_d72.2.2.2.2.2.2.2.2.2.2.2.2.2.2.2
theorem dg_d73 : (decode cX8_best 89 = .ok (.iload_n 1, 1)) ∧ (decode cX8_best 90 = .ok (.iload 5, 2)) ∧ (decode cX8_best 92 = .ok (.invokestatic 240, 3)) ∧ (decode cX8_best 95 = .ok (.invokevirtual 185, 3)) ∧ (decode cX8_best 98 = .ok (.pop, 1)) ∧ (decode cX8_best 99 = .ok (.iinc 5 1, 3)) ∧ (decode cX8_best 102 = .ok (.goto (-22), 3)) ∧ (decode cX8_best 105 = .ok (.aload_n 0, 1)) ∧ (decode cX8_best 106 = .ok (.invokevirtual 234, 3)) ∧ (decode cX8_best 109 = .ok (.ifCond .eq 8, 3)) ∧ (decode cX8_best 112 = .ok (.iload 4, 2)) ∧ (decode cX8_best 114 = .ok (.goto 4, 3)) ∧ (decode cX8_best 117 = .ok (.iload_n 3, 1)) ∧ (decode cX8_best 118 = .ok (.istore_n 3, 1)) ∧ (decode cX8_best 119 = .ok (.iinc 4 1, 3)) ∧ (decode cX8_best 122 = .ok (.goto (-70), 3)) := by decide +kernel
theorem dX8_best_89 : decode cX8_best 89 = .ok (.iload_n 1, 1) := dg_d73.1
theorem dX8_best_90 : decode cX8_best 90 = .ok (.iload 5, 2) := dg_d73.2.1
theorem dX8_best_92 : decode cX8_best 92 = .ok (.invokestatic 240, 3) := dg_d73.2.2.1
theorem dX8_best_95 : decode cX8_best 95 = .ok (.invokevirtual 185, 3) := dg_d73.2.2.2.1
theorem dX8_best_98 : decode cX8_best 98 = .ok (.pop, 1) := dg_d73.2.2.2.2.1
theorem dX8_best_99 : decode cX8_best 99 = .ok (.iinc 5 1, 3) := dg_d73.2.2.2.2.2.1
theorem dX8_best_102 : decode cX8_best 102 = .ok (.goto (-22), 3) := dg_d73.2.2.2.2.2.2.1
theorem dX8_best_105 : decode cX8_best 105 = .ok (.aload_n 0, 1) := dg_d73.2.2.2.2.2.2.2.1
theorem dX8_best_106 : decode cX8_best 106 = .ok (.invokevirtual 234, 3) := dg_d73.2.2.2.2.2.2.2.2.1
theorem dX8_best_109 : decode cX8_best 109 = .ok (.ifCond .eq 8, 3) := dg_d73.2.2.2.2.2.2.2.2.2.1
theorem dX8_best_112 : decode cX8_best 112 = .ok (.iload 4, 2) := dg_d73.2.2.2.2.2.2.2.2.2.2.1
theorem dX8_best_114 : decode cX8_best 114 = .ok (.goto 4, 3) := dg_d73.2.2.2.2.2.2.2.2.2.2.2.1
theorem dX8_best_117 : decode cX8_best 117 = .ok (.iload_n 3, 1) := dg_d73.2.2.2.2.2.2.2.2.2.2.2.2.1
theorem dX8_best_118 : decode cX8_best 118 = .ok (.istore_n 3, 1) := dg_d73.2.2.2.2.2.2.2.2.2.2.2.2.2.1
theorem dX8_best_119 : decode cX8_best 119 = .ok (.iinc 4 1, 3) := dg_d73.2.2.2.2.2.2.2.2.2.2.2.2.2.2.1
theorem dX8_best_122 : decode cX8_best 122 = .ok (.goto (-70), 3) := dg_d73.2.2.2.2.2.2.2.2.2.2.2.2.2.2.2
theorem dg_d74 : (decode cX8_best 125 = .ok (.iload_n 2, 1)) ∧ (decode cX8_best 126 = .ok (.invokestatic 246, 3)) ∧ (decode cX8_best 129 = .ok (.ifCond .eq 23, 3)) ∧ (decode cX8_best 132 = .ok (.iload_n 2, 1)) ∧ (decode cX8_best 133 = .ok (.ifCond .ne 14, 3)) ∧ (decode cX8_best 136 = .ok (.sipush 1000, 3)) ∧ (decode cX8_best 139 = .ok (.aload_n 0, 1)) ∧ (decode cX8_best 140 = .ok (.getfield 227, 3)) ∧ (decode cX8_best 143 = .ok (.iadd, 1)) ∧ (decode cX8_best 144 = .ok (.goto 7, 3)) ∧ (decode cX8_best 147 = .ok (.aload_n 0, 1)) ∧ (decode cX8_best 148 = .ok (.getfield 230, 3)) ∧ (decode cX8_best 151 = .ok (.ireturn, 1)) ∧ (decode cX8_best 152 = .ok (.iload_n 2, 1)) ∧ (decode cX8_best 153 = .ok (.bipush 10, 2)) ∧ (decode cX8_best 155 = .ok (.isub, 1)) := by decide +kernel
theorem dX8_best_125 : decode cX8_best 125 = .ok (.iload_n 2, 1) := dg_d74.1
theorem dX8_best_126 : decode cX8_best 126 = .ok (.invokestatic 246, 3) := dg_d74.2.1
theorem dX8_best_129 : decode cX8_best 129 = .ok (.ifCond .eq 23, 3) := dg_d74.2.2.1
theorem dX8_best_132 : decode cX8_best 132 = .ok (.iload_n 2, 1) := dg_d74.2.2.2.1
theorem dX8_best_133 : decode cX8_best 133 = .ok (.ifCond .ne 14, 3) := dg_d74.2.2.2.2.1
theorem dX8_best_136 : decode cX8_best 136 = .ok (.sipush 1000, 3) := dg_d74.2.2.2.2.2.1
theorem dX8_best_139 : decode cX8_best 139 = .ok (.aload_n 0, 1) := dg_d74.2.2.2.2.2.2.1
theorem dX8_best_140 : decode cX8_best 140 = .ok (.getfield 227, 3) := dg_d74.2.2.2.2.2.2.2.1
theorem dX8_best_143 : decode cX8_best 143 = .ok (.iadd, 1) := dg_d74.2.2.2.2.2.2.2.2.1
theorem dX8_best_144 : decode cX8_best 144 = .ok (.goto 7, 3) := dg_d74.2.2.2.2.2.2.2.2.2.1
theorem dX8_best_147 : decode cX8_best 147 = .ok (.aload_n 0, 1) := dg_d74.2.2.2.2.2.2.2.2.2.2.1
theorem dX8_best_148 : decode cX8_best 148 = .ok (.getfield 230, 3) := dg_d74.2.2.2.2.2.2.2.2.2.2.2.1
theorem dX8_best_151 : decode cX8_best 151 = .ok (.ireturn, 1) := dg_d74.2.2.2.2.2.2.2.2.2.2.2.2.1
theorem dX8_best_152 : decode cX8_best 152 = .ok (.iload_n 2, 1) := dg_d74.2.2.2.2.2.2.2.2.2.2.2.2.2.1
theorem dX8_best_153 : decode cX8_best 153 = .ok (.bipush 10, 2) := dg_d74.2.2.2.2.2.2.2.2.2.2.2.2.2.2.1
theorem dX8_best_155 : decode cX8_best 155 = .ok (.isub, 1) := dg_d74.2.2.2.2.2.2.2.2.2.2.2.2.2.2.2
theorem dg_d75 : (decode cX8_best 156 = .ok (.iload_n 1, 1)) ∧ (decode cX8_best 157 = .ok (.if_icmp .ge 15, 3)) ∧ (decode cX8_best 160 = .ok (.iload_n 3, 1)) ∧ (decode cX8_best 161 = .ok (.iload_n 1, 1)) ∧ (decode cX8_best 162 = .ok (.iload_n 2, 1)) ∧ (decode cX8_best 163 = .ok (.bipush 10, 2)) ∧ (decode cX8_best 165 = .ok (.isub, 1)) ∧ (decode cX8_best 166 = .ok (.invokestatic 240, 3)) ∧ (decode cX8_best 169 = .ok (.goto 5, 3)) ∧ (decode cX8_best 172 = .ok (.bipush (-4), 2)) ∧ (decode cX8_best 174 = .ok (.ireturn, 1)) := by decide +kernel
theorem dX8_best_156 : decode cX8_best 156 = .ok (.iload_n 1, 1) := dg_d75.1
theorem dX8_best_157 : decode cX8_best 157 = .ok (.if_icmp .ge 15, 3) := dg_d75.2.1
theorem dX8_best_160 : decode cX8_best 160 = .ok (.iload_n 3, 1) := dg_d75.2.2.1
theorem dX8_best_161 : decode cX8_best 161 = .ok (.iload_n 1, 1) := dg_d75.2.2.2.1
theorem dX8_best_162 : decode cX8_best 162 = .ok (.iload_n 2, 1) := dg_d75.2.2.2.2.1
theorem dX8_best_163 : decode cX8_best 163 = .ok (.bipush 10, 2) := dg_d75.2.2.2.2.2.1
theorem dX8_best_165 : decode cX8_best 165 = .ok (.isub, 1) := dg_d75.2.2.2.2.2.2.1
theorem dX8_best_166 : decode cX8_best 166 = .ok (.invokestatic 240, 3) := dg_d75.2.2.2.2.2.2.2.1
theorem dX8_best_169 : decode cX8_best 169 = .ok (.goto 5, 3) := dg_d75.2.2.2.2.2.2.2.2.1
theorem dX8_best_172 : decode cX8_best 172 = .ok (.bipush (-4), 2) := dg_d75.2.2.2.2.2.2.2.2.2.1
theorem dX8_best_174 : decode cX8_best 174 = .ok (.ireturn, 1) := dg_d75.2.2.2.2.2.2.2.2.2.2
theorem dg_d76 : (decode cX8_front 0 = .ok (.iload_n 1, 1)) ∧ (decode cX8_front 1 = .ok (.invokestatic 246, 3)) ∧ (decode cX8_front 4 = .ok (.ifCond .ne 5, 3)) ∧ (decode cX8_front 7 = .ok (.iconst (-1), 1)) ∧ (decode cX8_front 8 = .ok (.ireturn, 1)) ∧ (decode cX8_front 9 = .ok (.bipush (-4), 2)) ∧ (decode cX8_front 11 = .ok (.istore_n 2, 1)) ∧ (decode cX8_front 12 = .ok (.ldc 233, 2)) ∧ (decode cX8_front 14 = .ok (.istore_n 3, 1)) ∧ (decode cX8_front 15 = .ok (.iconst 0, 1)) ∧ (decode cX8_front 16 = .ok (.istore 4, 2)) ∧ (decode cX8_front 18 = .ok (.iload 4, 2)) ∧ (decode cX8_front 20 = .ok (.aload_n 0, 1)) ∧ (decode cX8_front 21 = .ok (.getfield 63, 3)) ∧ (decode cX8_front 24 = .ok (.if_icmp .ge 79, 3)) ∧ (decode cX8_front 27 = .ok (.aload_n 0, 1)) := by decide +kernel
theorem dX8_front_0 : decode cX8_front 0 = .ok (.iload_n 1, 1) := dg_d76.1
theorem dX8_front_1 : decode cX8_front 1 = .ok (.invokestatic 246, 3) := dg_d76.2.1
theorem dX8_front_4 : decode cX8_front 4 = .ok (.ifCond .ne 5, 3) := dg_d76.2.2.1
theorem dX8_front_7 : decode cX8_front 7 = .ok (.iconst (-1), 1) := dg_d76.2.2.2.1
theorem dX8_front_8 : decode cX8_front 8 = .ok (.ireturn, 1) := dg_d76.2.2.2.2.1
theorem dX8_front_9 : decode cX8_front 9 = .ok (.bipush (-4), 2) := dg_d76.2.2.2.2.2.1
theorem dX8_front_11 : decode cX8_front 11 = .ok (.istore_n 2, 1) := dg_d76.2.2.2.2.2.2.1
theorem dX8_front_12 : decode cX8_front 12 = .ok (.ldc 233, 2) := dg_d76.2.2.2.2.2.2.2.1
theorem dX8_front_14 : decode cX8_front 14 = .ok (.istore_n 3, 1) := dg_d76.2.2.2.2.2.2.2.2.1
theorem dX8_front_15 : decode cX8_front 15 = .ok (.iconst 0, 1) := dg_d76.2.2.2.2.2.2.2.2.2.1
theorem dX8_front_16 : decode cX8_front 16 = .ok (.istore 4, 2) := dg_d76.2.2.2.2.2.2.2.2.2.2.1
theorem dX8_front_18 : decode cX8_front 18 = .ok (.iload 4, 2) := dg_d76.2.2.2.2.2.2.2.2.2.2.2.1
theorem dX8_front_20 : decode cX8_front 20 = .ok (.aload_n 0, 1) := dg_d76.2.2.2.2.2.2.2.2.2.2.2.2.1
theorem dX8_front_21 : decode cX8_front 21 = .ok (.getfield 63, 3) := dg_d76.2.2.2.2.2.2.2.2.2.2.2.2.2.1
theorem dX8_front_24 : decode cX8_front 24 = .ok (.if_icmp .ge 79, 3) := dg_d76.2.2.2.2.2.2.2.2.2.2.2.2.2.2.1
theorem dX8_front_27 : decode cX8_front 27 = .ok (.aload_n 0, 1) := dg_d76.2.2.2.2.2.2.2.2.2.2.2.2.2.2.2
theorem dg_d77 : (decode cX8_front 28 = .ok (.invokevirtual 188, 3)) ∧ (decode cX8_front 31 = .ok (.aload_n 0, 1)) ∧ (decode cX8_front 32 = .ok (.getfield 13, 3)) ∧ (decode cX8_front 35 = .ok (.bipush 23, 2)) ∧ (decode cX8_front 37 = .ok (.iload 4, 2)) ∧ (decode cX8_front 39 = .ok (.iastore, 1)) ∧ (decode cX8_front 40 = .ok (.aload_n 0, 1)) ∧ (decode cX8_front 41 = .ok (.invokevirtual 224, 3)) ∧ (decode cX8_front 44 = .ok (.aload_n 0, 1)) ∧ (decode cX8_front 45 = .ok (.getfield 13, 3)) ∧ (decode cX8_front 48 = .ok (.bipush 31, 2)) ∧ (decode cX8_front 50 = .ok (.iaload, 1)) ∧ (decode cX8_front 51 = .ok (.invokestatic 179, 3)) ∧ (decode cX8_front 54 = .ok (.iload_n 3, 1)) ∧ (decode cX8_front 55 = .ok (.invokestatic 179, 3)) ∧ (decode cX8_front 58 = .ok (.if_icmp .ge 7, 3)) := by decide +kernel
theorem dX8_front_28 : decode cX8_front 28 = .ok (.invokevirtual 188, 3) := dg_d77.1
theorem dX8_front_31 : decode cX8_front 31 = .ok (.aload_n 0, 1) := dg_d77.2.1
theorem dX8_front_32 : decode cX8_front 32 = .ok (.getfield 13, 3) := dg_d77.2.2.1
theorem dX8_front_35 : decode cX8_front 35 = .ok (.bipush 23, 2) := dg_d77.2.2.2.1
theorem dX8_front_37 : decode cX8_front 37 = .ok (.iload 4, 2) := dg_d77.2.2.2.2.1
theorem dX8_front_39 : decode cX8_front 39 = .ok (.iastore, 1) := dg_d77.2.2.2.2.2.1
theorem dX8_front_40 : decode cX8_front 40 = .ok (.aload_n 0, 1) := dg_d77.2.2.2.2.2.2.1
theorem dX8_front_41 : decode cX8_front 41 = .ok (.invokevirtual 224, 3) := dg_d77.2.2.2.2.2.2.2.1
theorem dX8_front_44 : decode cX8_front 44 = .ok (.aload_n 0, 1) := dg_d77.2.2.2.2.2.2.2.2.1
theorem dX8_front_45 : decode cX8_front 45 = .ok (.getfield 13, 3) := dg_d77.2.2.2.2.2.2.2.2.2.1
theorem dX8_front_48 : decode cX8_front 48 = .ok (.bipush 31, 2) := dg_d77.2.2.2.2.2.2.2.2.2.2.1
theorem dX8_front_50 : decode cX8_front 50 = .ok (.iaload, 1) := dg_d77.2.2.2.2.2.2.2.2.2.2.2.1
theorem dX8_front_51 : decode cX8_front 51 = .ok (.invokestatic 179, 3) := dg_d77.2.2.2.2.2.2.2.2.2.2.2.2.1
theorem dX8_front_54 : decode cX8_front 54 = .ok (.iload_n 3, 1) := dg_d77.2.2.2.2.2.2.2.2.2.2.2.2.2.1
theorem dX8_front_55 : decode cX8_front 55 = .ok (.invokestatic 179, 3) := dg_d77.2.2.2.2.2.2.2.2.2.2.2.2.2.2.1
theorem dX8_front_58 : decode cX8_front 58 = .ok (.if_icmp .ge 7, 3) := dg_d77.2.2.2.2.2.2.2.2.2.2.2.2.2.2.2
theorem dg_d78 : (decode cX8_front 61 = .ok (.iconst 1, 1)) ∧ (decode cX8_front 62 = .ok (.goto 4, 3)) ∧ (decode cX8_front 65 = .ok (.iconst 0, 1)) ∧ (decode cX8_front 66 = .ok (.istore 5, 2)) ∧ (decode cX8_front 68 = .ok (.iload 5, 2)) ∧ (decode cX8_front 70 = .ok (.ifCond .eq 8, 3)) ∧ (decode cX8_front 73 = .ok (.iload 4, 2)) ∧ (decode cX8_front 75 = .ok (.goto 4, 3)) ∧ (decode cX8_front 78 = .ok (.iload_n 2, 1)) ∧ (decode cX8_front 79 = .ok (.istore_n 2, 1)) ∧ (decode cX8_front 80 = .ok (.iload 5, 2)) ∧ (decode cX8_front 82 = .ok (.ifCond .eq 13, 3)) ∧ (decode cX8_front 85 = .ok (.aload_n 0, 1)) ∧ (decode cX8_front 86 = .ok (.getfield 13, 3)) ∧ (decode cX8_front 89 = .ok (.bipush 31, 2)) ∧ (decode cX8_front 91 = .ok (.iaload, 1)) := by decide +kernel
theorem dX8_front_61 : decode cX8_front 61 = .ok (.iconst 1, 1) := dg_d78.1
theorem dX8_front_62 : decode cX8_front 62 = .ok (.goto 4, 3) := dg_d78.2.1
theorem dX8_front_65 : decode cX8_front 65 = .ok (.iconst 0, 1) := dg_d78.2.2.1
theorem dX8_front_66 : decode cX8_front 66 = .ok (.istore 5, 2) := dg_d78.2.2.2.1
theorem dX8_front_68 : decode cX8_front 68 = .ok (.iload 5, 2) := dg_d78.2.2.2.2.1
theorem dX8_front_70 : decode cX8_front 70 = .ok (.ifCond .eq 8, 3) := dg_d78.2.2.2.2.2.1
theorem dX8_front_73 : decode cX8_front 73 = .ok (.iload 4, 2) := dg_d78.2.2.2.2.2.2.1
theorem dX8_front_75 : decode cX8_front 75 = .ok (.goto 4, 3) := dg_d78.2.2.2.2.2.2.2.1
theorem dX8_front_78 : decode cX8_front 78 = .ok (.iload_n 2, 1) := dg_d78.2.2.2.2.2.2.2.2.1
theorem dX8_front_79 : decode cX8_front 79 = .ok (.istore_n 2, 1) := dg_d78.2.2.2.2.2.2.2.2.2.1
theorem dX8_front_80 : decode cX8_front 80 = .ok (.iload 5, 2) := dg_d78.2.2.2.2.2.2.2.2.2.2.1
theorem dX8_front_82 : decode cX8_front 82 = .ok (.ifCond .eq 13, 3) := dg_d78.2.2.2.2.2.2.2.2.2.2.2.1
theorem dX8_front_85 : decode cX8_front 85 = .ok (.aload_n 0, 1) := dg_d78.2.2.2.2.2.2.2.2.2.2.2.2.1
theorem dX8_front_86 : decode cX8_front 86 = .ok (.getfield 13, 3) := dg_d78.2.2.2.2.2.2.2.2.2.2.2.2.2.1
theorem dX8_front_89 : decode cX8_front 89 = .ok (.bipush 31, 2) := dg_d78.2.2.2.2.2.2.2.2.2.2.2.2.2.2.1
theorem dX8_front_91 : decode cX8_front 91 = .ok (.iaload, 1) := dg_d78.2.2.2.2.2.2.2.2.2.2.2.2.2.2.2
theorem dg_d79 : (decode cX8_front 92 = .ok (.goto 4, 3)) ∧ (decode cX8_front 95 = .ok (.iload_n 3, 1)) ∧ (decode cX8_front 96 = .ok (.istore_n 3, 1)) ∧ (decode cX8_front 97 = .ok (.iinc 4 1, 3)) ∧ (decode cX8_front 100 = .ok (.goto (-82), 3)) ∧ (decode cX8_front 103 = .ok (.iload_n 2, 1)) ∧ (decode cX8_front 104 = .ok (.bipush (-4), 2)) ∧ (decode cX8_front 106 = .ok (.if_icmp .ne 8, 3)) ∧ (decode cX8_front 109 = .ok (.bipush (-4), 2)) ∧ (decode cX8_front 111 = .ok (.goto 16, 3)) ∧ (decode cX8_front 114 = .ok (.iload_n 1, 1)) ∧ (decode cX8_front 115 = .ok (.ifCond .ne 7, 3)) ∧ (decode cX8_front 118 = .ok (.iload_n 2, 1)) ∧ (decode cX8_front 119 = .ok (.goto 8, 3)) ∧ (decode cX8_front 122 = .ok (.sipush 1000, 3)) ∧ (decode cX8_front 125 = .ok (.iload_n 3, 1)) := by decide +kernel
theorem dX8_front_92 : decode cX8_front 92 = .ok (.goto 4, 3) := dg_d79.1
theorem dX8_front_95 : decode cX8_front 95 = .ok (.iload_n 3, 1) := dg_d79.2.1
theorem dX8_front_96 : decode cX8_front 96 = .ok (.istore_n 3, 1) := dg_d79.2.2.1
theorem dX8_front_97 : decode cX8_front 97 = .ok (.iinc 4 1, 3) := dg_d79.2.2.2.1
theorem dX8_front_100 : decode cX8_front 100 = .ok (.goto (-82), 3) := dg_d79.2.2.2.2.1
theorem dX8_front_103 : decode cX8_front 103 = .ok (.iload_n 2, 1) := dg_d79.2.2.2.2.2.1
theorem dX8_front_104 : decode cX8_front 104 = .ok (.bipush (-4), 2) := dg_d79.2.2.2.2.2.2.1
theorem dX8_front_106 : decode cX8_front 106 = .ok (.if_icmp .ne 8, 3) := dg_d79.2.2.2.2.2.2.2.1
theorem dX8_front_109 : decode cX8_front 109 = .ok (.bipush (-4), 2) := dg_d79.2.2.2.2.2.2.2.2.1
theorem dX8_front_111 : decode cX8_front 111 = .ok (.goto 16, 3) := dg_d79.2.2.2.2.2.2.2.2.2.1
theorem dX8_front_114 : decode cX8_front 114 = .ok (.iload_n 1, 1) := dg_d79.2.2.2.2.2.2.2.2.2.2.1
theorem dX8_front_115 : decode cX8_front 115 = .ok (.ifCond .ne 7, 3) := dg_d79.2.2.2.2.2.2.2.2.2.2.2.1
theorem dX8_front_118 : decode cX8_front 118 = .ok (.iload_n 2, 1) := dg_d79.2.2.2.2.2.2.2.2.2.2.2.2.1
theorem dX8_front_119 : decode cX8_front 119 = .ok (.goto 8, 3) := dg_d79.2.2.2.2.2.2.2.2.2.2.2.2.2.1
theorem dX8_front_122 : decode cX8_front 122 = .ok (.sipush 1000, 3) := dg_d79.2.2.2.2.2.2.2.2.2.2.2.2.2.2.1
theorem dX8_front_125 : decode cX8_front 125 = .ok (.iload_n 3, 1) := dg_d79.2.2.2.2.2.2.2.2.2.2.2.2.2.2.2
theorem dg_d80 : (decode cX8_front 126 = .ok (.iadd, 1)) ∧ (decode cX8_front 127 = .ok (.ireturn, 1)) := by decide +kernel
theorem dX8_front_126 : decode cX8_front 126 = .ok (.iadd, 1) := dg_d80.1
theorem dX8_front_127 : decode cX8_front 127 = .ok (.ireturn, 1) := dg_d80.2
theorem dg_d81 : (decode cX8_bitsOf 0 = .ok (.iconst 0, 1)) ∧ (decode cX8_bitsOf 1 = .ok (.istore_n 1, 1)) ∧ (decode cX8_bitsOf 2 = .ok (.iconst 0, 1)) ∧ (decode cX8_bitsOf 3 = .ok (.istore_n 2, 1)) ∧ (decode cX8_bitsOf 4 = .ok (.iload_n 2, 1)) ∧ (decode cX8_bitsOf 5 = .ok (.iconst 5, 1)) ∧ (decode cX8_bitsOf 6 = .ok (.if_icmp .ge 17, 3)) ∧ (decode cX8_bitsOf 9 = .ok (.iload_n 1, 1)) ∧ (decode cX8_bitsOf 10 = .ok (.iload_n 0, 1)) ∧ (decode cX8_bitsOf 11 = .ok (.iload_n 2, 1)) ∧ (decode cX8_bitsOf 12 = .ok (.ishr, 1)) ∧ (decode cX8_bitsOf 13 = .ok (.iconst 1, 1)) ∧ (decode cX8_bitsOf 14 = .ok (.iand, 1)) ∧ (decode cX8_bitsOf 15 = .ok (.iadd, 1)) ∧ (decode cX8_bitsOf 16 = .ok (.istore_n 1, 1)) ∧ (decode cX8_bitsOf 17 = .ok (.iinc 2 1, 3)) := by decide +kernel
theorem dX8_bitsOf_0 : decode cX8_bitsOf 0 = .ok (.iconst 0, 1) := dg_d81.1
theorem dX8_bitsOf_1 : decode cX8_bitsOf 1 = .ok (.istore_n 1, 1) := dg_d81.2.1
theorem dX8_bitsOf_2 : decode cX8_bitsOf 2 = .ok (.iconst 0, 1) := dg_d81.2.2.1
theorem dX8_bitsOf_3 : decode cX8_bitsOf 3 = .ok (.istore_n 2, 1) := dg_d81.2.2.2.1
theorem dX8_bitsOf_4 : decode cX8_bitsOf 4 = .ok (.iload_n 2, 1) := dg_d81.2.2.2.2.1
theorem dX8_bitsOf_5 : decode cX8_bitsOf 5 = .ok (.iconst 5, 1) := dg_d81.2.2.2.2.2.1
theorem dX8_bitsOf_6 : decode cX8_bitsOf 6 = .ok (.if_icmp .ge 17, 3) := dg_d81.2.2.2.2.2.2.1
theorem dX8_bitsOf_9 : decode cX8_bitsOf 9 = .ok (.iload_n 1, 1) := dg_d81.2.2.2.2.2.2.2.1
theorem dX8_bitsOf_10 : decode cX8_bitsOf 10 = .ok (.iload_n 0, 1) := dg_d81.2.2.2.2.2.2.2.2.1
theorem dX8_bitsOf_11 : decode cX8_bitsOf 11 = .ok (.iload_n 2, 1) := dg_d81.2.2.2.2.2.2.2.2.2.1
theorem dX8_bitsOf_12 : decode cX8_bitsOf 12 = .ok (.ishr, 1) := dg_d81.2.2.2.2.2.2.2.2.2.2.1
theorem dX8_bitsOf_13 : decode cX8_bitsOf 13 = .ok (.iconst 1, 1) := dg_d81.2.2.2.2.2.2.2.2.2.2.2.1
theorem dX8_bitsOf_14 : decode cX8_bitsOf 14 = .ok (.iand, 1) := dg_d81.2.2.2.2.2.2.2.2.2.2.2.2.1
theorem dX8_bitsOf_15 : decode cX8_bitsOf 15 = .ok (.iadd, 1) := dg_d81.2.2.2.2.2.2.2.2.2.2.2.2.2.1
theorem dX8_bitsOf_16 : decode cX8_bitsOf 16 = .ok (.istore_n 1, 1) := dg_d81.2.2.2.2.2.2.2.2.2.2.2.2.2.2.1
theorem dX8_bitsOf_17 : decode cX8_bitsOf 17 = .ok (.iinc 2 1, 3) := dg_d81.2.2.2.2.2.2.2.2.2.2.2.2.2.2.2
theorem dg_d82 : (decode cX8_bitsOf 20 = .ok (.goto (-16), 3)) ∧ (decode cX8_bitsOf 23 = .ok (.iload_n 1, 1)) ∧ (decode cX8_bitsOf 24 = .ok (.ireturn, 1)) := by decide +kernel
theorem dX8_bitsOf_20 : decode cX8_bitsOf 20 = .ok (.goto (-16), 3) := dg_d82.1
theorem dX8_bitsOf_23 : decode cX8_bitsOf 23 = .ok (.iload_n 1, 1) := dg_d82.2.1
theorem dX8_bitsOf_24 : decode cX8_bitsOf 24 = .ok (.ireturn, 1) := dg_d82.2.2
theorem dg_d83 : (decode cX8_known 0 = .ok (.iconst 0, 1)) ∧ (decode cX8_known 1 = .ok (.istore_n 1, 1)) ∧ (decode cX8_known 2 = .ok (.iconst 0, 1)) ∧ (decode cX8_known 3 = .ok (.istore_n 2, 1)) ∧ (decode cX8_known 4 = .ok (.iload_n 2, 1)) ∧ (decode cX8_known 5 = .ok (.aload_n 0, 1)) ∧ (decode cX8_known 6 = .ok (.getfield 60, 3)) ∧ (decode cX8_known 9 = .ok (.if_icmp .ge 24, 3)) ∧ (decode cX8_known 12 = .ok (.iload_n 1, 1)) ∧ (decode cX8_known 13 = .ok (.aload_n 0, 1)) ∧ (decode cX8_known 14 = .ok (.getfield 7, 3)) ∧ (decode cX8_known 17 = .ok (.iconst 4, 1)) ∧ (decode cX8_known 18 = .ok (.iload_n 2, 1)) ∧ (decode cX8_known 19 = .ok (.imul, 1)) ∧ (decode cX8_known 20 = .ok (.iconst 3, 1)) ∧ (decode cX8_known 21 = .ok (.iadd, 1)) := by decide +kernel
theorem dX8_known_0 : decode cX8_known 0 = .ok (.iconst 0, 1) := dg_d83.1
theorem dX8_known_1 : decode cX8_known 1 = .ok (.istore_n 1, 1) := dg_d83.2.1
theorem dX8_known_2 : decode cX8_known 2 = .ok (.iconst 0, 1) := dg_d83.2.2.1
theorem dX8_known_3 : decode cX8_known 3 = .ok (.istore_n 2, 1) := dg_d83.2.2.2.1
theorem dX8_known_4 : decode cX8_known 4 = .ok (.iload_n 2, 1) := dg_d83.2.2.2.2.1
theorem dX8_known_5 : decode cX8_known 5 = .ok (.aload_n 0, 1) := dg_d83.2.2.2.2.2.1
theorem dX8_known_6 : decode cX8_known 6 = .ok (.getfield 60, 3) := dg_d83.2.2.2.2.2.2.1
theorem dX8_known_9 : decode cX8_known 9 = .ok (.if_icmp .ge 24, 3) := dg_d83.2.2.2.2.2.2.2.1
theorem dX8_known_12 : decode cX8_known 12 = .ok (.iload_n 1, 1) := dg_d83.2.2.2.2.2.2.2.2.1
theorem dX8_known_13 : decode cX8_known 13 = .ok (.aload_n 0, 1) := dg_d83.2.2.2.2.2.2.2.2.2.1
theorem dX8_known_14 : decode cX8_known 14 = .ok (.getfield 7, 3) := dg_d83.2.2.2.2.2.2.2.2.2.2.1
theorem dX8_known_17 : decode cX8_known 17 = .ok (.iconst 4, 1) := dg_d83.2.2.2.2.2.2.2.2.2.2.2.1
theorem dX8_known_18 : decode cX8_known 18 = .ok (.iload_n 2, 1) := dg_d83.2.2.2.2.2.2.2.2.2.2.2.2.1
theorem dX8_known_19 : decode cX8_known 19 = .ok (.imul, 1) := dg_d83.2.2.2.2.2.2.2.2.2.2.2.2.2.1
theorem dX8_known_20 : decode cX8_known 20 = .ok (.iconst 3, 1) := dg_d83.2.2.2.2.2.2.2.2.2.2.2.2.2.2.1
theorem dX8_known_21 : decode cX8_known 21 = .ok (.iadd, 1) := dg_d83.2.2.2.2.2.2.2.2.2.2.2.2.2.2.2
theorem dg_d84 : (decode cX8_known 22 = .ok (.iaload, 1)) ∧ (decode cX8_known 23 = .ok (.iload_n 2, 1)) ∧ (decode cX8_known 24 = .ok (.ishl, 1)) ∧ (decode cX8_known 25 = .ok (.ior, 1)) ∧ (decode cX8_known 26 = .ok (.istore_n 1, 1)) ∧ (decode cX8_known 27 = .ok (.iinc 2 1, 3)) ∧ (decode cX8_known 30 = .ok (.goto (-26), 3)) ∧ (decode cX8_known 33 = .ok (.iload_n 1, 1)) ∧ (decode cX8_known 34 = .ok (.ireturn, 1)) := by decide +kernel
theorem dX8_known_22 : decode cX8_known 22 = .ok (.iaload, 1) := dg_d84.1
theorem dX8_known_23 : decode cX8_known 23 = .ok (.iload_n 2, 1) := dg_d84.2.1
theorem dX8_known_24 : decode cX8_known 24 = .ok (.ishl, 1) := dg_d84.2.2.1
theorem dX8_known_25 : decode cX8_known 25 = .ok (.ior, 1) := dg_d84.2.2.2.1
theorem dX8_known_26 : decode cX8_known 26 = .ok (.istore_n 1, 1) := dg_d84.2.2.2.2.1
theorem dX8_known_27 : decode cX8_known 27 = .ok (.iinc 2 1, 3) := dg_d84.2.2.2.2.2.1
theorem dX8_known_30 : decode cX8_known 30 = .ok (.goto (-26), 3) := dg_d84.2.2.2.2.2.2.1
theorem dX8_known_33 : decode cX8_known 33 = .ok (.iload_n 1, 1) := dg_d84.2.2.2.2.2.2.2.1
theorem dX8_known_34 : decode cX8_known 34 = .ok (.ireturn, 1) := dg_d84.2.2.2.2.2.2.2.2
theorem dg_d85 : (decode cX8_knowsJust 0 = .ok (.aload_n 0, 1)) ∧ (decode cX8_knowsJust 1 = .ok (.invokevirtual 188, 3)) ∧ (decode cX8_knowsJust 4 = .ok (.iconst 0, 1)) ∧ (decode cX8_knowsJust 5 = .ok (.istore_n 2, 1)) ∧ (decode cX8_knowsJust 6 = .ok (.iload_n 2, 1)) ∧ (decode cX8_knowsJust 7 = .ok (.aload_n 0, 1)) ∧ (decode cX8_knowsJust 8 = .ok (.getfield 60, 3)) ∧ (decode cX8_knowsJust 11 = .ok (.if_icmp .ge 24, 3)) ∧ (decode cX8_knowsJust 14 = .ok (.aload_n 0, 1)) ∧ (decode cX8_knowsJust 15 = .ok (.getfield 13, 3)) ∧ (decode cX8_knowsJust 18 = .ok (.iconst 4, 1)) ∧ (decode cX8_knowsJust 19 = .ok (.iload_n 2, 1)) ∧ (decode cX8_knowsJust 20 = .ok (.imul, 1)) ∧ (decode cX8_knowsJust 21 = .ok (.iconst 3, 1)) ∧ (decode cX8_knowsJust 22 = .ok (.iadd, 1)) ∧ (decode cX8_knowsJust 23 = .ok (.iload_n 1, 1)) := by decide +kernel
theorem dX8_knowsJust_0 : decode cX8_knowsJust 0 = .ok (.aload_n 0, 1) := dg_d85.1
theorem dX8_knowsJust_1 : decode cX8_knowsJust 1 = .ok (.invokevirtual 188, 3) := dg_d85.2.1
theorem dX8_knowsJust_4 : decode cX8_knowsJust 4 = .ok (.iconst 0, 1) := dg_d85.2.2.1
theorem dX8_knowsJust_5 : decode cX8_knowsJust 5 = .ok (.istore_n 2, 1) := dg_d85.2.2.2.1
theorem dX8_knowsJust_6 : decode cX8_knowsJust 6 = .ok (.iload_n 2, 1) := dg_d85.2.2.2.2.1
theorem dX8_knowsJust_7 : decode cX8_knowsJust 7 = .ok (.aload_n 0, 1) := dg_d85.2.2.2.2.2.1
theorem dX8_knowsJust_8 : decode cX8_knowsJust 8 = .ok (.getfield 60, 3) := dg_d85.2.2.2.2.2.2.1
theorem dX8_knowsJust_11 : decode cX8_knowsJust 11 = .ok (.if_icmp .ge 24, 3) := dg_d85.2.2.2.2.2.2.2.1
theorem dX8_knowsJust_14 : decode cX8_knowsJust 14 = .ok (.aload_n 0, 1) := dg_d85.2.2.2.2.2.2.2.2.1
theorem dX8_knowsJust_15 : decode cX8_knowsJust 15 = .ok (.getfield 13, 3) := dg_d85.2.2.2.2.2.2.2.2.2.1
theorem dX8_knowsJust_18 : decode cX8_knowsJust 18 = .ok (.iconst 4, 1) := dg_d85.2.2.2.2.2.2.2.2.2.2.1
theorem dX8_knowsJust_19 : decode cX8_knowsJust 19 = .ok (.iload_n 2, 1) := dg_d85.2.2.2.2.2.2.2.2.2.2.2.1
theorem dX8_knowsJust_20 : decode cX8_knowsJust 20 = .ok (.imul, 1) := dg_d85.2.2.2.2.2.2.2.2.2.2.2.2.1
theorem dX8_knowsJust_21 : decode cX8_knowsJust 21 = .ok (.iconst 3, 1) := dg_d85.2.2.2.2.2.2.2.2.2.2.2.2.2.1
theorem dX8_knowsJust_22 : decode cX8_knowsJust 22 = .ok (.iadd, 1) := dg_d85.2.2.2.2.2.2.2.2.2.2.2.2.2.2.1
theorem dX8_knowsJust_23 : decode cX8_knowsJust 23 = .ok (.iload_n 1, 1) := dg_d85.2.2.2.2.2.2.2.2.2.2.2.2.2.2.2
theorem dg_d86 : (decode cX8_knowsJust 24 = .ok (.iload_n 2, 1)) ∧ (decode cX8_knowsJust 25 = .ok (.ishr, 1)) ∧ (decode cX8_knowsJust 26 = .ok (.iconst 1, 1)) ∧ (decode cX8_knowsJust 27 = .ok (.iand, 1)) ∧ (decode cX8_knowsJust 28 = .ok (.iastore, 1)) ∧ (decode cX8_knowsJust 29 = .ok (.iinc 2 1, 3)) ∧ (decode cX8_knowsJust 32 = .ok (.goto (-26), 3)) ∧ (decode cX8_knowsJust 35 = .ok (.return_, 1)) := by decide +kernel
theorem dX8_knowsJust_24 : decode cX8_knowsJust 24 = .ok (.iload_n 2, 1) := dg_d86.1
theorem dX8_knowsJust_25 : decode cX8_knowsJust 25 = .ok (.ishr, 1) := dg_d86.2.1
theorem dX8_knowsJust_26 : decode cX8_knowsJust 26 = .ok (.iconst 1, 1) := dg_d86.2.2.1
theorem dX8_knowsJust_27 : decode cX8_knowsJust 27 = .ok (.iand, 1) := dg_d86.2.2.2.1
theorem dX8_knowsJust_28 : decode cX8_knowsJust 28 = .ok (.iastore, 1) := dg_d86.2.2.2.2.1
theorem dX8_knowsJust_29 : decode cX8_knowsJust 29 = .ok (.iinc 2 1, 3) := dg_d86.2.2.2.2.2.1
theorem dX8_knowsJust_32 : decode cX8_knowsJust 32 = .ok (.goto (-26), 3) := dg_d86.2.2.2.2.2.2.1
theorem dX8_knowsJust_35 : decode cX8_knowsJust 35 = .ok (.return_, 1) := dg_d86.2.2.2.2.2.2.2
theorem dg_d87 : (decode cX8_lessons 0 = .ok (.iload_n 1, 1)) ∧ (decode cX8_lessons 1 = .ok (.invokestatic 246, 3)) ∧ (decode cX8_lessons 4 = .ok (.ifCond .ne 5, 3)) ∧ (decode cX8_lessons 7 = .ok (.iconst (-1), 1)) ∧ (decode cX8_lessons 8 = .ok (.ireturn, 1)) ∧ (decode cX8_lessons 9 = .ok (.ldc 233, 2)) ∧ (decode cX8_lessons 11 = .ok (.istore_n 2, 1)) ∧ (decode cX8_lessons 12 = .ok (.bipush (-4), 2)) ∧ (decode cX8_lessons 14 = .ok (.istore_n 3, 1)) ∧ (decode cX8_lessons 15 = .ok (.iconst 0, 1)) ∧ (decode cX8_lessons 16 = .ok (.istore 4, 2)) ∧ (decode cX8_lessons 18 = .ok (.iload 4, 2)) ∧ (decode cX8_lessons 20 = .ok (.iconst 1, 1)) ∧ (decode cX8_lessons 21 = .ok (.aload_n 0, 1)) ∧ (decode cX8_lessons 22 = .ok (.getfield 60, 3)) ∧ (decode cX8_lessons 25 = .ok (.ishl, 1)) := by decide +kernel
theorem dX8_lessons_0 : decode cX8_lessons 0 = .ok (.iload_n 1, 1) := dg_d87.1
theorem dX8_lessons_1 : decode cX8_lessons 1 = .ok (.invokestatic 246, 3) := dg_d87.2.1
theorem dX8_lessons_4 : decode cX8_lessons 4 = .ok (.ifCond .ne 5, 3) := dg_d87.2.2.1
theorem dX8_lessons_7 : decode cX8_lessons 7 = .ok (.iconst (-1), 1) := dg_d87.2.2.2.1
theorem dX8_lessons_8 : decode cX8_lessons 8 = .ok (.ireturn, 1) := dg_d87.2.2.2.2.1
theorem dX8_lessons_9 : decode cX8_lessons 9 = .ok (.ldc 233, 2) := dg_d87.2.2.2.2.2.1
theorem dX8_lessons_11 : decode cX8_lessons 11 = .ok (.istore_n 2, 1) := dg_d87.2.2.2.2.2.2.1
theorem dX8_lessons_12 : decode cX8_lessons 12 = .ok (.bipush (-4), 2) := dg_d87.2.2.2.2.2.2.2.1
theorem dX8_lessons_14 : decode cX8_lessons 14 = .ok (.istore_n 3, 1) := dg_d87.2.2.2.2.2.2.2.2.1
theorem dX8_lessons_15 : decode cX8_lessons 15 = .ok (.iconst 0, 1) := dg_d87.2.2.2.2.2.2.2.2.2.1
theorem dX8_lessons_16 : decode cX8_lessons 16 = .ok (.istore 4, 2) := dg_d87.2.2.2.2.2.2.2.2.2.2.1
theorem dX8_lessons_18 : decode cX8_lessons 18 = .ok (.iload 4, 2) := dg_d87.2.2.2.2.2.2.2.2.2.2.2.1
theorem dX8_lessons_20 : decode cX8_lessons 20 = .ok (.iconst 1, 1) := dg_d87.2.2.2.2.2.2.2.2.2.2.2.2.1
theorem dX8_lessons_21 : decode cX8_lessons 21 = .ok (.aload_n 0, 1) := dg_d87.2.2.2.2.2.2.2.2.2.2.2.2.2.1
theorem dX8_lessons_22 : decode cX8_lessons 22 = .ok (.getfield 60, 3) := dg_d87.2.2.2.2.2.2.2.2.2.2.2.2.2.2.1
theorem dX8_lessons_25 : decode cX8_lessons 25 = .ok (.ishl, 1) := dg_d87.2.2.2.2.2.2.2.2.2.2.2.2.2.2.2
theorem dg_d88 : (decode cX8_lessons 26 = .ok (.if_icmp .ge 97, 3)) ∧ (decode cX8_lessons 29 = .ok (.iload 4, 2)) ∧ (decode cX8_lessons 31 = .ok (.aload_n 0, 1)) ∧ (decode cX8_lessons 32 = .ok (.invokevirtual 252, 3)) ∧ (decode cX8_lessons 35 = .ok (.iand, 1)) ∧ (decode cX8_lessons 36 = .ok (.ifCond .ne 81, 3)) ∧ (decode cX8_lessons 39 = .ok (.iload 4, 2)) ∧ (decode cX8_lessons 41 = .ok (.invokestatic 255, 3)) ∧ (decode cX8_lessons 44 = .ok (.iload_n 2, 1)) ∧ (decode cX8_lessons 45 = .ok (.if_icmp .ge 72, 3)) ∧ (decode cX8_lessons 48 = .ok (.aload_n 0, 1)) ∧ (decode cX8_lessons 49 = .ok (.iload 4, 2)) ∧ (decode cX8_lessons 51 = .ok (.aload_n 0, 1)) ∧ (decode cX8_lessons 52 = .ok (.invokevirtual 252, 3)) ∧ (decode cX8_lessons 55 = .ok (.ior, 1)) ∧ (decode cX8_lessons 56 = .ok (.invokevirtual 258, 3)) := by decide +kernel
theorem dX8_lessons_26 : decode cX8_lessons 26 = .ok (.if_icmp .ge 97, 3) := dg_d88.1
theorem dX8_lessons_29 : decode cX8_lessons 29 = .ok (.iload 4, 2) := dg_d88.2.1
theorem dX8_lessons_31 : decode cX8_lessons 31 = .ok (.aload_n 0, 1) := dg_d88.2.2.1
theorem dX8_lessons_32 : decode cX8_lessons 32 = .ok (.invokevirtual 252, 3) := dg_d88.2.2.2.1
theorem dX8_lessons_35 : decode cX8_lessons 35 = .ok (.iand, 1) := dg_d88.2.2.2.2.1
theorem dX8_lessons_36 : decode cX8_lessons 36 = .ok (.ifCond .ne 81, 3) := dg_d88.2.2.2.2.2.1
theorem dX8_lessons_39 : decode cX8_lessons 39 = .ok (.iload 4, 2) := dg_d88.2.2.2.2.2.2.1
theorem dX8_lessons_41 : decode cX8_lessons 41 = .ok (.invokestatic 255, 3) := dg_d88.2.2.2.2.2.2.2.1
theorem dX8_lessons_44 : decode cX8_lessons 44 = .ok (.iload_n 2, 1) := dg_d88.2.2.2.2.2.2.2.2.1
theorem dX8_lessons_45 : decode cX8_lessons 45 = .ok (.if_icmp .ge 72, 3) := dg_d88.2.2.2.2.2.2.2.2.2.1
theorem dX8_lessons_48 : decode cX8_lessons 48 = .ok (.aload_n 0, 1) := dg_d88.2.2.2.2.2.2.2.2.2.2.1
theorem dX8_lessons_49 : decode cX8_lessons 49 = .ok (.iload 4, 2) := dg_d88.2.2.2.2.2.2.2.2.2.2.2.1
theorem dX8_lessons_51 : decode cX8_lessons 51 = .ok (.aload_n 0, 1) := dg_d88.2.2.2.2.2.2.2.2.2.2.2.2.1
theorem dX8_lessons_52 : decode cX8_lessons 52 = .ok (.invokevirtual 252, 3) := dg_d88.2.2.2.2.2.2.2.2.2.2.2.2.2.1
theorem dX8_lessons_55 : decode cX8_lessons 55 = .ok (.ior, 1) := dg_d88.2.2.2.2.2.2.2.2.2.2.2.2.2.2.1
theorem dX8_lessons_56 : decode cX8_lessons 56 = .ok (.invokevirtual 258, 3) := dg_d88.2.2.2.2.2.2.2.2.2.2.2.2.2.2.2
theorem dg_d89 : (decode cX8_lessons 59 = .ok (.aload_n 0, 1)) ∧ (decode cX8_lessons 60 = .ok (.invokevirtual 224, 3)) ∧ (decode cX8_lessons 63 = .ok (.aload_n 0, 1)) ∧ (decode cX8_lessons 64 = .ok (.getfield 13, 3)) ∧ (decode cX8_lessons 67 = .ok (.bipush 31, 2)) ∧ (decode cX8_lessons 69 = .ok (.iaload, 1)) ∧ (decode cX8_lessons 70 = .ok (.invokestatic 179, 3)) ∧ (decode cX8_lessons 73 = .ok (.aload_n 0, 1)) ∧ (decode cX8_lessons 74 = .ok (.getfield 13, 3)) ∧ (decode cX8_lessons 77 = .ok (.bipush 25, 2)) ∧ (decode cX8_lessons 79 = .ok (.iaload, 1)) ∧ (decode cX8_lessons 80 = .ok (.if_icmp .gt 7, 3)) ∧ (decode cX8_lessons 83 = .ok (.iconst 1, 1)) ∧ (decode cX8_lessons 84 = .ok (.goto 4, 3)) ∧ (decode cX8_lessons 87 = .ok (.iconst 0, 1)) ∧ (decode cX8_lessons 88 = .ok (.istore 5, 2)) := by decide +kernel
theorem dX8_lessons_59 : decode cX8_lessons 59 = .ok (.aload_n 0, 1) := dg_d89.1
theorem dX8_lessons_60 : decode cX8_lessons 60 = .ok (.invokevirtual 224, 3) := dg_d89.2.1
theorem dX8_lessons_63 : decode cX8_lessons 63 = .ok (.aload_n 0, 1) := dg_d89.2.2.1
theorem dX8_lessons_64 : decode cX8_lessons 64 = .ok (.getfield 13, 3) := dg_d89.2.2.2.1
theorem dX8_lessons_67 : decode cX8_lessons 67 = .ok (.bipush 31, 2) := dg_d89.2.2.2.2.1
theorem dX8_lessons_69 : decode cX8_lessons 69 = .ok (.iaload, 1) := dg_d89.2.2.2.2.2.1
theorem dX8_lessons_70 : decode cX8_lessons 70 = .ok (.invokestatic 179, 3) := dg_d89.2.2.2.2.2.2.1
theorem dX8_lessons_73 : decode cX8_lessons 73 = .ok (.aload_n 0, 1) := dg_d89.2.2.2.2.2.2.2.1
theorem dX8_lessons_74 : decode cX8_lessons 74 = .ok (.getfield 13, 3) := dg_d89.2.2.2.2.2.2.2.2.1
theorem dX8_lessons_77 : decode cX8_lessons 77 = .ok (.bipush 25, 2) := dg_d89.2.2.2.2.2.2.2.2.2.1
theorem dX8_lessons_79 : decode cX8_lessons 79 = .ok (.iaload, 1) := dg_d89.2.2.2.2.2.2.2.2.2.2.1
theorem dX8_lessons_80 : decode cX8_lessons 80 = .ok (.if_icmp .gt 7, 3) := dg_d89.2.2.2.2.2.2.2.2.2.2.2.1
theorem dX8_lessons_83 : decode cX8_lessons 83 = .ok (.iconst 1, 1) := dg_d89.2.2.2.2.2.2.2.2.2.2.2.2.1
theorem dX8_lessons_84 : decode cX8_lessons 84 = .ok (.goto 4, 3) := dg_d89.2.2.2.2.2.2.2.2.2.2.2.2.2.1
theorem dX8_lessons_87 : decode cX8_lessons 87 = .ok (.iconst 0, 1) := dg_d89.2.2.2.2.2.2.2.2.2.2.2.2.2.2.1
theorem dX8_lessons_88 : decode cX8_lessons 88 = .ok (.istore 5, 2) := dg_d89.2.2.2.2.2.2.2.2.2.2.2.2.2.2.2
theorem dg_d90 : (decode cX8_lessons 90 = .ok (.iload 5, 2)) ∧ (decode cX8_lessons 92 = .ok (.ifCond .eq 8, 3)) ∧ (decode cX8_lessons 95 = .ok (.iload 4, 2)) ∧ (decode cX8_lessons 97 = .ok (.goto 4, 3)) ∧ (decode cX8_lessons 100 = .ok (.iload_n 3, 1)) ∧ (decode cX8_lessons 101 = .ok (.istore_n 3, 1)) ∧ (decode cX8_lessons 102 = .ok (.iload 5, 2)) ∧ (decode cX8_lessons 104 = .ok (.ifCond .eq 11, 3)) ∧ (decode cX8_lessons 107 = .ok (.iload 4, 2)) ∧ (decode cX8_lessons 109 = .ok (.invokestatic 255, 3)) ∧ (decode cX8_lessons 112 = .ok (.goto 4, 3)) ∧ (decode cX8_lessons 115 = .ok (.iload_n 2, 1)) ∧ (decode cX8_lessons 116 = .ok (.istore_n 2, 1)) ∧ (decode cX8_lessons 117 = .ok (.iinc 4 1, 3)) ∧ (decode cX8_lessons 120 = .ok (.goto (-102), 3)) ∧ (decode cX8_lessons 123 = .ok (.iload_n 3, 1)) := by decide +kernel
theorem dX8_lessons_90 : decode cX8_lessons 90 = .ok (.iload 5, 2) := dg_d90.1
theorem dX8_lessons_92 : decode cX8_lessons 92 = .ok (.ifCond .eq 8, 3) := dg_d90.2.1
theorem dX8_lessons_95 : decode cX8_lessons 95 = .ok (.iload 4, 2) := dg_d90.2.2.1
theorem dX8_lessons_97 : decode cX8_lessons 97 = .ok (.goto 4, 3) := dg_d90.2.2.2.1
theorem dX8_lessons_100 : decode cX8_lessons 100 = .ok (.iload_n 3, 1) := dg_d90.2.2.2.2.1
theorem dX8_lessons_101 : decode cX8_lessons 101 = .ok (.istore_n 3, 1) := dg_d90.2.2.2.2.2.1
theorem dX8_lessons_102 : decode cX8_lessons 102 = .ok (.iload 5, 2) := dg_d90.2.2.2.2.2.2.1
theorem dX8_lessons_104 : decode cX8_lessons 104 = .ok (.ifCond .eq 11, 3) := dg_d90.2.2.2.2.2.2.2.1
theorem dX8_lessons_107 : decode cX8_lessons 107 = .ok (.iload 4, 2) := dg_d90.2.2.2.2.2.2.2.2.1
theorem dX8_lessons_109 : decode cX8_lessons 109 = .ok (.invokestatic 255, 3) := dg_d90.2.2.2.2.2.2.2.2.2.1
theorem dX8_lessons_112 : decode cX8_lessons 112 = .ok (.goto 4, 3) := dg_d90.2.2.2.2.2.2.2.2.2.2.1
theorem dX8_lessons_115 : decode cX8_lessons 115 = .ok (.iload_n 2, 1) := dg_d90.2.2.2.2.2.2.2.2.2.2.2.1
theorem dX8_lessons_116 : decode cX8_lessons 116 = .ok (.istore_n 2, 1) := dg_d90.2.2.2.2.2.2.2.2.2.2.2.2.1
theorem dX8_lessons_117 : decode cX8_lessons 117 = .ok (.iinc 4 1, 3) := dg_d90.2.2.2.2.2.2.2.2.2.2.2.2.2.1
theorem dX8_lessons_120 : decode cX8_lessons 120 = .ok (.goto (-102), 3) := dg_d90.2.2.2.2.2.2.2.2.2.2.2.2.2.2.1
theorem dX8_lessons_123 : decode cX8_lessons 123 = .ok (.iload_n 3, 1) := dg_d90.2.2.2.2.2.2.2.2.2.2.2.2.2.2.2
theorem dg_d91 : (decode cX8_lessons 124 = .ok (.bipush (-4), 2)) ∧ (decode cX8_lessons 126 = .ok (.if_icmp .ne 8, 3)) ∧ (decode cX8_lessons 129 = .ok (.bipush (-4), 2)) ∧ (decode cX8_lessons 131 = .ok (.goto 12, 3)) ∧ (decode cX8_lessons 134 = .ok (.iload_n 1, 1)) ∧ (decode cX8_lessons 135 = .ok (.ifCond .ne 7, 3)) ∧ (decode cX8_lessons 138 = .ok (.iload_n 2, 1)) ∧ (decode cX8_lessons 139 = .ok (.goto 4, 3)) ∧ (decode cX8_lessons 142 = .ok (.iload_n 3, 1)) ∧ (decode cX8_lessons 143 = .ok (.ireturn, 1)) := by decide +kernel
theorem dX8_lessons_124 : decode cX8_lessons 124 = .ok (.bipush (-4), 2) := dg_d91.1
theorem dX8_lessons_126 : decode cX8_lessons 126 = .ok (.if_icmp .ne 8, 3) := dg_d91.2.1
theorem dX8_lessons_129 : decode cX8_lessons 129 = .ok (.bipush (-4), 2) := dg_d91.2.2.1
theorem dX8_lessons_131 : decode cX8_lessons 131 = .ok (.goto 12, 3) := dg_d91.2.2.2.1
theorem dX8_lessons_134 : decode cX8_lessons 134 = .ok (.iload_n 1, 1) := dg_d91.2.2.2.2.1
theorem dX8_lessons_135 : decode cX8_lessons 135 = .ok (.ifCond .ne 7, 3) := dg_d91.2.2.2.2.2.1
theorem dX8_lessons_138 : decode cX8_lessons 138 = .ok (.iload_n 2, 1) := dg_d91.2.2.2.2.2.2.1
theorem dX8_lessons_139 : decode cX8_lessons 139 = .ok (.goto 4, 3) := dg_d91.2.2.2.2.2.2.2.1
theorem dX8_lessons_142 : decode cX8_lessons 142 = .ok (.iload_n 3, 1) := dg_d91.2.2.2.2.2.2.2.2.1
theorem dX8_lessons_143 : decode cX8_lessons 143 = .ok (.ireturn, 1) := dg_d91.2.2.2.2.2.2.2.2.2
theorem dg_d92 : (decode cX8_thirst 0 = .ok (.iconst 0, 1)) ∧ (decode cX8_thirst 1 = .ok (.istore_n 1, 1)) ∧ (decode cX8_thirst 2 = .ok (.iload_n 1, 1)) ∧ (decode cX8_thirst 3 = .ok (.bipush 40, 2)) ∧ (decode cX8_thirst 5 = .ok (.if_icmp .gt 36, 3)) ∧ (decode cX8_thirst 8 = .ok (.aload_n 0, 1)) ∧ (decode cX8_thirst 9 = .ok (.invokevirtual 188, 3)) ∧ (decode cX8_thirst 12 = .ok (.aload_n 0, 1)) ∧ (decode cX8_thirst 13 = .ok (.getfield 13, 3)) ∧ (decode cX8_thirst 16 = .ok (.bipush 27, 2)) ∧ (decode cX8_thirst 18 = .ok (.iload_n 1, 1)) ∧ (decode cX8_thirst 19 = .ok (.iastore, 1)) ∧ (decode cX8_thirst 20 = .ok (.aload_n 0, 1)) ∧ (decode cX8_thirst 21 = .ok (.invokevirtual 224, 3)) ∧ (decode cX8_thirst 24 = .ok (.aload_n 0, 1)) ∧ (decode cX8_thirst 25 = .ok (.getfield 182, 3)) := by decide +kernel
theorem dX8_thirst_0 : decode cX8_thirst 0 = .ok (.iconst 0, 1) := dg_d92.1
theorem dX8_thirst_1 : decode cX8_thirst 1 = .ok (.istore_n 1, 1) := dg_d92.2.1
theorem dX8_thirst_2 : decode cX8_thirst 2 = .ok (.iload_n 1, 1) := dg_d92.2.2.1
theorem dX8_thirst_3 : decode cX8_thirst 3 = .ok (.bipush 40, 2) := dg_d92.2.2.2.1
theorem dX8_thirst_5 : decode cX8_thirst 5 = .ok (.if_icmp .gt 36, 3) := dg_d92.2.2.2.2.1
theorem dX8_thirst_8 : decode cX8_thirst 8 = .ok (.aload_n 0, 1) := dg_d92.2.2.2.2.2.1
theorem dX8_thirst_9 : decode cX8_thirst 9 = .ok (.invokevirtual 188, 3) := dg_d92.2.2.2.2.2.2.1
theorem dX8_thirst_12 : decode cX8_thirst 12 = .ok (.aload_n 0, 1) := dg_d92.2.2.2.2.2.2.2.1
theorem dX8_thirst_13 : decode cX8_thirst 13 = .ok (.getfield 13, 3) := dg_d92.2.2.2.2.2.2.2.2.1
theorem dX8_thirst_16 : decode cX8_thirst 16 = .ok (.bipush 27, 2) := dg_d92.2.2.2.2.2.2.2.2.2.1
theorem dX8_thirst_18 : decode cX8_thirst 18 = .ok (.iload_n 1, 1) := dg_d92.2.2.2.2.2.2.2.2.2.2.1
theorem dX8_thirst_19 : decode cX8_thirst 19 = .ok (.iastore, 1) := dg_d92.2.2.2.2.2.2.2.2.2.2.2.1
theorem dX8_thirst_20 : decode cX8_thirst 20 = .ok (.aload_n 0, 1) := dg_d92.2.2.2.2.2.2.2.2.2.2.2.2.1
theorem dX8_thirst_21 : decode cX8_thirst 21 = .ok (.invokevirtual 224, 3) := dg_d92.2.2.2.2.2.2.2.2.2.2.2.2.2.1
theorem dX8_thirst_24 : decode cX8_thirst 24 = .ok (.aload_n 0, 1) := dg_d92.2.2.2.2.2.2.2.2.2.2.2.2.2.2.1
theorem dX8_thirst_25 : decode cX8_thirst 25 = .ok (.getfield 182, 3) := dg_d92.2.2.2.2.2.2.2.2.2.2.2.2.2.2.2
theorem dg_d93 : (decode cX8_thirst 28 = .ok (.bipush (-4), 2)) ∧ (decode cX8_thirst 30 = .ok (.if_icmp .ne 5, 3)) ∧ (decode cX8_thirst 33 = .ok (.iload_n 1, 1)) ∧ (decode cX8_thirst 34 = .ok (.ireturn, 1)) ∧ (decode cX8_thirst 35 = .ok (.iinc 1 1, 3)) ∧ (decode cX8_thirst 38 = .ok (.goto (-36), 3)) ∧ (decode cX8_thirst 41 = .ok (.bipush (-4), 2)) ∧ (decode cX8_thirst 43 = .ok (.ireturn, 1)) := by decide +kernel
theorem dX8_thirst_28 : decode cX8_thirst 28 = .ok (.bipush (-4), 2) := dg_d93.1
theorem dX8_thirst_30 : decode cX8_thirst 30 = .ok (.if_icmp .ne 5, 3) := dg_d93.2.1
theorem dX8_thirst_33 : decode cX8_thirst 33 = .ok (.iload_n 1, 1) := dg_d93.2.2.1
theorem dX8_thirst_34 : decode cX8_thirst 34 = .ok (.ireturn, 1) := dg_d93.2.2.2.1
theorem dX8_thirst_35 : decode cX8_thirst 35 = .ok (.iinc 1 1, 3) := dg_d93.2.2.2.2.1
theorem dX8_thirst_38 : decode cX8_thirst 38 = .ok (.goto (-36), 3) := dg_d93.2.2.2.2.2.1
theorem dX8_thirst_41 : decode cX8_thirst 41 = .ok (.bipush (-4), 2) := dg_d93.2.2.2.2.2.2.1
theorem dX8_thirst_43 : decode cX8_thirst 43 = .ok (.ireturn, 1) := dg_d93.2.2.2.2.2.2.2
theorem dg_d94 : (decode cX8_weather 0 = .ok (.iconst 0, 1)) ∧ (decode cX8_weather 1 = .ok (.istore_n 1, 1)) ∧ (decode cX8_weather 2 = .ok (.aload_n 0, 1)) ∧ (decode cX8_weather 3 = .ok (.invokevirtual 188, 3)) ∧ (decode cX8_weather 6 = .ok (.aload_n 0, 1)) ∧ (decode cX8_weather 7 = .ok (.invokevirtual 224, 3)) ∧ (decode cX8_weather 10 = .ok (.aload_n 0, 1)) ∧ (decode cX8_weather 11 = .ok (.invokevirtual 191, 3)) ∧ (decode cX8_weather 14 = .ok (.ifCond .eq 5, 3)) ∧ (decode cX8_weather 17 = .ok (.iconst 0, 1)) ∧ (decode cX8_weather 18 = .ok (.ireturn, 1)) ∧ (decode cX8_weather 19 = .ok (.iconst 0, 1)) ∧ (decode cX8_weather 20 = .ok (.istore_n 2, 1)) ∧ (decode cX8_weather 21 = .ok (.iload_n 2, 1)) ∧ (decode cX8_weather 22 = .ok (.bipush 10, 2)) ∧ (decode cX8_weather 24 = .ok (.if_icmp .ge 78, 3)) := by decide +kernel
theorem dX8_weather_0 : decode cX8_weather 0 = .ok (.iconst 0, 1) := dg_d94.1
theorem dX8_weather_1 : decode cX8_weather 1 = .ok (.istore_n 1, 1) := dg_d94.2.1
theorem dX8_weather_2 : decode cX8_weather 2 = .ok (.aload_n 0, 1) := dg_d94.2.2.1
theorem dX8_weather_3 : decode cX8_weather 3 = .ok (.invokevirtual 188, 3) := dg_d94.2.2.2.1
theorem dX8_weather_6 : decode cX8_weather 6 = .ok (.aload_n 0, 1) := dg_d94.2.2.2.2.1
theorem dX8_weather_7 : decode cX8_weather 7 = .ok (.invokevirtual 224, 3) := dg_d94.2.2.2.2.2.1
theorem dX8_weather_10 : decode cX8_weather 10 = .ok (.aload_n 0, 1) := dg_d94.2.2.2.2.2.2.1
theorem dX8_weather_11 : decode cX8_weather 11 = .ok (.invokevirtual 191, 3) := dg_d94.2.2.2.2.2.2.2.1
theorem dX8_weather_14 : decode cX8_weather 14 = .ok (.ifCond .eq 5, 3) := dg_d94.2.2.2.2.2.2.2.2.1
theorem dX8_weather_17 : decode cX8_weather 17 = .ok (.iconst 0, 1) := dg_d94.2.2.2.2.2.2.2.2.2.1
theorem dX8_weather_18 : decode cX8_weather 18 = .ok (.ireturn, 1) := dg_d94.2.2.2.2.2.2.2.2.2.2.1
theorem dX8_weather_19 : decode cX8_weather 19 = .ok (.iconst 0, 1) := dg_d94.2.2.2.2.2.2.2.2.2.2.2.1
theorem dX8_weather_20 : decode cX8_weather 20 = .ok (.istore_n 2, 1) := dg_d94.2.2.2.2.2.2.2.2.2.2.2.2.1
theorem dX8_weather_21 : decode cX8_weather 21 = .ok (.iload_n 2, 1) := dg_d94.2.2.2.2.2.2.2.2.2.2.2.2.2.1
theorem dX8_weather_22 : decode cX8_weather 22 = .ok (.bipush 10, 2) := dg_d94.2.2.2.2.2.2.2.2.2.2.2.2.2.2.1
theorem dX8_weather_24 : decode cX8_weather 24 = .ok (.if_icmp .ge 78, 3) := dg_d94.2.2.2.2.2.2.2.2.2.2.2.2.2.2.2
theorem dg_d95 : (decode cX8_weather 27 = .ok (.aload_n 0, 1)) ∧ (decode cX8_weather 28 = .ok (.invokevirtual 188, 3)) ∧ (decode cX8_weather 31 = .ok (.aload_n 0, 1)) ∧ (decode cX8_weather 32 = .ok (.getfield 13, 3)) ∧ (decode cX8_weather 35 = .ok (.bipush 28, 2)) ∧ (decode cX8_weather 37 = .ok (.aload_n 0, 1)) ∧ (decode cX8_weather 38 = .ok (.getfield 13, 3)) ∧ (decode cX8_weather 41 = .ok (.bipush 28, 2)) ∧ (decode cX8_weather 43 = .ok (.iaload, 1)) ∧ (decode cX8_weather 44 = .ok (.iload_n 2, 1)) ∧ (decode cX8_weather 45 = .ok (.ishr, 1)) ∧ (decode cX8_weather 46 = .ok (.iconst 1, 1)) ∧ (decode cX8_weather 47 = .ok (.iand, 1)) ∧ (decode cX8_weather 48 = .ok (.iconst 1, 1)) ∧ (decode cX8_weather 49 = .ok (.if_icmp .ne 19, 3)) ∧ (decode cX8_weather 52 = .ok (.aload_n 0, 1)) := by decide +kernel
theorem dX8_weather_27 : decode cX8_weather 27 = .ok (.aload_n 0, 1) := dg_d95.1
theorem dX8_weather_28 : decode cX8_weather 28 = .ok (.invokevirtual 188, 3) := dg_d95.2.1
theorem dX8_weather_31 : decode cX8_weather 31 = .ok (.aload_n 0, 1) := dg_d95.2.2.1
theorem dX8_weather_32 : decode cX8_weather 32 = .ok (.getfield 13, 3) := dg_d95.2.2.2.1
theorem dX8_weather_35 : decode cX8_weather 35 = .ok (.bipush 28, 2) := dg_d95.2.2.2.2.1
theorem dX8_weather_37 : decode cX8_weather 37 = .ok (.aload_n 0, 1) := dg_d95.2.2.2.2.2.1
theorem dX8_weather_38 : decode cX8_weather 38 = .ok (.getfield 13, 3) := dg_d95.2.2.2.2.2.2.1
theorem dX8_weather_41 : decode cX8_weather 41 = .ok (.bipush 28, 2) := dg_d95.2.2.2.2.2.2.2.1
theorem dX8_weather_43 : decode cX8_weather 43 = .ok (.iaload, 1) := dg_d95.2.2.2.2.2.2.2.2.1
theorem dX8_weather_44 : decode cX8_weather 44 = .ok (.iload_n 2, 1) := dg_d95.2.2.2.2.2.2.2.2.2.1
theorem dX8_weather_45 : decode cX8_weather 45 = .ok (.ishr, 1) := dg_d95.2.2.2.2.2.2.2.2.2.2.1
theorem dX8_weather_46 : decode cX8_weather 46 = .ok (.iconst 1, 1) := dg_d95.2.2.2.2.2.2.2.2.2.2.2.1
theorem dX8_weather_47 : decode cX8_weather 47 = .ok (.iand, 1) := dg_d95.2.2.2.2.2.2.2.2.2.2.2.2.1
theorem dX8_weather_48 : decode cX8_weather 48 = .ok (.iconst 1, 1) := dg_d95.2.2.2.2.2.2.2.2.2.2.2.2.2.1
theorem dX8_weather_49 : decode cX8_weather 49 = .ok (.if_icmp .ne 19, 3) := dg_d95.2.2.2.2.2.2.2.2.2.2.2.2.2.2.1
theorem dX8_weather_52 : decode cX8_weather 52 = .ok (.aload_n 0, 1) := dg_d95.2.2.2.2.2.2.2.2.2.2.2.2.2.2.2
theorem dg_d96 : (decode cX8_weather 53 = .ok (.getfield 13, 3)) ∧ (decode cX8_weather 56 = .ok (.bipush 28, 2)) ∧ (decode cX8_weather 58 = .ok (.iaload, 1)) ∧ (decode cX8_weather 59 = .ok (.iconst 1, 1)) ∧ (decode cX8_weather 60 = .ok (.iload_n 2, 1)) ∧ (decode cX8_weather 61 = .ok (.ishl, 1)) ∧ (decode cX8_weather 62 = .ok (.iconst (-1), 1)) ∧ (decode cX8_weather 63 = .ok (.ixor, 1)) ∧ (decode cX8_weather 64 = .ok (.iand, 1)) ∧ (decode cX8_weather 65 = .ok (.goto 14, 3)) ∧ (decode cX8_weather 68 = .ok (.aload_n 0, 1)) ∧ (decode cX8_weather 69 = .ok (.getfield 13, 3)) ∧ (decode cX8_weather 72 = .ok (.bipush 28, 2)) ∧ (decode cX8_weather 74 = .ok (.iaload, 1)) ∧ (decode cX8_weather 75 = .ok (.iconst 1, 1)) ∧ (decode cX8_weather 76 = .ok (.iload_n 2, 1)) := by decide +kernel
theorem dX8_weather_53 : decode cX8_weather 53 = .ok (.getfield 13, 3) := dg_d96.1
theorem dX8_weather_56 : decode cX8_weather 56 = .ok (.bipush 28, 2) := dg_d96.2.1
theorem dX8_weather_58 : decode cX8_weather 58 = .ok (.iaload, 1) := dg_d96.2.2.1
theorem dX8_weather_59 : decode cX8_weather 59 = .ok (.iconst 1, 1) := dg_d96.2.2.2.1
theorem dX8_weather_60 : decode cX8_weather 60 = .ok (.iload_n 2, 1) := dg_d96.2.2.2.2.1
theorem dX8_weather_61 : decode cX8_weather 61 = .ok (.ishl, 1) := dg_d96.2.2.2.2.2.1
theorem dX8_weather_62 : decode cX8_weather 62 = .ok (.iconst (-1), 1) := dg_d96.2.2.2.2.2.2.1
theorem dX8_weather_63 : decode cX8_weather 63 = .ok (.ixor, 1) := dg_d96.2.2.2.2.2.2.2.1
theorem dX8_weather_64 : decode cX8_weather 64 = .ok (.iand, 1) := dg_d96.2.2.2.2.2.2.2.2.1
theorem dX8_weather_65 : decode cX8_weather 65 = .ok (.goto 14, 3) := dg_d96.2.2.2.2.2.2.2.2.2.1
theorem dX8_weather_68 : decode cX8_weather 68 = .ok (.aload_n 0, 1) := dg_d96.2.2.2.2.2.2.2.2.2.2.1
theorem dX8_weather_69 : decode cX8_weather 69 = .ok (.getfield 13, 3) := dg_d96.2.2.2.2.2.2.2.2.2.2.2.1
theorem dX8_weather_72 : decode cX8_weather 72 = .ok (.bipush 28, 2) := dg_d96.2.2.2.2.2.2.2.2.2.2.2.2.1
theorem dX8_weather_74 : decode cX8_weather 74 = .ok (.iaload, 1) := dg_d96.2.2.2.2.2.2.2.2.2.2.2.2.2.1
theorem dX8_weather_75 : decode cX8_weather 75 = .ok (.iconst 1, 1) := dg_d96.2.2.2.2.2.2.2.2.2.2.2.2.2.2.1
theorem dX8_weather_76 : decode cX8_weather 76 = .ok (.iload_n 2, 1) := dg_d96.2.2.2.2.2.2.2.2.2.2.2.2.2.2.2
theorem dg_d97 : (decode cX8_weather 77 = .ok (.ishl, 1)) ∧ (decode cX8_weather 78 = .ok (.ior, 1)) ∧ (decode cX8_weather 79 = .ok (.iastore, 1)) ∧ (decode cX8_weather 80 = .ok (.aload_n 0, 1)) ∧ (decode cX8_weather 81 = .ok (.invokevirtual 224, 3)) ∧ (decode cX8_weather 84 = .ok (.iload_n 1, 1)) ∧ (decode cX8_weather 85 = .ok (.aload_n 0, 1)) ∧ (decode cX8_weather 86 = .ok (.invokevirtual 191, 3)) ∧ (decode cX8_weather 89 = .ok (.invokestatic 194, 3)) ∧ (decode cX8_weather 92 = .ok (.iload_n 2, 1)) ∧ (decode cX8_weather 93 = .ok (.ishl, 1)) ∧ (decode cX8_weather 94 = .ok (.ior, 1)) ∧ (decode cX8_weather 95 = .ok (.istore_n 1, 1)) ∧ (decode cX8_weather 96 = .ok (.iinc 2 1, 3)) ∧ (decode cX8_weather 99 = .ok (.goto (-78), 3)) ∧ (decode cX8_weather 102 = .ok (.iload_n 1, 1)) := by decide +kernel
theorem dX8_weather_77 : decode cX8_weather 77 = .ok (.ishl, 1) := dg_d97.1
theorem dX8_weather_78 : decode cX8_weather 78 = .ok (.ior, 1) := dg_d97.2.1
theorem dX8_weather_79 : decode cX8_weather 79 = .ok (.iastore, 1) := dg_d97.2.2.1
theorem dX8_weather_80 : decode cX8_weather 80 = .ok (.aload_n 0, 1) := dg_d97.2.2.2.1
theorem dX8_weather_81 : decode cX8_weather 81 = .ok (.invokevirtual 224, 3) := dg_d97.2.2.2.2.1
theorem dX8_weather_84 : decode cX8_weather 84 = .ok (.iload_n 1, 1) := dg_d97.2.2.2.2.2.1
theorem dX8_weather_85 : decode cX8_weather 85 = .ok (.aload_n 0, 1) := dg_d97.2.2.2.2.2.2.1
theorem dX8_weather_86 : decode cX8_weather 86 = .ok (.invokevirtual 191, 3) := dg_d97.2.2.2.2.2.2.2.1
theorem dX8_weather_89 : decode cX8_weather 89 = .ok (.invokestatic 194, 3) := dg_d97.2.2.2.2.2.2.2.2.1
theorem dX8_weather_92 : decode cX8_weather 92 = .ok (.iload_n 2, 1) := dg_d97.2.2.2.2.2.2.2.2.2.1
theorem dX8_weather_93 : decode cX8_weather 93 = .ok (.ishl, 1) := dg_d97.2.2.2.2.2.2.2.2.2.2.1
theorem dX8_weather_94 : decode cX8_weather 94 = .ok (.ior, 1) := dg_d97.2.2.2.2.2.2.2.2.2.2.2.1
theorem dX8_weather_95 : decode cX8_weather 95 = .ok (.istore_n 1, 1) := dg_d97.2.2.2.2.2.2.2.2.2.2.2.2.1
theorem dX8_weather_96 : decode cX8_weather 96 = .ok (.iinc 2 1, 3) := dg_d97.2.2.2.2.2.2.2.2.2.2.2.2.2.1
theorem dX8_weather_99 : decode cX8_weather 99 = .ok (.goto (-78), 3) := dg_d97.2.2.2.2.2.2.2.2.2.2.2.2.2.2.1
theorem dX8_weather_102 : decode cX8_weather 102 = .ok (.iload_n 1, 1) := dg_d97.2.2.2.2.2.2.2.2.2.2.2.2.2.2.2
theorem dX8_weather_103 : decode cX8_weather 103 = .ok (.ireturn, 1) := by decide +kernel
theorem dg_d98 : (decode cX8_common 0 = .ok (.lload_n 0, 1)) ∧ (decode cX8_common 1 = .ok (.lstore 4, 2)) ∧ (decode cX8_common 3 = .ok (.lload_n 2, 1)) ∧ (decode cX8_common 4 = .ok (.lstore 6, 2)) ∧ (decode cX8_common 6 = .ok (.lload 6, 2)) ∧ (decode cX8_common 8 = .ok (.lconst 0, 1)) ∧ (decode cX8_common 9 = .ok (.lcmp, 1)) ∧ (decode cX8_common 10 = .ok (.ifCond .eq 21, 3)) ∧ (decode cX8_common 13 = .ok (.lload 4, 2)) ∧ (decode cX8_common 15 = .ok (.lload 6, 2)) ∧ (decode cX8_common 17 = .ok (.lrem, 1)) ∧ (decode cX8_common 18 = .ok (.lstore 8, 2)) ∧ (decode cX8_common 20 = .ok (.lload 6, 2)) ∧ (decode cX8_common 22 = .ok (.lstore 4, 2)) ∧ (decode cX8_common 24 = .ok (.lload 8, 2)) ∧ (decode cX8_common 26 = .ok (.lstore 6, 2)) := by decide +kernel
theorem dX8_common_0 : decode cX8_common 0 = .ok (.lload_n 0, 1) := dg_d98.1
theorem dX8_common_1 : decode cX8_common 1 = .ok (.lstore 4, 2) := dg_d98.2.1
theorem dX8_common_3 : decode cX8_common 3 = .ok (.lload_n 2, 1) := dg_d98.2.2.1
theorem dX8_common_4 : decode cX8_common 4 = .ok (.lstore 6, 2) := dg_d98.2.2.2.1
theorem dX8_common_6 : decode cX8_common 6 = .ok (.lload 6, 2) := dg_d98.2.2.2.2.1
theorem dX8_common_8 : decode cX8_common 8 = .ok (.lconst 0, 1) := dg_d98.2.2.2.2.2.1
theorem dX8_common_9 : decode cX8_common 9 = .ok (.lcmp, 1) := dg_d98.2.2.2.2.2.2.1
theorem dX8_common_10 : decode cX8_common 10 = .ok (.ifCond .eq 21, 3) := dg_d98.2.2.2.2.2.2.2.1
theorem dX8_common_13 : decode cX8_common 13 = .ok (.lload 4, 2) := dg_d98.2.2.2.2.2.2.2.2.1
theorem dX8_common_15 : decode cX8_common 15 = .ok (.lload 6, 2) := dg_d98.2.2.2.2.2.2.2.2.2.1
theorem dX8_common_17 : decode cX8_common 17 = .ok (.lrem, 1) := dg_d98.2.2.2.2.2.2.2.2.2.2.1
theorem dX8_common_18 : decode cX8_common 18 = .ok (.lstore 8, 2) := dg_d98.2.2.2.2.2.2.2.2.2.2.2.1
theorem dX8_common_20 : decode cX8_common 20 = .ok (.lload 6, 2) := dg_d98.2.2.2.2.2.2.2.2.2.2.2.2.1
theorem dX8_common_22 : decode cX8_common 22 = .ok (.lstore 4, 2) := dg_d98.2.2.2.2.2.2.2.2.2.2.2.2.2.1
theorem dX8_common_24 : decode cX8_common 24 = .ok (.lload 8, 2) := dg_d98.2.2.2.2.2.2.2.2.2.2.2.2.2.2.1
theorem dX8_common_26 : decode cX8_common 26 = .ok (.lstore 6, 2) := dg_d98.2.2.2.2.2.2.2.2.2.2.2.2.2.2.2
theorem dg_d99 : (decode cX8_common 28 = .ok (.goto (-22), 3)) ∧ (decode cX8_common 31 = .ok (.lload 4, 2)) ∧ (decode cX8_common 33 = .ok (.lreturn, 1)) := by decide +kernel
theorem dX8_common_28 : decode cX8_common 28 = .ok (.goto (-22), 3) := dg_d99.1
theorem dX8_common_31 : decode cX8_common 31 = .ok (.lload 4, 2) := dg_d99.2.1
theorem dX8_common_33 : decode cX8_common 33 = .ok (.lreturn, 1) := dg_d99.2.2
theorem dg_d100 : (decode cX8_told 0 = .ok (.lload_n 2, 1)) ∧ (decode cX8_told 1 = .ok (.lload_n 0, 1)) ∧ (decode cX8_told 2 = .ok (.invokestatic 261, 3)) ∧ (decode cX8_told 5 = .ok (.lstore 5, 2)) ∧ (decode cX8_told 7 = .ok (.iload 4, 2)) ∧ (decode cX8_told 9 = .ok (.ifCond .ne 10, 3)) ∧ (decode cX8_told 12 = .ok (.lload_n 0, 1)) ∧ (decode cX8_told 13 = .ok (.lload 5, 2)) ∧ (decode cX8_told 15 = .ok (.ldiv, 1)) ∧ (decode cX8_told 16 = .ok (.goto 7, 3)) ∧ (decode cX8_told 19 = .ok (.lload_n 2, 1)) ∧ (decode cX8_told 20 = .ok (.lload 5, 2)) ∧ (decode cX8_told 22 = .ok (.ldiv, 1)) ∧ (decode cX8_told 23 = .ok (.lreturn, 1)) := by decide +kernel
theorem dX8_told_0 : decode cX8_told 0 = .ok (.lload_n 2, 1) := dg_d100.1
theorem dX8_told_1 : decode cX8_told 1 = .ok (.lload_n 0, 1) := dg_d100.2.1
theorem dX8_told_2 : decode cX8_told 2 = .ok (.invokestatic 261, 3) := dg_d100.2.2.1
theorem dX8_told_5 : decode cX8_told 5 = .ok (.lstore 5, 2) := dg_d100.2.2.2.1
theorem dX8_told_7 : decode cX8_told 7 = .ok (.iload 4, 2) := dg_d100.2.2.2.2.1
theorem dX8_told_9 : decode cX8_told 9 = .ok (.ifCond .ne 10, 3) := dg_d100.2.2.2.2.2.1
theorem dX8_told_12 : decode cX8_told 12 = .ok (.lload_n 0, 1) := dg_d100.2.2.2.2.2.2.1
theorem dX8_told_13 : decode cX8_told 13 = .ok (.lload 5, 2) := dg_d100.2.2.2.2.2.2.2.1
theorem dX8_told_15 : decode cX8_told 15 = .ok (.ldiv, 1) := dg_d100.2.2.2.2.2.2.2.2.1
theorem dX8_told_16 : decode cX8_told 16 = .ok (.goto 7, 3) := dg_d100.2.2.2.2.2.2.2.2.2.1
theorem dX8_told_19 : decode cX8_told 19 = .ok (.lload_n 2, 1) := dg_d100.2.2.2.2.2.2.2.2.2.2.1
theorem dX8_told_20 : decode cX8_told 20 = .ok (.lload 5, 2) := dg_d100.2.2.2.2.2.2.2.2.2.2.2.1
theorem dX8_told_22 : decode cX8_told 22 = .ok (.ldiv, 1) := dg_d100.2.2.2.2.2.2.2.2.2.2.2.2.1
theorem dX8_told_23 : decode cX8_told 23 = .ok (.lreturn, 1) := dg_d100.2.2.2.2.2.2.2.2.2.2.2.2.2
theorem dg_d101 : (decode cX8_findOdds 0 = .ok (.aload_n 0, 1)) ∧ (decode cX8_findOdds 1 = .ok (.getfield 7, 3)) ∧ (decode cX8_findOdds 4 = .ok (.bipush 29, 2)) ∧ (decode cX8_findOdds 6 = .ok (.iaload, 1)) ∧ (decode cX8_findOdds 7 = .ok (.istore_n 2, 1)) ∧ (decode cX8_findOdds 8 = .ok (.aload_n 0, 1)) ∧ (decode cX8_findOdds 9 = .ok (.lconst 0, 1)) ∧ (decode cX8_findOdds 10 = .ok (.putfield 265, 3)) ∧ (decode cX8_findOdds 13 = .ok (.aload_n 0, 1)) ∧ (decode cX8_findOdds 14 = .ok (.lconst 0, 1)) ∧ (decode cX8_findOdds 15 = .ok (.putfield 269, 3)) ∧ (decode cX8_findOdds 18 = .ok (.aload_n 0, 1)) ∧ (decode cX8_findOdds 19 = .ok (.lconst 1, 1)) ∧ (decode cX8_findOdds 20 = .ok (.putfield 272, 3)) ∧ (decode cX8_findOdds 23 = .ok (.iload_n 2, 1)) ∧ (decode cX8_findOdds 24 = .ok (.istore_n 3, 1)) := by decide +kernel
theorem dX8_findOdds_0 : decode cX8_findOdds 0 = .ok (.aload_n 0, 1) := dg_d101.1
theorem dX8_findOdds_1 : decode cX8_findOdds 1 = .ok (.getfield 7, 3) := dg_d101.2.1
theorem dX8_findOdds_4 : decode cX8_findOdds 4 = .ok (.bipush 29, 2) := dg_d101.2.2.1
theorem dX8_findOdds_6 : decode cX8_findOdds 6 = .ok (.iaload, 1) := dg_d101.2.2.2.1
theorem dX8_findOdds_7 : decode cX8_findOdds 7 = .ok (.istore_n 2, 1) := dg_d101.2.2.2.2.1
theorem dX8_findOdds_8 : decode cX8_findOdds 8 = .ok (.aload_n 0, 1) := dg_d101.2.2.2.2.2.1
theorem dX8_findOdds_9 : decode cX8_findOdds 9 = .ok (.lconst 0, 1) := dg_d101.2.2.2.2.2.2.1
theorem dX8_findOdds_10 : decode cX8_findOdds 10 = .ok (.putfield 265, 3) := dg_d101.2.2.2.2.2.2.2.1
theorem dX8_findOdds_13 : decode cX8_findOdds 13 = .ok (.aload_n 0, 1) := dg_d101.2.2.2.2.2.2.2.2.1
theorem dX8_findOdds_14 : decode cX8_findOdds 14 = .ok (.lconst 0, 1) := dg_d101.2.2.2.2.2.2.2.2.2.1
theorem dX8_findOdds_15 : decode cX8_findOdds 15 = .ok (.putfield 269, 3) := dg_d101.2.2.2.2.2.2.2.2.2.2.1
theorem dX8_findOdds_18 : decode cX8_findOdds 18 = .ok (.aload_n 0, 1) := dg_d101.2.2.2.2.2.2.2.2.2.2.2.1
theorem dX8_findOdds_19 : decode cX8_findOdds 19 = .ok (.lconst 1, 1) := dg_d101.2.2.2.2.2.2.2.2.2.2.2.2.1
theorem dX8_findOdds_20 : decode cX8_findOdds 20 = .ok (.putfield 272, 3) := dg_d101.2.2.2.2.2.2.2.2.2.2.2.2.2.1
theorem dX8_findOdds_23 : decode cX8_findOdds 23 = .ok (.iload_n 2, 1) := dg_d101.2.2.2.2.2.2.2.2.2.2.2.2.2.2.1
theorem dX8_findOdds_24 : decode cX8_findOdds 24 = .ok (.istore_n 3, 1) := dg_d101.2.2.2.2.2.2.2.2.2.2.2.2.2.2.2
theorem dg_d102 : (decode cX8_findOdds 25 = .ok (.iload_n 3, 1)) ∧ (decode cX8_findOdds 26 = .ok (.bipush 10, 2)) ∧ (decode cX8_findOdds 28 = .ok (.if_icmp .ge 21, 3)) ∧ (decode cX8_findOdds 31 = .ok (.aload_n 0, 1)) ∧ (decode cX8_findOdds 32 = .ok (.dup, 1)) ∧ (decode cX8_findOdds 33 = .ok (.getfield 272, 3)) ∧ (decode cX8_findOdds 36 = .ok (.ldc2_w 205, 3)) ∧ (decode cX8_findOdds 39 = .ok (.lmul, 1)) ∧ (decode cX8_findOdds 40 = .ok (.putfield 272, 3)) ∧ (decode cX8_findOdds 43 = .ok (.iinc 3 1, 3)) ∧ (decode cX8_findOdds 46 = .ok (.goto (-21), 3)) ∧ (decode cX8_findOdds 49 = .ok (.iconst 0, 1)) ∧ (decode cX8_findOdds 50 = .ok (.istore_n 3, 1)) ∧ (decode cX8_findOdds 51 = .ok (.iload_n 3, 1)) ∧ (decode cX8_findOdds 52 = .ok (.iconst 1, 1)) ∧ (decode cX8_findOdds 53 = .ok (.bipush 10, 2)) := by decide +kernel
theorem dX8_findOdds_25 : decode cX8_findOdds 25 = .ok (.iload_n 3, 1) := dg_d102.1
theorem dX8_findOdds_26 : decode cX8_findOdds 26 = .ok (.bipush 10, 2) := dg_d102.2.1
theorem dX8_findOdds_28 : decode cX8_findOdds 28 = .ok (.if_icmp .ge 21, 3) := dg_d102.2.2.1
theorem dX8_findOdds_31 : decode cX8_findOdds 31 = .ok (.aload_n 0, 1) := dg_d102.2.2.2.1
theorem dX8_findOdds_32 : decode cX8_findOdds 32 = .ok (.dup, 1) := dg_d102.2.2.2.2.1
theorem dX8_findOdds_33 : decode cX8_findOdds 33 = .ok (.getfield 272, 3) := dg_d102.2.2.2.2.2.1
theorem dX8_findOdds_36 : decode cX8_findOdds 36 = .ok (.ldc2_w 205, 3) := dg_d102.2.2.2.2.2.2.1
theorem dX8_findOdds_39 : decode cX8_findOdds 39 = .ok (.lmul, 1) := dg_d102.2.2.2.2.2.2.2.1
theorem dX8_findOdds_40 : decode cX8_findOdds 40 = .ok (.putfield 272, 3) := dg_d102.2.2.2.2.2.2.2.2.1
theorem dX8_findOdds_43 : decode cX8_findOdds 43 = .ok (.iinc 3 1, 3) := dg_d102.2.2.2.2.2.2.2.2.2.1
theorem dX8_findOdds_46 : decode cX8_findOdds 46 = .ok (.goto (-21), 3) := dg_d102.2.2.2.2.2.2.2.2.2.2.1
theorem dX8_findOdds_49 : decode cX8_findOdds 49 = .ok (.iconst 0, 1) := dg_d102.2.2.2.2.2.2.2.2.2.2.2.1
theorem dX8_findOdds_50 : decode cX8_findOdds 50 = .ok (.istore_n 3, 1) := dg_d102.2.2.2.2.2.2.2.2.2.2.2.2.1
theorem dX8_findOdds_51 : decode cX8_findOdds 51 = .ok (.iload_n 3, 1) := dg_d102.2.2.2.2.2.2.2.2.2.2.2.2.2.1
theorem dX8_findOdds_52 : decode cX8_findOdds 52 = .ok (.iconst 1, 1) := dg_d102.2.2.2.2.2.2.2.2.2.2.2.2.2.2.1
theorem dX8_findOdds_53 : decode cX8_findOdds 53 = .ok (.bipush 10, 2) := dg_d102.2.2.2.2.2.2.2.2.2.2.2.2.2.2.2
theorem dg_d103 : (decode cX8_findOdds 55 = .ok (.iload_n 2, 1)) ∧ (decode cX8_findOdds 56 = .ok (.isub, 1)) ∧ (decode cX8_findOdds 57 = .ok (.ishl, 1)) ∧ (decode cX8_findOdds 58 = .ok (.if_icmp .ge 115, 3)) ∧ (decode cX8_findOdds 61 = .ok (.lconst 1, 1)) ∧ (decode cX8_findOdds 62 = .ok (.lstore 4, 2)) ∧ (decode cX8_findOdds 64 = .ok (.iconst 0, 1)) ∧ (decode cX8_findOdds 65 = .ok (.istore 6, 2)) ∧ (decode cX8_findOdds 67 = .ok (.iload 6, 2)) ∧ (decode cX8_findOdds 69 = .ok (.bipush 10, 2)) ∧ (decode cX8_findOdds 71 = .ok (.iload_n 2, 1)) ∧ (decode cX8_findOdds 72 = .ok (.isub, 1)) ∧ (decode cX8_findOdds 73 = .ok (.if_icmp .ge 34, 3)) ∧ (decode cX8_findOdds 76 = .ok (.lload 4, 2)) ∧ (decode cX8_findOdds 78 = .ok (.iload_n 3, 1)) ∧ (decode cX8_findOdds 79 = .ok (.iload 6, 2)) := by decide +kernel
theorem dX8_findOdds_55 : decode cX8_findOdds 55 = .ok (.iload_n 2, 1) := dg_d103.1
theorem dX8_findOdds_56 : decode cX8_findOdds 56 = .ok (.isub, 1) := dg_d103.2.1
theorem dX8_findOdds_57 : decode cX8_findOdds 57 = .ok (.ishl, 1) := dg_d103.2.2.1
theorem dX8_findOdds_58 : decode cX8_findOdds 58 = .ok (.if_icmp .ge 115, 3) := dg_d103.2.2.2.1
theorem dX8_findOdds_61 : decode cX8_findOdds 61 = .ok (.lconst 1, 1) := dg_d103.2.2.2.2.1
theorem dX8_findOdds_62 : decode cX8_findOdds 62 = .ok (.lstore 4, 2) := dg_d103.2.2.2.2.2.1
theorem dX8_findOdds_64 : decode cX8_findOdds 64 = .ok (.iconst 0, 1) := dg_d103.2.2.2.2.2.2.1
theorem dX8_findOdds_65 : decode cX8_findOdds 65 = .ok (.istore 6, 2) := dg_d103.2.2.2.2.2.2.2.1
theorem dX8_findOdds_67 : decode cX8_findOdds 67 = .ok (.iload 6, 2) := dg_d103.2.2.2.2.2.2.2.2.1
theorem dX8_findOdds_69 : decode cX8_findOdds 69 = .ok (.bipush 10, 2) := dg_d103.2.2.2.2.2.2.2.2.2.1
theorem dX8_findOdds_71 : decode cX8_findOdds 71 = .ok (.iload_n 2, 1) := dg_d103.2.2.2.2.2.2.2.2.2.2.1
theorem dX8_findOdds_72 : decode cX8_findOdds 72 = .ok (.isub, 1) := dg_d103.2.2.2.2.2.2.2.2.2.2.2.1
theorem dX8_findOdds_73 : decode cX8_findOdds 73 = .ok (.if_icmp .ge 34, 3) := dg_d103.2.2.2.2.2.2.2.2.2.2.2.2.1
theorem dX8_findOdds_76 : decode cX8_findOdds 76 = .ok (.lload 4, 2) := dg_d103.2.2.2.2.2.2.2.2.2.2.2.2.2.1
theorem dX8_findOdds_78 : decode cX8_findOdds 78 = .ok (.iload_n 3, 1) := dg_d103.2.2.2.2.2.2.2.2.2.2.2.2.2.2.1
theorem dX8_findOdds_79 : decode cX8_findOdds 79 = .ok (.iload 6, 2) := dg_d103.2.2.2.2.2.2.2.2.2.2.2.2.2.2.2
theorem dg_d104 : (decode cX8_findOdds 81 = .ok (.ishr, 1)) ∧ (decode cX8_findOdds 82 = .ok (.iconst 1, 1)) ∧ (decode cX8_findOdds 83 = .ok (.iand, 1)) ∧ (decode cX8_findOdds 84 = .ok (.iconst 1, 1)) ∧ (decode cX8_findOdds 85 = .ok (.if_icmp .ne 8, 3)) ∧ (decode cX8_findOdds 88 = .ok (.iload_n 1, 1)) ∧ (decode cX8_findOdds 89 = .ok (.i2l, 1)) ∧ (decode cX8_findOdds 90 = .ok (.goto 8, 3)) ∧ (decode cX8_findOdds 93 = .ok (.bipush 10, 2)) ∧ (decode cX8_findOdds 95 = .ok (.iload_n 1, 1)) ∧ (decode cX8_findOdds 96 = .ok (.isub, 1)) ∧ (decode cX8_findOdds 97 = .ok (.i2l, 1)) ∧ (decode cX8_findOdds 98 = .ok (.lmul, 1)) ∧ (decode cX8_findOdds 99 = .ok (.lstore 4, 2)) ∧ (decode cX8_findOdds 101 = .ok (.iinc 6 1, 3)) ∧ (decode cX8_findOdds 104 = .ok (.goto (-37), 3)) := by decide +kernel
theorem dX8_findOdds_81 : decode cX8_findOdds 81 = .ok (.ishr, 1) := dg_d104.1
theorem dX8_findOdds_82 : decode cX8_findOdds 82 = .ok (.iconst 1, 1) := dg_d104.2.1
theorem dX8_findOdds_83 : decode cX8_findOdds 83 = .ok (.iand, 1) := dg_d104.2.2.1
theorem dX8_findOdds_84 : decode cX8_findOdds 84 = .ok (.iconst 1, 1) := dg_d104.2.2.2.1
theorem dX8_findOdds_85 : decode cX8_findOdds 85 = .ok (.if_icmp .ne 8, 3) := dg_d104.2.2.2.2.1
theorem dX8_findOdds_88 : decode cX8_findOdds 88 = .ok (.iload_n 1, 1) := dg_d104.2.2.2.2.2.1
theorem dX8_findOdds_89 : decode cX8_findOdds 89 = .ok (.i2l, 1) := dg_d104.2.2.2.2.2.2.1
theorem dX8_findOdds_90 : decode cX8_findOdds 90 = .ok (.goto 8, 3) := dg_d104.2.2.2.2.2.2.2.1
theorem dX8_findOdds_93 : decode cX8_findOdds 93 = .ok (.bipush 10, 2) := dg_d104.2.2.2.2.2.2.2.2.1
theorem dX8_findOdds_95 : decode cX8_findOdds 95 = .ok (.iload_n 1, 1) := dg_d104.2.2.2.2.2.2.2.2.2.1
theorem dX8_findOdds_96 : decode cX8_findOdds 96 = .ok (.isub, 1) := dg_d104.2.2.2.2.2.2.2.2.2.2.1
theorem dX8_findOdds_97 : decode cX8_findOdds 97 = .ok (.i2l, 1) := dg_d104.2.2.2.2.2.2.2.2.2.2.2.1
theorem dX8_findOdds_98 : decode cX8_findOdds 98 = .ok (.lmul, 1) := dg_d104.2.2.2.2.2.2.2.2.2.2.2.2.1
theorem dX8_findOdds_99 : decode cX8_findOdds 99 = .ok (.lstore 4, 2) := dg_d104.2.2.2.2.2.2.2.2.2.2.2.2.2.1
theorem dX8_findOdds_101 : decode cX8_findOdds 101 = .ok (.iinc 6 1, 3) := dg_d104.2.2.2.2.2.2.2.2.2.2.2.2.2.2.1
theorem dX8_findOdds_104 : decode cX8_findOdds 104 = .ok (.goto (-37), 3) := dg_d104.2.2.2.2.2.2.2.2.2.2.2.2.2.2.2
theorem dg_d105 : (decode cX8_findOdds 107 = .ok (.aload_n 0, 1)) ∧ (decode cX8_findOdds 108 = .ok (.invokevirtual 188, 3)) ∧ (decode cX8_findOdds 111 = .ok (.aload_n 0, 1)) ∧ (decode cX8_findOdds 112 = .ok (.getfield 13, 3)) ∧ (decode cX8_findOdds 115 = .ok (.bipush 28, 2)) ∧ (decode cX8_findOdds 117 = .ok (.iload_n 3, 1)) ∧ (decode cX8_findOdds 118 = .ok (.iload_n 2, 1)) ∧ (decode cX8_findOdds 119 = .ok (.ishl, 1)) ∧ (decode cX8_findOdds 120 = .ok (.iastore, 1)) ∧ (decode cX8_findOdds 121 = .ok (.aload_n 0, 1)) ∧ (decode cX8_findOdds 122 = .ok (.invokevirtual 224, 3)) ∧ (decode cX8_findOdds 125 = .ok (.aload_n 0, 1)) ∧ (decode cX8_findOdds 126 = .ok (.dup, 1)) ∧ (decode cX8_findOdds 127 = .ok (.getfield 265, 3)) ∧ (decode cX8_findOdds 130 = .ok (.aload_n 0, 1)) ∧ (decode cX8_findOdds 131 = .ok (.invokevirtual 191, 3)) := by decide +kernel
theorem dX8_findOdds_107 : decode cX8_findOdds 107 = .ok (.aload_n 0, 1) := dg_d105.1
theorem dX8_findOdds_108 : decode cX8_findOdds 108 = .ok (.invokevirtual 188, 3) := dg_d105.2.1
theorem dX8_findOdds_111 : decode cX8_findOdds 111 = .ok (.aload_n 0, 1) := dg_d105.2.2.1
theorem dX8_findOdds_112 : decode cX8_findOdds 112 = .ok (.getfield 13, 3) := dg_d105.2.2.2.1
theorem dX8_findOdds_115 : decode cX8_findOdds 115 = .ok (.bipush 28, 2) := dg_d105.2.2.2.2.1
theorem dX8_findOdds_117 : decode cX8_findOdds 117 = .ok (.iload_n 3, 1) := dg_d105.2.2.2.2.2.1
theorem dX8_findOdds_118 : decode cX8_findOdds 118 = .ok (.iload_n 2, 1) := dg_d105.2.2.2.2.2.2.1
theorem dX8_findOdds_119 : decode cX8_findOdds 119 = .ok (.ishl, 1) := dg_d105.2.2.2.2.2.2.2.1
theorem dX8_findOdds_120 : decode cX8_findOdds 120 = .ok (.iastore, 1) := dg_d105.2.2.2.2.2.2.2.2.1
theorem dX8_findOdds_121 : decode cX8_findOdds 121 = .ok (.aload_n 0, 1) := dg_d105.2.2.2.2.2.2.2.2.2.1
theorem dX8_findOdds_122 : decode cX8_findOdds 122 = .ok (.invokevirtual 224, 3) := dg_d105.2.2.2.2.2.2.2.2.2.2.1
theorem dX8_findOdds_125 : decode cX8_findOdds 125 = .ok (.aload_n 0, 1) := dg_d105.2.2.2.2.2.2.2.2.2.2.2.1
theorem dX8_findOdds_126 : decode cX8_findOdds 126 = .ok (.dup, 1) := dg_d105.2.2.2.2.2.2.2.2.2.2.2.2.1
theorem dX8_findOdds_127 : decode cX8_findOdds 127 = .ok (.getfield 265, 3) := dg_d105.2.2.2.2.2.2.2.2.2.2.2.2.2.1
theorem dX8_findOdds_130 : decode cX8_findOdds 130 = .ok (.aload_n 0, 1) := dg_d105.2.2.2.2.2.2.2.2.2.2.2.2.2.2.1
theorem dX8_findOdds_131 : decode cX8_findOdds 131 = .ok (.invokevirtual 191, 3) := dg_d105.2.2.2.2.2.2.2.2.2.2.2.2.2.2.2
theorem dg_d106 : (decode cX8_findOdds 134 = .ok (.ifCond .eq 8, 3)) ∧ (decode cX8_findOdds 137 = .ok (.lload 4, 2)) ∧ (decode cX8_findOdds 139 = .ok (.goto 4, 3)) ∧ (decode cX8_findOdds 142 = .ok (.lconst 0, 1)) ∧ (decode cX8_findOdds 143 = .ok (.ladd, 1)) ∧ (decode cX8_findOdds 144 = .ok (.putfield 265, 3)) ∧ (decode cX8_findOdds 147 = .ok (.aload_n 0, 1)) ∧ (decode cX8_findOdds 148 = .ok (.dup, 1)) ∧ (decode cX8_findOdds 149 = .ok (.getfield 269, 3)) ∧ (decode cX8_findOdds 152 = .ok (.lload 4, 2)) ∧ (decode cX8_findOdds 154 = .ok (.aload_n 0, 1)) ∧ (decode cX8_findOdds 155 = .ok (.getfield 13, 3)) ∧ (decode cX8_findOdds 158 = .ok (.bipush 30, 2)) ∧ (decode cX8_findOdds 160 = .ok (.iaload, 1)) ∧ (decode cX8_findOdds 161 = .ok (.i2l, 1)) ∧ (decode cX8_findOdds 162 = .ok (.lmul, 1)) := by decide +kernel
theorem dX8_findOdds_134 : decode cX8_findOdds 134 = .ok (.ifCond .eq 8, 3) := dg_d106.1
theorem dX8_findOdds_137 : decode cX8_findOdds 137 = .ok (.lload 4, 2) := dg_d106.2.1
theorem dX8_findOdds_139 : decode cX8_findOdds 139 = .ok (.goto 4, 3) := dg_d106.2.2.1
theorem dX8_findOdds_142 : decode cX8_findOdds 142 = .ok (.lconst 0, 1) := dg_d106.2.2.2.1
theorem dX8_findOdds_143 : decode cX8_findOdds 143 = .ok (.ladd, 1) := dg_d106.2.2.2.2.1
theorem dX8_findOdds_144 : decode cX8_findOdds 144 = .ok (.putfield 265, 3) := dg_d106.2.2.2.2.2.1
theorem dX8_findOdds_147 : decode cX8_findOdds 147 = .ok (.aload_n 0, 1) := dg_d106.2.2.2.2.2.2.1
theorem dX8_findOdds_148 : decode cX8_findOdds 148 = .ok (.dup, 1) := dg_d106.2.2.2.2.2.2.2.1
theorem dX8_findOdds_149 : decode cX8_findOdds 149 = .ok (.getfield 269, 3) := dg_d106.2.2.2.2.2.2.2.2.1
theorem dX8_findOdds_152 : decode cX8_findOdds 152 = .ok (.lload 4, 2) := dg_d106.2.2.2.2.2.2.2.2.2.1
theorem dX8_findOdds_154 : decode cX8_findOdds 154 = .ok (.aload_n 0, 1) := dg_d106.2.2.2.2.2.2.2.2.2.2.1
theorem dX8_findOdds_155 : decode cX8_findOdds 155 = .ok (.getfield 13, 3) := dg_d106.2.2.2.2.2.2.2.2.2.2.2.1
theorem dX8_findOdds_158 : decode cX8_findOdds 158 = .ok (.bipush 30, 2) := dg_d106.2.2.2.2.2.2.2.2.2.2.2.2.1
theorem dX8_findOdds_160 : decode cX8_findOdds 160 = .ok (.iaload, 1) := dg_d106.2.2.2.2.2.2.2.2.2.2.2.2.2.1
theorem dX8_findOdds_161 : decode cX8_findOdds 161 = .ok (.i2l, 1) := dg_d106.2.2.2.2.2.2.2.2.2.2.2.2.2.2.1
theorem dX8_findOdds_162 : decode cX8_findOdds 162 = .ok (.lmul, 1) := dg_d106.2.2.2.2.2.2.2.2.2.2.2.2.2.2.2
theorem dg_d107 : (decode cX8_findOdds 163 = .ok (.ladd, 1)) ∧ (decode cX8_findOdds 164 = .ok (.putfield 269, 3)) ∧ (decode cX8_findOdds 167 = .ok (.iinc 3 1, 3)) ∧ (decode cX8_findOdds 170 = .ok (.goto (-119), 3)) ∧ (decode cX8_findOdds 173 = .ok (.return_, 1)) := by decide +kernel
theorem dX8_findOdds_163 : decode cX8_findOdds 163 = .ok (.ladd, 1) := dg_d107.1
theorem dX8_findOdds_164 : decode cX8_findOdds 164 = .ok (.putfield 269, 3) := dg_d107.2.1
theorem dX8_findOdds_167 : decode cX8_findOdds 167 = .ok (.iinc 3 1, 3) := dg_d107.2.2.1
theorem dX8_findOdds_170 : decode cX8_findOdds 170 = .ok (.goto (-119), 3) := dg_d107.2.2.2.1
theorem dX8_findOdds_173 : decode cX8_findOdds 173 = .ok (.return_, 1) := dg_d107.2.2.2.2
theorem dg_d108 : (decode cX8_luck 0 = .ok (.iload_n 1, 1)) ∧ (decode cX8_luck 1 = .ok (.i2l, 1)) ∧ (decode cX8_luck 2 = .ok (.lconst 0, 1)) ∧ (decode cX8_luck 3 = .ok (.ldc2_w 205, 3)) ∧ (decode cX8_luck 6 = .ok (.invokestatic 68, 3)) ∧ (decode cX8_luck 9 = .ok (.ifCond .eq 10, 3)) ∧ (decode cX8_luck 12 = .ok (.iload_n 2, 1)) ∧ (decode cX8_luck 13 = .ok (.invokestatic 246, 3)) ∧ (decode cX8_luck 16 = .ok (.ifCond .ne 7, 3)) ∧ (decode cX8_luck 19 = .ok (.ldc2_w 275, 3)) ∧ (decode cX8_luck 22 = .ok (.lreturn, 1)) ∧ (decode cX8_luck 23 = .ok (.aload_n 0, 1)) ∧ (decode cX8_luck 24 = .ok (.iload_n 1, 1)) ∧ (decode cX8_luck 25 = .ok (.invokevirtual 277, 3)) ∧ (decode cX8_luck 28 = .ok (.aload_n 0, 1)) ∧ (decode cX8_luck 29 = .ok (.getfield 265, 3)) := by decide +kernel
theorem dX8_luck_0 : decode cX8_luck 0 = .ok (.iload_n 1, 1) := dg_d108.1
theorem dX8_luck_1 : decode cX8_luck 1 = .ok (.i2l, 1) := dg_d108.2.1
theorem dX8_luck_2 : decode cX8_luck 2 = .ok (.lconst 0, 1) := dg_d108.2.2.1
theorem dX8_luck_3 : decode cX8_luck 3 = .ok (.ldc2_w 205, 3) := dg_d108.2.2.2.1
theorem dX8_luck_6 : decode cX8_luck 6 = .ok (.invokestatic 68, 3) := dg_d108.2.2.2.2.1
theorem dX8_luck_9 : decode cX8_luck 9 = .ok (.ifCond .eq 10, 3) := dg_d108.2.2.2.2.2.1
theorem dX8_luck_12 : decode cX8_luck 12 = .ok (.iload_n 2, 1) := dg_d108.2.2.2.2.2.2.1
theorem dX8_luck_13 : decode cX8_luck 13 = .ok (.invokestatic 246, 3) := dg_d108.2.2.2.2.2.2.2.1
theorem dX8_luck_16 : decode cX8_luck 16 = .ok (.ifCond .ne 7, 3) := dg_d108.2.2.2.2.2.2.2.2.1
theorem dX8_luck_19 : decode cX8_luck 19 = .ok (.ldc2_w 275, 3) := dg_d108.2.2.2.2.2.2.2.2.2.1
theorem dX8_luck_22 : decode cX8_luck 22 = .ok (.lreturn, 1) := dg_d108.2.2.2.2.2.2.2.2.2.2.1
theorem dX8_luck_23 : decode cX8_luck 23 = .ok (.aload_n 0, 1) := dg_d108.2.2.2.2.2.2.2.2.2.2.2.1
theorem dX8_luck_24 : decode cX8_luck 24 = .ok (.iload_n 1, 1) := dg_d108.2.2.2.2.2.2.2.2.2.2.2.2.1
theorem dX8_luck_25 : decode cX8_luck 25 = .ok (.invokevirtual 277, 3) := dg_d108.2.2.2.2.2.2.2.2.2.2.2.2.2.1
theorem dX8_luck_28 : decode cX8_luck 28 = .ok (.aload_n 0, 1) := dg_d108.2.2.2.2.2.2.2.2.2.2.2.2.2.2.1
theorem dX8_luck_29 : decode cX8_luck 29 = .ok (.getfield 265, 3) := dg_d108.2.2.2.2.2.2.2.2.2.2.2.2.2.2.2
theorem dg_d109 : (decode cX8_luck 32 = .ok (.aload_n 0, 1)) ∧ (decode cX8_luck 33 = .ok (.getfield 272, 3)) ∧ (decode cX8_luck 36 = .ok (.iload_n 2, 1)) ∧ (decode cX8_luck 37 = .ok (.invokestatic 280, 3)) ∧ (decode cX8_luck 40 = .ok (.lreturn, 1)) := by decide +kernel
theorem dX8_luck_32 : decode cX8_luck 32 = .ok (.aload_n 0, 1) := dg_d109.1
theorem dX8_luck_33 : decode cX8_luck 33 = .ok (.getfield 272, 3) := dg_d109.2.1
theorem dX8_luck_36 : decode cX8_luck 36 = .ok (.iload_n 2, 1) := dg_d109.2.2.1
theorem dX8_luck_37 : decode cX8_luck 37 = .ok (.invokestatic 280, 3) := dg_d109.2.2.2.1
theorem dX8_luck_40 : decode cX8_luck 40 = .ok (.lreturn, 1) := dg_d109.2.2.2.2
theorem dg_d110 : (decode cX8_mean 0 = .ok (.iload_n 1, 1)) ∧ (decode cX8_mean 1 = .ok (.i2l, 1)) ∧ (decode cX8_mean 2 = .ok (.lconst 0, 1)) ∧ (decode cX8_mean 3 = .ok (.ldc2_w 205, 3)) ∧ (decode cX8_mean 6 = .ok (.invokestatic 68, 3)) ∧ (decode cX8_mean 9 = .ok (.ifCond .eq 10, 3)) ∧ (decode cX8_mean 12 = .ok (.iload_n 2, 1)) ∧ (decode cX8_mean 13 = .ok (.invokestatic 246, 3)) ∧ (decode cX8_mean 16 = .ok (.ifCond .ne 7, 3)) ∧ (decode cX8_mean 19 = .ok (.ldc2_w 275, 3)) ∧ (decode cX8_mean 22 = .ok (.lreturn, 1)) ∧ (decode cX8_mean 23 = .ok (.aload_n 0, 1)) ∧ (decode cX8_mean 24 = .ok (.iload_n 1, 1)) ∧ (decode cX8_mean 25 = .ok (.invokevirtual 277, 3)) ∧ (decode cX8_mean 28 = .ok (.aload_n 0, 1)) ∧ (decode cX8_mean 29 = .ok (.getfield 269, 3)) := by decide +kernel
theorem dX8_mean_0 : decode cX8_mean 0 = .ok (.iload_n 1, 1) := dg_d110.1
theorem dX8_mean_1 : decode cX8_mean 1 = .ok (.i2l, 1) := dg_d110.2.1
theorem dX8_mean_2 : decode cX8_mean 2 = .ok (.lconst 0, 1) := dg_d110.2.2.1
theorem dX8_mean_3 : decode cX8_mean 3 = .ok (.ldc2_w 205, 3) := dg_d110.2.2.2.1
theorem dX8_mean_6 : decode cX8_mean 6 = .ok (.invokestatic 68, 3) := dg_d110.2.2.2.2.1
theorem dX8_mean_9 : decode cX8_mean 9 = .ok (.ifCond .eq 10, 3) := dg_d110.2.2.2.2.2.1
theorem dX8_mean_12 : decode cX8_mean 12 = .ok (.iload_n 2, 1) := dg_d110.2.2.2.2.2.2.1
theorem dX8_mean_13 : decode cX8_mean 13 = .ok (.invokestatic 246, 3) := dg_d110.2.2.2.2.2.2.2.1
theorem dX8_mean_16 : decode cX8_mean 16 = .ok (.ifCond .ne 7, 3) := dg_d110.2.2.2.2.2.2.2.2.1
theorem dX8_mean_19 : decode cX8_mean 19 = .ok (.ldc2_w 275, 3) := dg_d110.2.2.2.2.2.2.2.2.2.1
theorem dX8_mean_22 : decode cX8_mean 22 = .ok (.lreturn, 1) := dg_d110.2.2.2.2.2.2.2.2.2.2.1
theorem dX8_mean_23 : decode cX8_mean 23 = .ok (.aload_n 0, 1) := dg_d110.2.2.2.2.2.2.2.2.2.2.2.1
theorem dX8_mean_24 : decode cX8_mean 24 = .ok (.iload_n 1, 1) := dg_d110.2.2.2.2.2.2.2.2.2.2.2.2.1
theorem dX8_mean_25 : decode cX8_mean 25 = .ok (.invokevirtual 277, 3) := dg_d110.2.2.2.2.2.2.2.2.2.2.2.2.2.1
theorem dX8_mean_28 : decode cX8_mean 28 = .ok (.aload_n 0, 1) := dg_d110.2.2.2.2.2.2.2.2.2.2.2.2.2.2.1
theorem dX8_mean_29 : decode cX8_mean 29 = .ok (.getfield 269, 3) := dg_d110.2.2.2.2.2.2.2.2.2.2.2.2.2.2.2
theorem dg_d111 : (decode cX8_mean 32 = .ok (.aload_n 0, 1)) ∧ (decode cX8_mean 33 = .ok (.getfield 272, 3)) ∧ (decode cX8_mean 36 = .ok (.iload_n 2, 1)) ∧ (decode cX8_mean 37 = .ok (.invokestatic 280, 3)) ∧ (decode cX8_mean 40 = .ok (.lreturn, 1)) := by decide +kernel
theorem dX8_mean_32 : decode cX8_mean 32 = .ok (.aload_n 0, 1) := dg_d111.1
theorem dX8_mean_33 : decode cX8_mean 33 = .ok (.getfield 272, 3) := dg_d111.2.1
theorem dX8_mean_36 : decode cX8_mean 36 = .ok (.iload_n 2, 1) := dg_d111.2.2.1
theorem dX8_mean_37 : decode cX8_mean 37 = .ok (.invokestatic 280, 3) := dg_d111.2.2.2.1
theorem dX8_mean_40 : decode cX8_mean 40 = .ok (.lreturn, 1) := dg_d111.2.2.2.2
theorem dg_d112 : (decode cX8_see 0 = .ok (.iload_n 1, 1)) ∧ (decode cX8_see 1 = .ok (.i2l, 1)) ∧ (decode cX8_see 2 = .ok (.lconst 0, 1)) ∧ (decode cX8_see 3 = .ok (.ldc2_w 284, 3)) ∧ (decode cX8_see 6 = .ok (.invokestatic 68, 3)) ∧ (decode cX8_see 9 = .ok (.ifCond .eq 17, 3)) ∧ (decode cX8_see 12 = .ok (.iload_n 2, 1)) ∧ (decode cX8_see 13 = .ok (.i2l, 1)) ∧ (decode cX8_see 14 = .ok (.ldc2_w 286, 3)) ∧ (decode cX8_see 17 = .ok (.ldc2_w 207, 3)) ∧ (decode cX8_see 20 = .ok (.invokestatic 68, 3)) ∧ (decode cX8_see 23 = .ok (.ifCond .ne 5, 3)) ∧ (decode cX8_see 26 = .ok (.iconst (-1), 1)) ∧ (decode cX8_see 27 = .ok (.ireturn, 1)) ∧ (decode cX8_see 28 = .ok (.aload_n 0, 1)) ∧ (decode cX8_see 29 = .ok (.getfield 7, 3)) := by decide +kernel
theorem dX8_see_0 : decode cX8_see 0 = .ok (.iload_n 1, 1) := dg_d112.1
theorem dX8_see_1 : decode cX8_see 1 = .ok (.i2l, 1) := dg_d112.2.1
theorem dX8_see_2 : decode cX8_see 2 = .ok (.lconst 0, 1) := dg_d112.2.2.1
theorem dX8_see_3 : decode cX8_see 3 = .ok (.ldc2_w 284, 3) := dg_d112.2.2.2.1
theorem dX8_see_6 : decode cX8_see 6 = .ok (.invokestatic 68, 3) := dg_d112.2.2.2.2.1
theorem dX8_see_9 : decode cX8_see 9 = .ok (.ifCond .eq 17, 3) := dg_d112.2.2.2.2.2.1
theorem dX8_see_12 : decode cX8_see 12 = .ok (.iload_n 2, 1) := dg_d112.2.2.2.2.2.2.1
theorem dX8_see_13 : decode cX8_see 13 = .ok (.i2l, 1) := dg_d112.2.2.2.2.2.2.2.1
theorem dX8_see_14 : decode cX8_see 14 = .ok (.ldc2_w 286, 3) := dg_d112.2.2.2.2.2.2.2.2.1
theorem dX8_see_17 : decode cX8_see 17 = .ok (.ldc2_w 207, 3) := dg_d112.2.2.2.2.2.2.2.2.2.1
theorem dX8_see_20 : decode cX8_see 20 = .ok (.invokestatic 68, 3) := dg_d112.2.2.2.2.2.2.2.2.2.2.1
theorem dX8_see_23 : decode cX8_see 23 = .ok (.ifCond .ne 5, 3) := dg_d112.2.2.2.2.2.2.2.2.2.2.2.1
theorem dX8_see_26 : decode cX8_see 26 = .ok (.iconst (-1), 1) := dg_d112.2.2.2.2.2.2.2.2.2.2.2.2.1
theorem dX8_see_27 : decode cX8_see 27 = .ok (.ireturn, 1) := dg_d112.2.2.2.2.2.2.2.2.2.2.2.2.2.1
theorem dX8_see_28 : decode cX8_see 28 = .ok (.aload_n 0, 1) := dg_d112.2.2.2.2.2.2.2.2.2.2.2.2.2.2.1
theorem dX8_see_29 : decode cX8_see 29 = .ok (.getfield 7, 3) := dg_d112.2.2.2.2.2.2.2.2.2.2.2.2.2.2.2
theorem dg_d113 : (decode cX8_see 32 = .ok (.bipush 41, 2)) ∧ (decode cX8_see 34 = .ok (.iaload, 1)) ∧ (decode cX8_see 35 = .ok (.bipush 6, 2)) ∧ (decode cX8_see 37 = .ok (.if_icmp .ne 6, 3)) ∧ (decode cX8_see 40 = .ok (.bipush (-3), 2)) ∧ (decode cX8_see 42 = .ok (.ireturn, 1)) ∧ (decode cX8_see 43 = .ok (.aload_n 0, 1)) ∧ (decode cX8_see 44 = .ok (.getfield 7, 3)) ∧ (decode cX8_see 47 = .ok (.bipush 42, 2)) ∧ (decode cX8_see 49 = .ok (.iconst 2, 1)) := by decide +kernel
theorem dX8_see_32 : decode cX8_see 32 = .ok (.bipush 41, 2) := dg_d113.1
theorem dX8_see_34 : decode cX8_see 34 = .ok (.iaload, 1) := dg_d113.2.1
theorem dX8_see_35 : decode cX8_see 35 = .ok (.bipush 6, 2) := dg_d113.2.2.1
theorem dX8_see_37 : decode cX8_see 37 = .ok (.if_icmp .ne 6, 3) := dg_d113.2.2.2.1
theorem dX8_see_40 : decode cX8_see 40 = .ok (.bipush (-3), 2) := dg_d113.2.2.2.2.1
theorem dX8_see_42 : decode cX8_see 42 = .ok (.ireturn, 1) := dg_d113.2.2.2.2.2.1
theorem dX8_see_43 : decode cX8_see 43 = .ok (.aload_n 0, 1) := dg_d113.2.2.2.2.2.2.1
theorem dX8_see_44 : decode cX8_see 44 = .ok (.getfield 7, 3) := dg_d113.2.2.2.2.2.2.2.1
theorem dX8_see_47 : decode cX8_see 47 = .ok (.bipush 42, 2) := dg_d113.2.2.2.2.2.2.2.2.1
theorem dX8_see_49 : decode cX8_see 49 = .ok (.iconst 2, 1) := dg_d113.2.2.2.2.2.2.2.2.2
