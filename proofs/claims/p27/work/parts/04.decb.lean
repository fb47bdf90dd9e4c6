theorem dg_b0 : (decode cX5_need 11 = .ok (.getfield 125, 3)) ∧ (decode cX5_need 14 = .ok (.invokevirtual 54, 3)) ∧ (decode cX5_need 17 = .ok (.return_, 1)) := by decide +kernel
theorem dX5_need_11 : decode cX5_need 11 = .ok (.getfield 125, 3) := dg_b0.1
theorem dX5_need_14 : decode cX5_need 14 = .ok (.invokevirtual 54, 3) := dg_b0.2.1
theorem dX5_need_17 : decode cX5_need 17 = .ok (.return_, 1) := dg_b0.2.2
theorem dg_b1 : (decode cX5_needWithin 0 = .ok (.aload_n 0, 1)) ∧ (decode cX5_needWithin 1 = .ok (.getfield 181, 3)) ∧ (decode cX5_needWithin 4 = .ok (.iload_n 1, 1)) ∧ (decode cX5_needWithin 5 = .ok (.if_icmp .lt 11, 3)) ∧ (decode cX5_needWithin 8 = .ok (.aload_n 0, 1)) ∧ (decode cX5_needWithin 9 = .ok (.getfield 181, 3)) ∧ (decode cX5_needWithin 12 = .ok (.iload_n 2, 1)) ∧ (decode cX5_needWithin 13 = .ok (.if_icmp .le 12, 3)) ∧ (decode cX5_needWithin 16 = .ok (.aload_n 0, 1)) ∧ (decode cX5_needWithin 17 = .ok (.iconst 3, 1)) ∧ (decode cX5_needWithin 18 = .ok (.aload_n 0, 1)) ∧ (decode cX5_needWithin 19 = .ok (.getfield 125, 3)) ∧ (decode cX5_needWithin 22 = .ok (.invokevirtual 54, 3)) ∧ (decode cX5_needWithin 25 = .ok (.return_, 1)) := by decide +kernel
theorem dX5_needWithin_0 : decode cX5_needWithin 0 = .ok (.aload_n 0, 1) := dg_b1.1
theorem dX5_needWithin_1 : decode cX5_needWithin 1 = .ok (.getfield 181, 3) := dg_b1.2.1
theorem dX5_needWithin_4 : decode cX5_needWithin 4 = .ok (.iload_n 1, 1) := dg_b1.2.2.1
theorem dX5_needWithin_5 : decode cX5_needWithin 5 = .ok (.if_icmp .lt 11, 3) := dg_b1.2.2.2.1
theorem dX5_needWithin_8 : decode cX5_needWithin 8 = .ok (.aload_n 0, 1) := dg_b1.2.2.2.2.1
theorem dX5_needWithin_9 : decode cX5_needWithin 9 = .ok (.getfield 181, 3) := dg_b1.2.2.2.2.2.1
theorem dX5_needWithin_12 : decode cX5_needWithin 12 = .ok (.iload_n 2, 1) := dg_b1.2.2.2.2.2.2.1
theorem dX5_needWithin_13 : decode cX5_needWithin 13 = .ok (.if_icmp .le 12, 3) := dg_b1.2.2.2.2.2.2.2.1
theorem dX5_needWithin_16 : decode cX5_needWithin 16 = .ok (.aload_n 0, 1) := dg_b1.2.2.2.2.2.2.2.2.1
theorem dX5_needWithin_17 : decode cX5_needWithin 17 = .ok (.iconst 3, 1) := dg_b1.2.2.2.2.2.2.2.2.2.1
theorem dX5_needWithin_18 : decode cX5_needWithin 18 = .ok (.aload_n 0, 1) := dg_b1.2.2.2.2.2.2.2.2.2.2.1
theorem dX5_needWithin_19 : decode cX5_needWithin 19 = .ok (.getfield 125, 3) := dg_b1.2.2.2.2.2.2.2.2.2.2.2.1
theorem dX5_needWithin_22 : decode cX5_needWithin 22 = .ok (.invokevirtual 54, 3) := dg_b1.2.2.2.2.2.2.2.2.2.2.2.2.1
theorem dX5_needWithin_25 : decode cX5_needWithin 25 = .ok (.return_, 1) := dg_b1.2.2.2.2.2.2.2.2.2.2.2.2.2
theorem dg_b2 : (decode cX5_takeToken 0 = .ok (.aload_n 0, 1)) ∧ (decode cX5_takeToken 1 = .ok (.getfield 29, 3)) ∧ (decode cX5_takeToken 4 = .ok (.ifCond .eq 4, 3)) ∧ (decode cX5_takeToken 7 = .ok (.return_, 1)) ∧ (decode cX5_takeToken 8 = .ok (.aload_n 0, 1)) ∧ (decode cX5_takeToken 9 = .ok (.aload_n 0, 1)) ∧ (decode cX5_takeToken 10 = .ok (.getfield 38, 3)) ∧ (decode cX5_takeToken 13 = .ok (.putfield 125, 3)) ∧ (decode cX5_takeToken 16 = .ok (.iconst 0, 1)) ∧ (decode cX5_takeToken 17 = .ok (.istore_n 1, 1)) ∧ (decode cX5_takeToken 18 = .ok (.iload_n 1, 1)) ∧ (decode cX5_takeToken 19 = .ok (.sipush 160, 3)) ∧ (decode cX5_takeToken 22 = .ok (.if_icmp .ge 34, 3)) ∧ (decode cX5_takeToken 25 = .ok (.aload_n 0, 1)) ∧ (decode cX5_takeToken 26 = .ok (.aload_n 0, 1)) ∧ (decode cX5_takeToken 27 = .ok (.getfield 125, 3)) := by decide +kernel
theorem dX5_takeToken_0 : decode cX5_takeToken 0 = .ok (.aload_n 0, 1) := dg_b2.1
theorem dX5_takeToken_1 : decode cX5_takeToken 1 = .ok (.getfield 29, 3) := dg_b2.2.1
theorem dX5_takeToken_4 : decode cX5_takeToken 4 = .ok (.ifCond .eq 4, 3) := dg_b2.2.2.1
theorem dX5_takeToken_7 : decode cX5_takeToken 7 = .ok (.return_, 1) := dg_b2.2.2.2.1
theorem dX5_takeToken_8 : decode cX5_takeToken 8 = .ok (.aload_n 0, 1) := dg_b2.2.2.2.2.1
theorem dX5_takeToken_9 : decode cX5_takeToken 9 = .ok (.aload_n 0, 1) := dg_b2.2.2.2.2.2.1
theorem dX5_takeToken_10 : decode cX5_takeToken 10 = .ok (.getfield 38, 3) := dg_b2.2.2.2.2.2.2.1
theorem dX5_takeToken_13 : decode cX5_takeToken 13 = .ok (.putfield 125, 3) := dg_b2.2.2.2.2.2.2.2.1
theorem dX5_takeToken_16 : decode cX5_takeToken 16 = .ok (.iconst 0, 1) := dg_b2.2.2.2.2.2.2.2.2.1
theorem dX5_takeToken_17 : decode cX5_takeToken 17 = .ok (.istore_n 1, 1) := dg_b2.2.2.2.2.2.2.2.2.2.1
theorem dX5_takeToken_18 : decode cX5_takeToken 18 = .ok (.iload_n 1, 1) := dg_b2.2.2.2.2.2.2.2.2.2.2.1
theorem dX5_takeToken_19 : decode cX5_takeToken 19 = .ok (.sipush 160, 3) := dg_b2.2.2.2.2.2.2.2.2.2.2.2.1
theorem dX5_takeToken_22 : decode cX5_takeToken 22 = .ok (.if_icmp .ge 34, 3) := dg_b2.2.2.2.2.2.2.2.2.2.2.2.2.1
theorem dX5_takeToken_25 : decode cX5_takeToken 25 = .ok (.aload_n 0, 1) := dg_b2.2.2.2.2.2.2.2.2.2.2.2.2.2.1
theorem dX5_takeToken_26 : decode cX5_takeToken 26 = .ok (.aload_n 0, 1) := dg_b2.2.2.2.2.2.2.2.2.2.2.2.2.2.2.1
theorem dX5_takeToken_27 : decode cX5_takeToken 27 = .ok (.getfield 125, 3) := dg_b2.2.2.2.2.2.2.2.2.2.2.2.2.2.2.2
theorem dg_b3 : (decode cX5_takeToken 30 = .ok (.invokevirtual 190, 3)) ∧ (decode cX5_takeToken 33 = .ok (.invokestatic 194, 3)) ∧ (decode cX5_takeToken 36 = .ok (.iconst 4, 1)) ∧ (decode cX5_takeToken 37 = .ok (.if_icmp .ne 19, 3)) ∧ (decode cX5_takeToken 40 = .ok (.aload_n 0, 1)) ∧ (decode cX5_takeToken 41 = .ok (.dup, 1)) ∧ (decode cX5_takeToken 42 = .ok (.getfield 125, 3)) ∧ (decode cX5_takeToken 45 = .ok (.iconst 1, 1)) ∧ (decode cX5_takeToken 46 = .ok (.iadd, 1)) ∧ (decode cX5_takeToken 47 = .ok (.putfield 125, 3)) ∧ (decode cX5_takeToken 50 = .ok (.iinc 1 1, 3)) ∧ (decode cX5_takeToken 53 = .ok (.goto (-35), 3)) ∧ (decode cX5_takeToken 56 = .ok (.aload_n 0, 1)) ∧ (decode cX5_takeToken 57 = .ok (.aload_n 0, 1)) ∧ (decode cX5_takeToken 58 = .ok (.aload_n 0, 1)) ∧ (decode cX5_takeToken 59 = .ok (.getfield 125, 3)) := by decide +kernel
theorem dX5_takeToken_30 : decode cX5_takeToken 30 = .ok (.invokevirtual 190, 3) := dg_b3.1
theorem dX5_takeToken_33 : decode cX5_takeToken 33 = .ok (.invokestatic 194, 3) := dg_b3.2.1
theorem dX5_takeToken_36 : decode cX5_takeToken 36 = .ok (.iconst 4, 1) := dg_b3.2.2.1
theorem dX5_takeToken_37 : decode cX5_takeToken 37 = .ok (.if_icmp .ne 19, 3) := dg_b3.2.2.2.1
theorem dX5_takeToken_40 : decode cX5_takeToken 40 = .ok (.aload_n 0, 1) := dg_b3.2.2.2.2.1
theorem dX5_takeToken_41 : decode cX5_takeToken 41 = .ok (.dup, 1) := dg_b3.2.2.2.2.2.1
theorem dX5_takeToken_42 : decode cX5_takeToken 42 = .ok (.getfield 125, 3) := dg_b3.2.2.2.2.2.2.1
theorem dX5_takeToken_45 : decode cX5_takeToken 45 = .ok (.iconst 1, 1) := dg_b3.2.2.2.2.2.2.2.1
theorem dX5_takeToken_46 : decode cX5_takeToken 46 = .ok (.iadd, 1) := dg_b3.2.2.2.2.2.2.2.2.1
theorem dX5_takeToken_47 : decode cX5_takeToken 47 = .ok (.putfield 125, 3) := dg_b3.2.2.2.2.2.2.2.2.2.1
theorem dX5_takeToken_50 : decode cX5_takeToken 50 = .ok (.iinc 1 1, 3) := dg_b3.2.2.2.2.2.2.2.2.2.2.1
theorem dX5_takeToken_53 : decode cX5_takeToken 53 = .ok (.goto (-35), 3) := dg_b3.2.2.2.2.2.2.2.2.2.2.2.1
theorem dX5_takeToken_56 : decode cX5_takeToken 56 = .ok (.aload_n 0, 1) := dg_b3.2.2.2.2.2.2.2.2.2.2.2.2.1
theorem dX5_takeToken_57 : decode cX5_takeToken 57 = .ok (.aload_n 0, 1) := dg_b3.2.2.2.2.2.2.2.2.2.2.2.2.2.1
theorem dX5_takeToken_58 : decode cX5_takeToken 58 = .ok (.aload_n 0, 1) := dg_b3.2.2.2.2.2.2.2.2.2.2.2.2.2.2.1
theorem dX5_takeToken_59 : decode cX5_takeToken 59 = .ok (.getfield 125, 3) := dg_b3.2.2.2.2.2.2.2.2.2.2.2.2.2.2.2
theorem dg_b4 : (decode cX5_takeToken 62 = .ok (.invokevirtual 190, 3)) ∧ (decode cX5_takeToken 65 = .ok (.invokestatic 194, 3)) ∧ (decode cX5_takeToken 68 = .ok (.putfield 44, 3)) ∧ (decode cX5_takeToken 71 = .ok (.aload_n 0, 1)) ∧ (decode cX5_takeToken 72 = .ok (.aload_n 0, 1)) ∧ (decode cX5_takeToken 73 = .ok (.getfield 44, 3)) ∧ (decode cX5_takeToken 76 = .ok (.ifCond .ne 10, 3)) ∧ (decode cX5_takeToken 79 = .ok (.aload_n 0, 1)) ∧ (decode cX5_takeToken 80 = .ok (.getfield 125, 3)) ∧ (decode cX5_takeToken 83 = .ok (.goto 9, 3)) ∧ (decode cX5_takeToken 86 = .ok (.aload_n 0, 1)) ∧ (decode cX5_takeToken 87 = .ok (.getfield 125, 3)) ∧ (decode cX5_takeToken 90 = .ok (.iconst 1, 1)) ∧ (decode cX5_takeToken 91 = .ok (.iadd, 1)) ∧ (decode cX5_takeToken 92 = .ok (.putfield 38, 3)) ∧ (decode cX5_takeToken 95 = .ok (.aload_n 0, 1)) := by decide +kernel
theorem dX5_takeToken_62 : decode cX5_takeToken 62 = .ok (.invokevirtual 190, 3) := dg_b4.1
theorem dX5_takeToken_65 : decode cX5_takeToken 65 = .ok (.invokestatic 194, 3) := dg_b4.2.1
theorem dX5_takeToken_68 : decode cX5_takeToken 68 = .ok (.putfield 44, 3) := dg_b4.2.2.1
theorem dX5_takeToken_71 : decode cX5_takeToken 71 = .ok (.aload_n 0, 1) := dg_b4.2.2.2.1
theorem dX5_takeToken_72 : decode cX5_takeToken 72 = .ok (.aload_n 0, 1) := dg_b4.2.2.2.2.1
theorem dX5_takeToken_73 : decode cX5_takeToken 73 = .ok (.getfield 44, 3) := dg_b4.2.2.2.2.2.1
theorem dX5_takeToken_76 : decode cX5_takeToken 76 = .ok (.ifCond .ne 10, 3) := dg_b4.2.2.2.2.2.2.1
theorem dX5_takeToken_79 : decode cX5_takeToken 79 = .ok (.aload_n 0, 1) := dg_b4.2.2.2.2.2.2.2.1
theorem dX5_takeToken_80 : decode cX5_takeToken 80 = .ok (.getfield 125, 3) := dg_b4.2.2.2.2.2.2.2.2.1
theorem dX5_takeToken_83 : decode cX5_takeToken 83 = .ok (.goto 9, 3) := dg_b4.2.2.2.2.2.2.2.2.2.1
theorem dX5_takeToken_86 : decode cX5_takeToken 86 = .ok (.aload_n 0, 1) := dg_b4.2.2.2.2.2.2.2.2.2.2.1
theorem dX5_takeToken_87 : decode cX5_takeToken 87 = .ok (.getfield 125, 3) := dg_b4.2.2.2.2.2.2.2.2.2.2.2.1
theorem dX5_takeToken_90 : decode cX5_takeToken 90 = .ok (.iconst 1, 1) := dg_b4.2.2.2.2.2.2.2.2.2.2.2.2.1
theorem dX5_takeToken_91 : decode cX5_takeToken 91 = .ok (.iadd, 1) := dg_b4.2.2.2.2.2.2.2.2.2.2.2.2.2.1
theorem dX5_takeToken_92 : decode cX5_takeToken 92 = .ok (.putfield 38, 3) := dg_b4.2.2.2.2.2.2.2.2.2.2.2.2.2.2.1
theorem dX5_takeToken_95 : decode cX5_takeToken 95 = .ok (.aload_n 0, 1) := dg_b4.2.2.2.2.2.2.2.2.2.2.2.2.2.2.2
theorem dg_b5 : (decode cX5_takeToken 96 = .ok (.aload_n 0, 1)) ∧ (decode cX5_takeToken 97 = .ok (.aload_n 0, 1)) ∧ (decode cX5_takeToken 98 = .ok (.getfield 125, 3)) ∧ (decode cX5_takeToken 101 = .ok (.invokevirtual 190, 3)) ∧ (decode cX5_takeToken 104 = .ok (.bipush 48, 2)) ∧ (decode cX5_takeToken 106 = .ok (.isub, 1)) ∧ (decode cX5_takeToken 107 = .ok (.putfield 181, 3)) ∧ (decode cX5_takeToken 110 = .ok (.aload_n 0, 1)) ∧ (decode cX5_takeToken 111 = .ok (.getfield 44, 3)) ∧ (decode cX5_takeToken 114 = .ok (.iconst 1, 1)) ∧ (decode cX5_takeToken 115 = .ok (.if_icmp .eq 11, 3)) ∧ (decode cX5_takeToken 118 = .ok (.aload_n 0, 1)) ∧ (decode cX5_takeToken 119 = .ok (.getfield 44, 3)) ∧ (decode cX5_takeToken 122 = .ok (.iconst 2, 1)) ∧ (decode cX5_takeToken 123 = .ok (.if_icmp .ne 7, 3)) ∧ (decode cX5_takeToken 126 = .ok (.iconst 1, 1)) := by decide +kernel
theorem dX5_takeToken_96 : decode cX5_takeToken 96 = .ok (.aload_n 0, 1) := dg_b5.1
theorem dX5_takeToken_97 : decode cX5_takeToken 97 = .ok (.aload_n 0, 1) := dg_b5.2.1
theorem dX5_takeToken_98 : decode cX5_takeToken 98 = .ok (.getfield 125, 3) := dg_b5.2.2.1
theorem dX5_takeToken_101 : decode cX5_takeToken 101 = .ok (.invokevirtual 190, 3) := dg_b5.2.2.2.1
theorem dX5_takeToken_104 : decode cX5_takeToken 104 = .ok (.bipush 48, 2) := dg_b5.2.2.2.2.1
theorem dX5_takeToken_106 : decode cX5_takeToken 106 = .ok (.isub, 1) := dg_b5.2.2.2.2.2.1
theorem dX5_takeToken_107 : decode cX5_takeToken 107 = .ok (.putfield 181, 3) := dg_b5.2.2.2.2.2.2.1
theorem dX5_takeToken_110 : decode cX5_takeToken 110 = .ok (.aload_n 0, 1) := dg_b5.2.2.2.2.2.2.2.1
theorem dX5_takeToken_111 : decode cX5_takeToken 111 = .ok (.getfield 44, 3) := dg_b5.2.2.2.2.2.2.2.2.1
theorem dX5_takeToken_114 : decode cX5_takeToken 114 = .ok (.iconst 1, 1) := dg_b5.2.2.2.2.2.2.2.2.2.1
theorem dX5_takeToken_115 : decode cX5_takeToken 115 = .ok (.if_icmp .eq 11, 3) := dg_b5.2.2.2.2.2.2.2.2.2.2.1
theorem dX5_takeToken_118 : decode cX5_takeToken 118 = .ok (.aload_n 0, 1) := dg_b5.2.2.2.2.2.2.2.2.2.2.2.1
theorem dX5_takeToken_119 : decode cX5_takeToken 119 = .ok (.getfield 44, 3) := dg_b5.2.2.2.2.2.2.2.2.2.2.2.2.1
theorem dX5_takeToken_122 : decode cX5_takeToken 122 = .ok (.iconst 2, 1) := dg_b5.2.2.2.2.2.2.2.2.2.2.2.2.2.1
theorem dX5_takeToken_123 : decode cX5_takeToken 123 = .ok (.if_icmp .ne 7, 3) := dg_b5.2.2.2.2.2.2.2.2.2.2.2.2.2.2.1
theorem dX5_takeToken_126 : decode cX5_takeToken 126 = .ok (.iconst 1, 1) := dg_b5.2.2.2.2.2.2.2.2.2.2.2.2.2.2.2
theorem dg_b6 : (decode cX5_takeToken 127 = .ok (.goto 4, 3)) ∧ (decode cX5_takeToken 130 = .ok (.iconst 0, 1)) ∧ (decode cX5_takeToken 131 = .ok (.istore_n 1, 1)) ∧ (decode cX5_takeToken 132 = .ok (.iconst 0, 1)) ∧ (decode cX5_takeToken 133 = .ok (.istore_n 2, 1)) ∧ (decode cX5_takeToken 134 = .ok (.iload_n 2, 1)) ∧ (decode cX5_takeToken 135 = .ok (.sipush 160, 3)) ∧ (decode cX5_takeToken 138 = .ok (.if_icmp .ge 64, 3)) ∧ (decode cX5_takeToken 141 = .ok (.iload_n 1, 1)) ∧ (decode cX5_takeToken 142 = .ok (.ifCond .eq 60, 3)) ∧ (decode cX5_takeToken 145 = .ok (.aload_n 0, 1)) ∧ (decode cX5_takeToken 146 = .ok (.aload_n 0, 1)) ∧ (decode cX5_takeToken 147 = .ok (.getfield 38, 3)) ∧ (decode cX5_takeToken 150 = .ok (.invokevirtual 190, 3)) ∧ (decode cX5_takeToken 153 = .ok (.invokestatic 194, 3)) ∧ (decode cX5_takeToken 156 = .ok (.aload_n 0, 1)) := by decide +kernel
theorem dX5_takeToken_127 : decode cX5_takeToken 127 = .ok (.goto 4, 3) := dg_b6.1
theorem dX5_takeToken_130 : decode cX5_takeToken 130 = .ok (.iconst 0, 1) := dg_b6.2.1
theorem dX5_takeToken_131 : decode cX5_takeToken 131 = .ok (.istore_n 1, 1) := dg_b6.2.2.1
theorem dX5_takeToken_132 : decode cX5_takeToken 132 = .ok (.iconst 0, 1) := dg_b6.2.2.2.1
theorem dX5_takeToken_133 : decode cX5_takeToken 133 = .ok (.istore_n 2, 1) := dg_b6.2.2.2.2.1
theorem dX5_takeToken_134 : decode cX5_takeToken 134 = .ok (.iload_n 2, 1) := dg_b6.2.2.2.2.2.1
theorem dX5_takeToken_135 : decode cX5_takeToken 135 = .ok (.sipush 160, 3) := dg_b6.2.2.2.2.2.2.1
theorem dX5_takeToken_138 : decode cX5_takeToken 138 = .ok (.if_icmp .ge 64, 3) := dg_b6.2.2.2.2.2.2.2.1
theorem dX5_takeToken_141 : decode cX5_takeToken 141 = .ok (.iload_n 1, 1) := dg_b6.2.2.2.2.2.2.2.2.1
theorem dX5_takeToken_142 : decode cX5_takeToken 142 = .ok (.ifCond .eq 60, 3) := dg_b6.2.2.2.2.2.2.2.2.2.1
theorem dX5_takeToken_145 : decode cX5_takeToken 145 = .ok (.aload_n 0, 1) := dg_b6.2.2.2.2.2.2.2.2.2.2.1
theorem dX5_takeToken_146 : decode cX5_takeToken 146 = .ok (.aload_n 0, 1) := dg_b6.2.2.2.2.2.2.2.2.2.2.2.1
theorem dX5_takeToken_147 : decode cX5_takeToken 147 = .ok (.getfield 38, 3) := dg_b6.2.2.2.2.2.2.2.2.2.2.2.2.1
theorem dX5_takeToken_150 : decode cX5_takeToken 150 = .ok (.invokevirtual 190, 3) := dg_b6.2.2.2.2.2.2.2.2.2.2.2.2.2.1
theorem dX5_takeToken_153 : decode cX5_takeToken 153 = .ok (.invokestatic 194, 3) := dg_b6.2.2.2.2.2.2.2.2.2.2.2.2.2.2.1
theorem dX5_takeToken_156 : decode cX5_takeToken 156 = .ok (.aload_n 0, 1) := dg_b6.2.2.2.2.2.2.2.2.2.2.2.2.2.2.2
theorem dg_b7 : (decode cX5_takeToken 157 = .ok (.getfield 44, 3)) ∧ (decode cX5_takeToken 160 = .ok (.if_icmp .ne 42, 3)) ∧ (decode cX5_takeToken 163 = .ok (.aload_n 0, 1)) ∧ (decode cX5_takeToken 164 = .ok (.aload_n 0, 1)) ∧ (decode cX5_takeToken 165 = .ok (.getfield 181, 3)) ∧ (decode cX5_takeToken 168 = .ok (.bipush 10, 2)) ∧ (decode cX5_takeToken 170 = .ok (.imul, 1)) ∧ (decode cX5_takeToken 171 = .ok (.aload_n 0, 1)) ∧ (decode cX5_takeToken 172 = .ok (.aload_n 0, 1)) ∧ (decode cX5_takeToken 173 = .ok (.getfield 38, 3)) ∧ (decode cX5_takeToken 176 = .ok (.invokevirtual 190, 3)) ∧ (decode cX5_takeToken 179 = .ok (.iadd, 1)) ∧ (decode cX5_takeToken 180 = .ok (.bipush 48, 2)) ∧ (decode cX5_takeToken 182 = .ok (.isub, 1)) ∧ (decode cX5_takeToken 183 = .ok (.putfield 181, 3)) ∧ (decode cX5_takeToken 186 = .ok (.aload_n 0, 1)) := by decide +kernel
theorem dX5_takeToken_157 : decode cX5_takeToken 157 = .ok (.getfield 44, 3) := dg_b7.1
theorem dX5_takeToken_160 : decode cX5_takeToken 160 = .ok (.if_icmp .ne 42, 3) := dg_b7.2.1
theorem dX5_takeToken_163 : decode cX5_takeToken 163 = .ok (.aload_n 0, 1) := dg_b7.2.2.1
theorem dX5_takeToken_164 : decode cX5_takeToken 164 = .ok (.aload_n 0, 1) := dg_b7.2.2.2.1
theorem dX5_takeToken_165 : decode cX5_takeToken 165 = .ok (.getfield 181, 3) := dg_b7.2.2.2.2.1
theorem dX5_takeToken_168 : decode cX5_takeToken 168 = .ok (.bipush 10, 2) := dg_b7.2.2.2.2.2.1
theorem dX5_takeToken_170 : decode cX5_takeToken 170 = .ok (.imul, 1) := dg_b7.2.2.2.2.2.2.1
theorem dX5_takeToken_171 : decode cX5_takeToken 171 = .ok (.aload_n 0, 1) := dg_b7.2.2.2.2.2.2.2.1
theorem dX5_takeToken_172 : decode cX5_takeToken 172 = .ok (.aload_n 0, 1) := dg_b7.2.2.2.2.2.2.2.2.1
theorem dX5_takeToken_173 : decode cX5_takeToken 173 = .ok (.getfield 38, 3) := dg_b7.2.2.2.2.2.2.2.2.2.1
theorem dX5_takeToken_176 : decode cX5_takeToken 176 = .ok (.invokevirtual 190, 3) := dg_b7.2.2.2.2.2.2.2.2.2.2.1
theorem dX5_takeToken_179 : decode cX5_takeToken 179 = .ok (.iadd, 1) := dg_b7.2.2.2.2.2.2.2.2.2.2.2.1
theorem dX5_takeToken_180 : decode cX5_takeToken 180 = .ok (.bipush 48, 2) := dg_b7.2.2.2.2.2.2.2.2.2.2.2.2.1
theorem dX5_takeToken_182 : decode cX5_takeToken 182 = .ok (.isub, 1) := dg_b7.2.2.2.2.2.2.2.2.2.2.2.2.2.1
theorem dX5_takeToken_183 : decode cX5_takeToken 183 = .ok (.putfield 181, 3) := dg_b7.2.2.2.2.2.2.2.2.2.2.2.2.2.2.1
theorem dX5_takeToken_186 : decode cX5_takeToken 186 = .ok (.aload_n 0, 1) := dg_b7.2.2.2.2.2.2.2.2.2.2.2.2.2.2.2
theorem dg_b8 : (decode cX5_takeToken 187 = .ok (.dup, 1)) ∧ (decode cX5_takeToken 188 = .ok (.getfield 38, 3)) ∧ (decode cX5_takeToken 191 = .ok (.iconst 1, 1)) ∧ (decode cX5_takeToken 192 = .ok (.iadd, 1)) ∧ (decode cX5_takeToken 193 = .ok (.putfield 38, 3)) ∧ (decode cX5_takeToken 196 = .ok (.iinc 2 1, 3)) ∧ (decode cX5_takeToken 199 = .ok (.goto (-65), 3)) ∧ (decode cX5_takeToken 202 = .ok (.aload_n 0, 1)) ∧ (decode cX5_takeToken 203 = .ok (.getfield 44, 3)) ∧ (decode cX5_takeToken 206 = .ok (.iconst 5, 1)) ∧ (decode cX5_takeToken 207 = .ok (.if_icmp .eq 24, 3)) ∧ (decode cX5_takeToken 210 = .ok (.aload_n 0, 1)) ∧ (decode cX5_takeToken 211 = .ok (.getfield 44, 3)) ∧ (decode cX5_takeToken 214 = .ok (.iconst 2, 1)) ∧ (decode cX5_takeToken 215 = .ok (.if_icmp .ne 25, 3)) ∧ (decode cX5_takeToken 218 = .ok (.aload_n 0, 1)) := by decide +kernel
theorem dX5_takeToken_187 : decode cX5_takeToken 187 = .ok (.dup, 1) := dg_b8.1
theorem dX5_takeToken_188 : decode cX5_takeToken 188 = .ok (.getfield 38, 3) := dg_b8.2.1
theorem dX5_takeToken_191 : decode cX5_takeToken 191 = .ok (.iconst 1, 1) := dg_b8.2.2.1
theorem dX5_takeToken_192 : decode cX5_takeToken 192 = .ok (.iadd, 1) := dg_b8.2.2.2.1
theorem dX5_takeToken_193 : decode cX5_takeToken 193 = .ok (.putfield 38, 3) := dg_b8.2.2.2.2.1
theorem dX5_takeToken_196 : decode cX5_takeToken 196 = .ok (.iinc 2 1, 3) := dg_b8.2.2.2.2.2.1
theorem dX5_takeToken_199 : decode cX5_takeToken 199 = .ok (.goto (-65), 3) := dg_b8.2.2.2.2.2.2.1
theorem dX5_takeToken_202 : decode cX5_takeToken 202 = .ok (.aload_n 0, 1) := dg_b8.2.2.2.2.2.2.2.1
theorem dX5_takeToken_203 : decode cX5_takeToken 203 = .ok (.getfield 44, 3) := dg_b8.2.2.2.2.2.2.2.2.1
theorem dX5_takeToken_206 : decode cX5_takeToken 206 = .ok (.iconst 5, 1) := dg_b8.2.2.2.2.2.2.2.2.2.1
theorem dX5_takeToken_207 : decode cX5_takeToken 207 = .ok (.if_icmp .eq 24, 3) := dg_b8.2.2.2.2.2.2.2.2.2.2.1
theorem dX5_takeToken_210 : decode cX5_takeToken 210 = .ok (.aload_n 0, 1) := dg_b8.2.2.2.2.2.2.2.2.2.2.2.1
theorem dX5_takeToken_211 : decode cX5_takeToken 211 = .ok (.getfield 44, 3) := dg_b8.2.2.2.2.2.2.2.2.2.2.2.2.1
theorem dX5_takeToken_214 : decode cX5_takeToken 214 = .ok (.iconst 2, 1) := dg_b8.2.2.2.2.2.2.2.2.2.2.2.2.2.1
theorem dX5_takeToken_215 : decode cX5_takeToken 215 = .ok (.if_icmp .ne 25, 3) := dg_b8.2.2.2.2.2.2.2.2.2.2.2.2.2.2.1
theorem dX5_takeToken_218 : decode cX5_takeToken 218 = .ok (.aload_n 0, 1) := dg_b8.2.2.2.2.2.2.2.2.2.2.2.2.2.2.2
theorem dg_b9 : (decode cX5_takeToken 219 = .ok (.getfield 38, 3)) ∧ (decode cX5_takeToken 222 = .ok (.aload_n 0, 1)) ∧ (decode cX5_takeToken 223 = .ok (.getfield 125, 3)) ∧ (decode cX5_takeToken 226 = .ok (.isub, 1)) ∧ (decode cX5_takeToken 227 = .ok (.iconst 2, 1)) ∧ (decode cX5_takeToken 228 = .ok (.if_icmp .le 12, 3)) ∧ (decode cX5_takeToken 231 = .ok (.aload_n 0, 1)) ∧ (decode cX5_takeToken 232 = .ok (.iconst 1, 1)) ∧ (decode cX5_takeToken 233 = .ok (.aload_n 0, 1)) ∧ (decode cX5_takeToken 234 = .ok (.getfield 125, 3)) ∧ (decode cX5_takeToken 237 = .ok (.invokevirtual 54, 3)) ∧ (decode cX5_takeToken 240 = .ok (.return_, 1)) := by decide +kernel
theorem dX5_takeToken_219 : decode cX5_takeToken 219 = .ok (.getfield 38, 3) := dg_b9.1
theorem dX5_takeToken_222 : decode cX5_takeToken 222 = .ok (.aload_n 0, 1) := dg_b9.2.1
theorem dX5_takeToken_223 : decode cX5_takeToken 223 = .ok (.getfield 125, 3) := dg_b9.2.2.1
theorem dX5_takeToken_226 : decode cX5_takeToken 226 = .ok (.isub, 1) := dg_b9.2.2.2.1
theorem dX5_takeToken_227 : decode cX5_takeToken 227 = .ok (.iconst 2, 1) := dg_b9.2.2.2.2.1
theorem dX5_takeToken_228 : decode cX5_takeToken 228 = .ok (.if_icmp .le 12, 3) := dg_b9.2.2.2.2.2.1
theorem dX5_takeToken_231 : decode cX5_takeToken 231 = .ok (.aload_n 0, 1) := dg_b9.2.2.2.2.2.2.1
theorem dX5_takeToken_232 : decode cX5_takeToken 232 = .ok (.iconst 1, 1) := dg_b9.2.2.2.2.2.2.2.1
theorem dX5_takeToken_233 : decode cX5_takeToken 233 = .ok (.aload_n 0, 1) := dg_b9.2.2.2.2.2.2.2.2.1
theorem dX5_takeToken_234 : decode cX5_takeToken 234 = .ok (.getfield 125, 3) := dg_b9.2.2.2.2.2.2.2.2.2.1
theorem dX5_takeToken_237 : decode cX5_takeToken 237 = .ok (.invokevirtual 54, 3) := dg_b9.2.2.2.2.2.2.2.2.2.2.1
theorem dX5_takeToken_240 : decode cX5_takeToken 240 = .ok (.return_, 1) := dg_b9.2.2.2.2.2.2.2.2.2.2.2
theorem dg_b10 : (decode cX5_kindOf 0 = .ok (.iload_n 0, 1)) ∧ (decode cX5_kindOf 1 = .ok (.bipush 97, 2)) ∧ (decode cX5_kindOf 3 = .ok (.if_icmp .lt 11, 3)) ∧ (decode cX5_kindOf 6 = .ok (.iload_n 0, 1)) ∧ (decode cX5_kindOf 7 = .ok (.bipush 122, 2)) ∧ (decode cX5_kindOf 9 = .ok (.if_icmp .gt 5, 3)) ∧ (decode cX5_kindOf 12 = .ok (.iconst 1, 1)) ∧ (decode cX5_kindOf 13 = .ok (.ireturn, 1)) ∧ (decode cX5_kindOf 14 = .ok (.iload_n 0, 1)) ∧ (decode cX5_kindOf 15 = .ok (.bipush 48, 2)) ∧ (decode cX5_kindOf 17 = .ok (.if_icmp .lt 11, 3)) ∧ (decode cX5_kindOf 20 = .ok (.iload_n 0, 1)) ∧ (decode cX5_kindOf 21 = .ok (.bipush 57, 2)) ∧ (decode cX5_kindOf 23 = .ok (.if_icmp .gt 5, 3)) ∧ (decode cX5_kindOf 26 = .ok (.iconst 2, 1)) ∧ (decode cX5_kindOf 27 = .ok (.ireturn, 1)) := by decide +kernel
theorem dX5_kindOf_0 : decode cX5_kindOf 0 = .ok (.iload_n 0, 1) := dg_b10.1
theorem dX5_kindOf_1 : decode cX5_kindOf 1 = .ok (.bipush 97, 2) := dg_b10.2.1
theorem dX5_kindOf_3 : decode cX5_kindOf 3 = .ok (.if_icmp .lt 11, 3) := dg_b10.2.2.1
theorem dX5_kindOf_6 : decode cX5_kindOf 6 = .ok (.iload_n 0, 1) := dg_b10.2.2.2.1
theorem dX5_kindOf_7 : decode cX5_kindOf 7 = .ok (.bipush 122, 2) := dg_b10.2.2.2.2.1
theorem dX5_kindOf_9 : decode cX5_kindOf 9 = .ok (.if_icmp .gt 5, 3) := dg_b10.2.2.2.2.2.1
theorem dX5_kindOf_12 : decode cX5_kindOf 12 = .ok (.iconst 1, 1) := dg_b10.2.2.2.2.2.2.1
theorem dX5_kindOf_13 : decode cX5_kindOf 13 = .ok (.ireturn, 1) := dg_b10.2.2.2.2.2.2.2.1
theorem dX5_kindOf_14 : decode cX5_kindOf 14 = .ok (.iload_n 0, 1) := dg_b10.2.2.2.2.2.2.2.2.1
theorem dX5_kindOf_15 : decode cX5_kindOf 15 = .ok (.bipush 48, 2) := dg_b10.2.2.2.2.2.2.2.2.2.1
theorem dX5_kindOf_17 : decode cX5_kindOf 17 = .ok (.if_icmp .lt 11, 3) := dg_b10.2.2.2.2.2.2.2.2.2.2.1
theorem dX5_kindOf_20 : decode cX5_kindOf 20 = .ok (.iload_n 0, 1) := dg_b10.2.2.2.2.2.2.2.2.2.2.2.1
theorem dX5_kindOf_21 : decode cX5_kindOf 21 = .ok (.bipush 57, 2) := dg_b10.2.2.2.2.2.2.2.2.2.2.2.2.1
theorem dX5_kindOf_23 : decode cX5_kindOf 23 = .ok (.if_icmp .gt 5, 3) := dg_b10.2.2.2.2.2.2.2.2.2.2.2.2.2.1
theorem dX5_kindOf_26 : decode cX5_kindOf 26 = .ok (.iconst 2, 1) := dg_b10.2.2.2.2.2.2.2.2.2.2.2.2.2.2.1
theorem dX5_kindOf_27 : decode cX5_kindOf 27 = .ok (.ireturn, 1) := dg_b10.2.2.2.2.2.2.2.2.2.2.2.2.2.2.2
theorem dg_b11 : (decode cX5_kindOf 28 = .ok (.iload_n 0, 1)) ∧ (decode cX5_kindOf 29 = .ok (.lookupswitch 41 #[(-1, 35), (32, 37), (59, 39)], 35)) ∧ (decode cX5_kindOf 64 = .ok (.iconst 0, 1)) ∧ (decode cX5_kindOf 65 = .ok (.ireturn, 1)) ∧ (decode cX5_kindOf 66 = .ok (.iconst 4, 1)) ∧ (decode cX5_kindOf 67 = .ok (.ireturn, 1)) ∧ (decode cX5_kindOf 68 = .ok (.iconst 3, 1)) ∧ (decode cX5_kindOf 69 = .ok (.ireturn, 1)) ∧ (decode cX5_kindOf 70 = .ok (.iconst 5, 1)) ∧ (decode cX5_kindOf 71 = .ok (.ireturn, 1)) := by decide +kernel
theorem dX5_kindOf_28 : decode cX5_kindOf 28 = .ok (.iload_n 0, 1) := dg_b11.1
theorem dX5_kindOf_29 : decode cX5_kindOf 29 = .ok (.lookupswitch 41 #[(-1, 35), (32, 37), (59, 39)], 35) := dg_b11.2.1
theorem dX5_kindOf_64 : decode cX5_kindOf 64 = .ok (.iconst 0, 1) := dg_b11.2.2.1
theorem dX5_kindOf_65 : decode cX5_kindOf 65 = .ok (.ireturn, 1) := dg_b11.2.2.2.1
theorem dX5_kindOf_66 : decode cX5_kindOf 66 = .ok (.iconst 4, 1) := dg_b11.2.2.2.2.1
theorem dX5_kindOf_67 : decode cX5_kindOf 67 = .ok (.ireturn, 1) := dg_b11.2.2.2.2.2.1
theorem dX5_kindOf_68 : decode cX5_kindOf 68 = .ok (.iconst 3, 1) := dg_b11.2.2.2.2.2.2.1
theorem dX5_kindOf_69 : decode cX5_kindOf 69 = .ok (.ireturn, 1) := dg_b11.2.2.2.2.2.2.2.1
theorem dX5_kindOf_70 : decode cX5_kindOf 70 = .ok (.iconst 5, 1) := dg_b11.2.2.2.2.2.2.2.2.1
theorem dX5_kindOf_71 : decode cX5_kindOf 71 = .ok (.ireturn, 1) := dg_b11.2.2.2.2.2.2.2.2.2
theorem dg_b12 : (decode cX5_byteAt 0 = .ok (.iload_n 1, 1)) ∧ (decode cX5_byteAt 1 = .ok (.ifCond .lt 27, 3)) ∧ (decode cX5_byteAt 4 = .ok (.iload_n 1, 1)) ∧ (decode cX5_byteAt 5 = .ok (.aload_n 0, 1)) ∧ (decode cX5_byteAt 6 = .ok (.getfield 22, 3)) ∧ (decode cX5_byteAt 9 = .ok (.if_icmp .ge 19, 3)) ∧ (decode cX5_byteAt 12 = .ok (.iload_n 1, 1)) ∧ (decode cX5_byteAt 13 = .ok (.sipush 160, 3)) ∧ (decode cX5_byteAt 16 = .ok (.if_icmp .ge 12, 3)) ∧ (decode cX5_byteAt 19 = .ok (.aload_n 0, 1)) ∧ (decode cX5_byteAt 20 = .ok (.getfield 9, 3)) ∧ (decode cX5_byteAt 23 = .ok (.iload_n 1, 1)) ∧ (decode cX5_byteAt 24 = .ok (.baload, 1)) ∧ (decode cX5_byteAt 25 = .ok (.goto 4, 3)) ∧ (decode cX5_byteAt 28 = .ok (.iconst (-1), 1)) ∧ (decode cX5_byteAt 29 = .ok (.ireturn, 1)) := by decide +kernel
theorem dX5_byteAt_0 : decode cX5_byteAt 0 = .ok (.iload_n 1, 1) := dg_b12.1
theorem dX5_byteAt_1 : decode cX5_byteAt 1 = .ok (.ifCond .lt 27, 3) := dg_b12.2.1
theorem dX5_byteAt_4 : decode cX5_byteAt 4 = .ok (.iload_n 1, 1) := dg_b12.2.2.1
theorem dX5_byteAt_5 : decode cX5_byteAt 5 = .ok (.aload_n 0, 1) := dg_b12.2.2.2.1
theorem dX5_byteAt_6 : decode cX5_byteAt 6 = .ok (.getfield 22, 3) := dg_b12.2.2.2.2.1
theorem dX5_byteAt_9 : decode cX5_byteAt 9 = .ok (.if_icmp .ge 19, 3) := dg_b12.2.2.2.2.2.1
theorem dX5_byteAt_12 : decode cX5_byteAt 12 = .ok (.iload_n 1, 1) := dg_b12.2.2.2.2.2.2.1
theorem dX5_byteAt_13 : decode cX5_byteAt 13 = .ok (.sipush 160, 3) := dg_b12.2.2.2.2.2.2.2.1
theorem dX5_byteAt_16 : decode cX5_byteAt 16 = .ok (.if_icmp .ge 12, 3) := dg_b12.2.2.2.2.2.2.2.2.1
theorem dX5_byteAt_19 : decode cX5_byteAt 19 = .ok (.aload_n 0, 1) := dg_b12.2.2.2.2.2.2.2.2.2.1
theorem dX5_byteAt_20 : decode cX5_byteAt 20 = .ok (.getfield 9, 3) := dg_b12.2.2.2.2.2.2.2.2.2.2.1
theorem dX5_byteAt_23 : decode cX5_byteAt 23 = .ok (.iload_n 1, 1) := dg_b12.2.2.2.2.2.2.2.2.2.2.2.1
theorem dX5_byteAt_24 : decode cX5_byteAt 24 = .ok (.baload, 1) := dg_b12.2.2.2.2.2.2.2.2.2.2.2.2.1
theorem dX5_byteAt_25 : decode cX5_byteAt 25 = .ok (.goto 4, 3) := dg_b12.2.2.2.2.2.2.2.2.2.2.2.2.2.1
theorem dX5_byteAt_28 : decode cX5_byteAt 28 = .ok (.iconst (-1), 1) := dg_b12.2.2.2.2.2.2.2.2.2.2.2.2.2.2.1
theorem dX5_byteAt_29 : decode cX5_byteAt 29 = .ok (.ireturn, 1) := dg_b12.2.2.2.2.2.2.2.2.2.2.2.2.2.2.2
theorem dg_b13 : (decode cX5_isName 0 = .ok (.aload_n 0, 1)) ∧ (decode cX5_isName 1 = .ok (.getfield 44, 3)) ∧ (decode cX5_isName 4 = .ok (.iconst 1, 1)) ∧ (decode cX5_isName 5 = .ok (.if_icmp .ne 19, 3)) ∧ (decode cX5_isName 8 = .ok (.aload_n 0, 1)) ∧ (decode cX5_isName 9 = .ok (.getfield 38, 3)) ∧ (decode cX5_isName 12 = .ok (.aload_n 0, 1)) ∧ (decode cX5_isName 13 = .ok (.getfield 125, 3)) ∧ (decode cX5_isName 16 = .ok (.isub, 1)) ∧ (decode cX5_isName 17 = .ok (.aload_n 1, 1)) ∧ (decode cX5_isName 18 = .ok (.invokevirtual 197, 3)) ∧ (decode cX5_isName 21 = .ok (.if_icmp .eq 5, 3)) ∧ (decode cX5_isName 24 = .ok (.iconst 0, 1)) ∧ (decode cX5_isName 25 = .ok (.ireturn, 1)) ∧ (decode cX5_isName 26 = .ok (.iconst 0, 1)) ∧ (decode cX5_isName 27 = .ok (.istore_n 2, 1)) := by decide +kernel
theorem dX5_isName_0 : decode cX5_isName 0 = .ok (.aload_n 0, 1) := dg_b13.1
theorem dX5_isName_1 : decode cX5_isName 1 = .ok (.getfield 44, 3) := dg_b13.2.1
theorem dX5_isName_4 : decode cX5_isName 4 = .ok (.iconst 1, 1) := dg_b13.2.2.1
theorem dX5_isName_5 : decode cX5_isName 5 = .ok (.if_icmp .ne 19, 3) := dg_b13.2.2.2.1
theorem dX5_isName_8 : decode cX5_isName 8 = .ok (.aload_n 0, 1) := dg_b13.2.2.2.2.1
theorem dX5_isName_9 : decode cX5_isName 9 = .ok (.getfield 38, 3) := dg_b13.2.2.2.2.2.1
theorem dX5_isName_12 : decode cX5_isName 12 = .ok (.aload_n 0, 1) := dg_b13.2.2.2.2.2.2.1
theorem dX5_isName_13 : decode cX5_isName 13 = .ok (.getfield 125, 3) := dg_b13.2.2.2.2.2.2.2.1
theorem dX5_isName_16 : decode cX5_isName 16 = .ok (.isub, 1) := dg_b13.2.2.2.2.2.2.2.2.1
theorem dX5_isName_17 : decode cX5_isName 17 = .ok (.aload_n 1, 1) := dg_b13.2.2.2.2.2.2.2.2.2.1
theorem dX5_isName_18 : decode cX5_isName 18 = .ok (.invokevirtual 197, 3) := dg_b13.2.2.2.2.2.2.2.2.2.2.1
theorem dX5_isName_21 : decode cX5_isName 21 = .ok (.if_icmp .eq 5, 3) := dg_b13.2.2.2.2.2.2.2.2.2.2.2.1
theorem dX5_isName_24 : decode cX5_isName 24 = .ok (.iconst 0, 1) := dg_b13.2.2.2.2.2.2.2.2.2.2.2.2.1
theorem dX5_isName_25 : decode cX5_isName 25 = .ok (.ireturn, 1) := dg_b13.2.2.2.2.2.2.2.2.2.2.2.2.2.1
theorem dX5_isName_26 : decode cX5_isName 26 = .ok (.iconst 0, 1) := dg_b13.2.2.2.2.2.2.2.2.2.2.2.2.2.2.1
theorem dX5_isName_27 : decode cX5_isName 27 = .ok (.istore_n 2, 1) := dg_b13.2.2.2.2.2.2.2.2.2.2.2.2.2.2.2
theorem dg_b14 : (decode cX5_isName 28 = .ok (.iload_n 2, 1)) ∧ (decode cX5_isName 29 = .ok (.aload_n 1, 1)) ∧ (decode cX5_isName 30 = .ok (.invokevirtual 197, 3)) ∧ (decode cX5_isName 33 = .ok (.if_icmp .ge 29, 3)) ∧ (decode cX5_isName 36 = .ok (.aload_n 0, 1)) ∧ (decode cX5_isName 37 = .ok (.aload_n 0, 1)) ∧ (decode cX5_isName 38 = .ok (.getfield 125, 3)) ∧ (decode cX5_isName 41 = .ok (.iload_n 2, 1)) ∧ (decode cX5_isName 42 = .ok (.iadd, 1)) ∧ (decode cX5_isName 43 = .ok (.invokevirtual 190, 3)) ∧ (decode cX5_isName 46 = .ok (.aload_n 1, 1)) ∧ (decode cX5_isName 47 = .ok (.iload_n 2, 1)) ∧ (decode cX5_isName 48 = .ok (.invokevirtual 202, 3)) ∧ (decode cX5_isName 51 = .ok (.if_icmp .eq 5, 3)) ∧ (decode cX5_isName 54 = .ok (.iconst 0, 1)) ∧ (decode cX5_isName 55 = .ok (.ireturn, 1)) := by decide +kernel
theorem dX5_isName_28 : decode cX5_isName 28 = .ok (.iload_n 2, 1) := dg_b14.1
theorem dX5_isName_29 : decode cX5_isName 29 = .ok (.aload_n 1, 1) := dg_b14.2.1
theorem dX5_isName_30 : decode cX5_isName 30 = .ok (.invokevirtual 197, 3) := dg_b14.2.2.1
theorem dX5_isName_33 : decode cX5_isName 33 = .ok (.if_icmp .ge 29, 3) := dg_b14.2.2.2.1
theorem dX5_isName_36 : decode cX5_isName 36 = .ok (.aload_n 0, 1) := dg_b14.2.2.2.2.1
theorem dX5_isName_37 : decode cX5_isName 37 = .ok (.aload_n 0, 1) := dg_b14.2.2.2.2.2.1
theorem dX5_isName_38 : decode cX5_isName 38 = .ok (.getfield 125, 3) := dg_b14.2.2.2.2.2.2.1
theorem dX5_isName_41 : decode cX5_isName 41 = .ok (.iload_n 2, 1) := dg_b14.2.2.2.2.2.2.2.1
theorem dX5_isName_42 : decode cX5_isName 42 = .ok (.iadd, 1) := dg_b14.2.2.2.2.2.2.2.2.1
theorem dX5_isName_43 : decode cX5_isName 43 = .ok (.invokevirtual 190, 3) := dg_b14.2.2.2.2.2.2.2.2.2.1
theorem dX5_isName_46 : decode cX5_isName 46 = .ok (.aload_n 1, 1) := dg_b14.2.2.2.2.2.2.2.2.2.2.1
theorem dX5_isName_47 : decode cX5_isName 47 = .ok (.iload_n 2, 1) := dg_b14.2.2.2.2.2.2.2.2.2.2.2.1
theorem dX5_isName_48 : decode cX5_isName 48 = .ok (.invokevirtual 202, 3) := dg_b14.2.2.2.2.2.2.2.2.2.2.2.2.1
theorem dX5_isName_51 : decode cX5_isName 51 = .ok (.if_icmp .eq 5, 3) := dg_b14.2.2.2.2.2.2.2.2.2.2.2.2.2.1
theorem dX5_isName_54 : decode cX5_isName 54 = .ok (.iconst 0, 1) := dg_b14.2.2.2.2.2.2.2.2.2.2.2.2.2.2.1
theorem dX5_isName_55 : decode cX5_isName 55 = .ok (.ireturn, 1) := dg_b14.2.2.2.2.2.2.2.2.2.2.2.2.2.2.2
theorem dg_b15 : (decode cX5_isName 56 = .ok (.iinc 2 1, 3)) ∧ (decode cX5_isName 59 = .ok (.goto (-31), 3)) ∧ (decode cX5_isName 62 = .ok (.iconst 1, 1)) ∧ (decode cX5_isName 63 = .ok (.ireturn, 1)) := by decide +kernel
theorem dX5_isName_56 : decode cX5_isName 56 = .ok (.iinc 2 1, 3) := dg_b15.1
theorem dX5_isName_59 : decode cX5_isName 59 = .ok (.goto (-31), 3) := dg_b15.2.1
theorem dX5_isName_62 : decode cX5_isName 62 = .ok (.iconst 1, 1) := dg_b15.2.2.1
theorem dX5_isName_63 : decode cX5_isName 63 = .ok (.ireturn, 1) := dg_b15.2.2.2
theorem dg_b16 : (decode cX6_init 0 = .ok (.aload_n 0, 1)) ∧ (decode cX6_init 1 = .ok (.invokespecial 3, 3)) ∧ (decode cX6_init 4 = .ok (.aload_n 0, 1)) ∧ (decode cX6_init 5 = .ok (.new 9, 3)) ∧ (decode cX6_init 8 = .ok (.dup, 1)) ∧ (decode cX6_init 9 = .ok (.invokespecial 11, 3)) ∧ (decode cX6_init 12 = .ok (.putfield 12, 3)) ∧ (decode cX6_init 15 = .ok (.aload_n 0, 1)) ∧ (decode cX6_init 16 = .ok (.bipush 9, 2)) ∧ (decode cX6_init 18 = .ok (.newarray .int, 2)) ∧ (decode cX6_init 20 = .ok (.putfield 18, 3)) ∧ (decode cX6_init 23 = .ok (.return_, 1)) := by decide +kernel
theorem dX6_init_0 : decode cX6_init 0 = .ok (.aload_n 0, 1) := dg_b16.1
theorem dX6_init_1 : decode cX6_init 1 = .ok (.invokespecial 3, 3) := dg_b16.2.1
theorem dX6_init_4 : decode cX6_init 4 = .ok (.aload_n 0, 1) := dg_b16.2.2.1
theorem dX6_init_5 : decode cX6_init 5 = .ok (.new 9, 3) := dg_b16.2.2.2.1
theorem dX6_init_8 : decode cX6_init 8 = .ok (.dup, 1) := dg_b16.2.2.2.2.1
theorem dX6_init_9 : decode cX6_init 9 = .ok (.invokespecial 11, 3) := dg_b16.2.2.2.2.2.1
theorem dX6_init_12 : decode cX6_init 12 = .ok (.putfield 12, 3) := dg_b16.2.2.2.2.2.2.1
theorem dX6_init_15 : decode cX6_init 15 = .ok (.aload_n 0, 1) := dg_b16.2.2.2.2.2.2.2.1
theorem dX6_init_16 : decode cX6_init 16 = .ok (.bipush 9, 2) := dg_b16.2.2.2.2.2.2.2.2.1
theorem dX6_init_18 : decode cX6_init 18 = .ok (.newarray .int, 2) := dg_b16.2.2.2.2.2.2.2.2.2.1
theorem dX6_init_20 : decode cX6_init 20 = .ok (.putfield 18, 3) := dg_b16.2.2.2.2.2.2.2.2.2.2.1
theorem dX6_init_23 : decode cX6_init 23 = .ok (.return_, 1) := dg_b16.2.2.2.2.2.2.2.2.2.2.2
theorem dg_b17 : (decode cX6_begin 0 = .ok (.aload_n 0, 1)) ∧ (decode cX6_begin 1 = .ok (.getfield 12, 3)) ∧ (decode cX6_begin 4 = .ok (.aload_n 1, 1)) ∧ (decode cX6_begin 5 = .ok (.invokevirtual 22, 3)) ∧ (decode cX6_begin 8 = .ok (.return_, 1)) := by decide +kernel
theorem dX6_begin_0 : decode cX6_begin 0 = .ok (.aload_n 0, 1) := dg_b17.1
theorem dX6_begin_1 : decode cX6_begin 1 = .ok (.getfield 12, 3) := dg_b17.2.1
theorem dX6_begin_4 : decode cX6_begin 4 = .ok (.aload_n 1, 1) := dg_b17.2.2.1
theorem dX6_begin_5 : decode cX6_begin 5 = .ok (.invokevirtual 22, 3) := dg_b17.2.2.2.1
theorem dX6_begin_8 : decode cX6_begin 8 = .ok (.return_, 1) := dg_b17.2.2.2.2
theorem dg_b18 : (decode cX6_walkPlan 0 = .ok (.aload_n 0, 1)) ∧ (decode cX6_walkPlan 1 = .ok (.getfield 12, 3)) ∧ (decode cX6_walkPlan 4 = .ok (.getfield 26, 3)) ∧ (decode cX6_walkPlan 7 = .ok (.astore_n 1, 1)) ∧ (decode cX6_walkPlan 8 = .ok (.aload_n 0, 1)) ∧ (decode cX6_walkPlan 9 = .ok (.iconst 0, 1)) ∧ (decode cX6_walkPlan 10 = .ok (.putfield 30, 3)) ∧ (decode cX6_walkPlan 13 = .ok (.aload_n 0, 1)) ∧ (decode cX6_walkPlan 14 = .ok (.bipush (-4), 2)) ∧ (decode cX6_walkPlan 16 = .ok (.putfield 34, 3)) ∧ (decode cX6_walkPlan 19 = .ok (.aload_n 0, 1)) ∧ (decode cX6_walkPlan 20 = .ok (.getfield 18, 3)) ∧ (decode cX6_walkPlan 23 = .ok (.iconst 0, 1)) ∧ (decode cX6_walkPlan 24 = .ok (.aload_n 1, 1)) ∧ (decode cX6_walkPlan 25 = .ok (.getfield 37, 3)) ∧ (decode cX6_walkPlan 28 = .ok (.iastore, 1)) := by decide +kernel
theorem dX6_walkPlan_0 : decode cX6_walkPlan 0 = .ok (.aload_n 0, 1) := dg_b18.1
theorem dX6_walkPlan_1 : decode cX6_walkPlan 1 = .ok (.getfield 12, 3) := dg_b18.2.1
theorem dX6_walkPlan_4 : decode cX6_walkPlan 4 = .ok (.getfield 26, 3) := dg_b18.2.2.1
theorem dX6_walkPlan_7 : decode cX6_walkPlan 7 = .ok (.astore_n 1, 1) := dg_b18.2.2.2.1
theorem dX6_walkPlan_8 : decode cX6_walkPlan 8 = .ok (.aload_n 0, 1) := dg_b18.2.2.2.2.1
theorem dX6_walkPlan_9 : decode cX6_walkPlan 9 = .ok (.iconst 0, 1) := dg_b18.2.2.2.2.2.1
theorem dX6_walkPlan_10 : decode cX6_walkPlan 10 = .ok (.putfield 30, 3) := dg_b18.2.2.2.2.2.2.1
theorem dX6_walkPlan_13 : decode cX6_walkPlan 13 = .ok (.aload_n 0, 1) := dg_b18.2.2.2.2.2.2.2.1
theorem dX6_walkPlan_14 : decode cX6_walkPlan 14 = .ok (.bipush (-4), 2) := dg_b18.2.2.2.2.2.2.2.2.1
theorem dX6_walkPlan_16 : decode cX6_walkPlan 16 = .ok (.putfield 34, 3) := dg_b18.2.2.2.2.2.2.2.2.2.1
theorem dX6_walkPlan_19 : decode cX6_walkPlan 19 = .ok (.aload_n 0, 1) := dg_b18.2.2.2.2.2.2.2.2.2.2.1
theorem dX6_walkPlan_20 : decode cX6_walkPlan 20 = .ok (.getfield 18, 3) := dg_b18.2.2.2.2.2.2.2.2.2.2.2.1
theorem dX6_walkPlan_23 : decode cX6_walkPlan 23 = .ok (.iconst 0, 1) := dg_b18.2.2.2.2.2.2.2.2.2.2.2.2.1
theorem dX6_walkPlan_24 : decode cX6_walkPlan 24 = .ok (.aload_n 1, 1) := dg_b18.2.2.2.2.2.2.2.2.2.2.2.2.2.1
theorem dX6_walkPlan_25 : decode cX6_walkPlan 25 = .ok (.getfield 37, 3) := dg_b18.2.2.2.2.2.2.2.2.2.2.2.2.2.2.1
theorem dX6_walkPlan_28 : decode cX6_walkPlan 28 = .ok (.iastore, 1) := dg_b18.2.2.2.2.2.2.2.2.2.2.2.2.2.2.2
theorem dg_b19 : (decode cX6_walkPlan 29 = .ok (.iconst 0, 1)) ∧ (decode cX6_walkPlan 30 = .ok (.istore_n 2, 1)) ∧ (decode cX6_walkPlan 31 = .ok (.iload_n 2, 1)) ∧ (decode cX6_walkPlan 32 = .ok (.bipush 8, 2)) ∧ (decode cX6_walkPlan 34 = .ok (.if_icmp .ge 107, 3)) ∧ (decode cX6_walkPlan 37 = .ok (.aload_n 0, 1)) ∧ (decode cX6_walkPlan 38 = .ok (.getfield 12, 3)) ∧ (decode cX6_walkPlan 41 = .ok (.iload_n 2, 1)) ∧ (decode cX6_walkPlan 42 = .ok (.invokevirtual 42, 3)) ∧ (decode cX6_walkPlan 45 = .ok (.ifCond .eq 96, 3)) ∧ (decode cX6_walkPlan 48 = .ok (.aload_n 0, 1)) ∧ (decode cX6_walkPlan 49 = .ok (.getfield 12, 3)) ∧ (decode cX6_walkPlan 52 = .ok (.getfield 46, 3)) ∧ (decode cX6_walkPlan 55 = .ok (.iload_n 2, 1)) ∧ (decode cX6_walkPlan 56 = .ok (.iaload, 1)) ∧ (decode cX6_walkPlan 57 = .ok (.istore_n 3, 1)) := by decide +kernel
theorem dX6_walkPlan_29 : decode cX6_walkPlan 29 = .ok (.iconst 0, 1) := dg_b19.1
theorem dX6_walkPlan_30 : decode cX6_walkPlan 30 = .ok (.istore_n 2, 1) := dg_b19.2.1
theorem dX6_walkPlan_31 : decode cX6_walkPlan 31 = .ok (.iload_n 2, 1) := dg_b19.2.2.1
theorem dX6_walkPlan_32 : decode cX6_walkPlan 32 = .ok (.bipush 8, 2) := dg_b19.2.2.2.1
theorem dX6_walkPlan_34 : decode cX6_walkPlan 34 = .ok (.if_icmp .ge 107, 3) := dg_b19.2.2.2.2.1
theorem dX6_walkPlan_37 : decode cX6_walkPlan 37 = .ok (.aload_n 0, 1) := dg_b19.2.2.2.2.2.1
theorem dX6_walkPlan_38 : decode cX6_walkPlan 38 = .ok (.getfield 12, 3) := dg_b19.2.2.2.2.2.2.1
theorem dX6_walkPlan_41 : decode cX6_walkPlan 41 = .ok (.iload_n 2, 1) := dg_b19.2.2.2.2.2.2.2.1
theorem dX6_walkPlan_42 : decode cX6_walkPlan 42 = .ok (.invokevirtual 42, 3) := dg_b19.2.2.2.2.2.2.2.2.1
theorem dX6_walkPlan_45 : decode cX6_walkPlan 45 = .ok (.ifCond .eq 96, 3) := dg_b19.2.2.2.2.2.2.2.2.2.1
theorem dX6_walkPlan_48 : decode cX6_walkPlan 48 = .ok (.aload_n 0, 1) := dg_b19.2.2.2.2.2.2.2.2.2.2.1
theorem dX6_walkPlan_49 : decode cX6_walkPlan 49 = .ok (.getfield 12, 3) := dg_b19.2.2.2.2.2.2.2.2.2.2.2.1
theorem dX6_walkPlan_52 : decode cX6_walkPlan 52 = .ok (.getfield 46, 3) := dg_b19.2.2.2.2.2.2.2.2.2.2.2.2.1
theorem dX6_walkPlan_55 : decode cX6_walkPlan 55 = .ok (.iload_n 2, 1) := dg_b19.2.2.2.2.2.2.2.2.2.2.2.2.2.1
theorem dX6_walkPlan_56 : decode cX6_walkPlan 56 = .ok (.iaload, 1) := dg_b19.2.2.2.2.2.2.2.2.2.2.2.2.2.2.1
theorem dX6_walkPlan_57 : decode cX6_walkPlan 57 = .ok (.istore_n 3, 1) := dg_b19.2.2.2.2.2.2.2.2.2.2.2.2.2.2.2
theorem dg_b20 : (decode cX6_walkPlan 58 = .ok (.aload_n 0, 1)) ∧ (decode cX6_walkPlan 59 = .ok (.getfield 12, 3)) ∧ (decode cX6_walkPlan 62 = .ok (.iload_n 3, 1)) ∧ (decode cX6_walkPlan 63 = .ok (.aload_n 1, 1)) ∧ (decode cX6_walkPlan 64 = .ok (.getfield 49, 3)) ∧ (decode cX6_walkPlan 67 = .ok (.invokevirtual 52, 3)) ∧ (decode cX6_walkPlan 70 = .ok (.istore 4, 2)) ∧ (decode cX6_walkPlan 72 = .ok (.aload_n 0, 1)) ∧ (decode cX6_walkPlan 73 = .ok (.getfield 12, 3)) ∧ (decode cX6_walkPlan 76 = .ok (.aload_n 1, 1)) ∧ (decode cX6_walkPlan 77 = .ok (.iload_n 3, 1)) ∧ (decode cX6_walkPlan 78 = .ok (.invokevirtual 56, 3)) ∧ (decode cX6_walkPlan 81 = .ok (.ifCond .ne 27, 3)) ∧ (decode cX6_walkPlan 84 = .ok (.aload_n 0, 1)) ∧ (decode cX6_walkPlan 85 = .ok (.aload_n 0, 1)) ∧ (decode cX6_walkPlan 86 = .ok (.getfield 34, 3)) := by decide +kernel
theorem dX6_walkPlan_58 : decode cX6_walkPlan 58 = .ok (.aload_n 0, 1) := dg_b20.1
theorem dX6_walkPlan_59 : decode cX6_walkPlan 59 = .ok (.getfield 12, 3) := dg_b20.2.1
theorem dX6_walkPlan_62 : decode cX6_walkPlan 62 = .ok (.iload_n 3, 1) := dg_b20.2.2.1
theorem dX6_walkPlan_63 : decode cX6_walkPlan 63 = .ok (.aload_n 1, 1) := dg_b20.2.2.2.1
theorem dX6_walkPlan_64 : decode cX6_walkPlan 64 = .ok (.getfield 49, 3) := dg_b20.2.2.2.2.1
theorem dX6_walkPlan_67 : decode cX6_walkPlan 67 = .ok (.invokevirtual 52, 3) := dg_b20.2.2.2.2.2.1
theorem dX6_walkPlan_70 : decode cX6_walkPlan 70 = .ok (.istore 4, 2) := dg_b20.2.2.2.2.2.2.1
theorem dX6_walkPlan_72 : decode cX6_walkPlan 72 = .ok (.aload_n 0, 1) := dg_b20.2.2.2.2.2.2.2.1
theorem dX6_walkPlan_73 : decode cX6_walkPlan 73 = .ok (.getfield 12, 3) := dg_b20.2.2.2.2.2.2.2.2.1
theorem dX6_walkPlan_76 : decode cX6_walkPlan 76 = .ok (.aload_n 1, 1) := dg_b20.2.2.2.2.2.2.2.2.2.1
theorem dX6_walkPlan_77 : decode cX6_walkPlan 77 = .ok (.iload_n 3, 1) := dg_b20.2.2.2.2.2.2.2.2.2.2.1
theorem dX6_walkPlan_78 : decode cX6_walkPlan 78 = .ok (.invokevirtual 56, 3) := dg_b20.2.2.2.2.2.2.2.2.2.2.2.1
theorem dX6_walkPlan_81 : decode cX6_walkPlan 81 = .ok (.ifCond .ne 27, 3) := dg_b20.2.2.2.2.2.2.2.2.2.2.2.2.1
theorem dX6_walkPlan_84 : decode cX6_walkPlan 84 = .ok (.aload_n 0, 1) := dg_b20.2.2.2.2.2.2.2.2.2.2.2.2.2.1
theorem dX6_walkPlan_85 : decode cX6_walkPlan 85 = .ok (.aload_n 0, 1) := dg_b20.2.2.2.2.2.2.2.2.2.2.2.2.2.2.1
theorem dX6_walkPlan_86 : decode cX6_walkPlan 86 = .ok (.getfield 34, 3) := dg_b20.2.2.2.2.2.2.2.2.2.2.2.2.2.2.2
theorem dg_b21 : (decode cX6_walkPlan 89 = .ok (.bipush (-4), 2)) ∧ (decode cX6_walkPlan 91 = .ok (.if_icmp .ne 7, 3)) ∧ (decode cX6_walkPlan 94 = .ok (.iload_n 2, 1)) ∧ (decode cX6_walkPlan 95 = .ok (.goto 7, 3)) ∧ (decode cX6_walkPlan 98 = .ok (.aload_n 0, 1)) ∧ (decode cX6_walkPlan 99 = .ok (.getfield 34, 3)) ∧ (decode cX6_walkPlan 102 = .ok (.putfield 34, 3)) ∧ (decode cX6_walkPlan 105 = .ok (.goto 18, 3)) ∧ (decode cX6_walkPlan 108 = .ok (.iload 4, 2)) ∧ (decode cX6_walkPlan 110 = .ok (.ifCond .eq 13, 3)) ∧ (decode cX6_walkPlan 113 = .ok (.aload_n 0, 1)) ∧ (decode cX6_walkPlan 114 = .ok (.dup, 1)) ∧ (decode cX6_walkPlan 115 = .ok (.getfield 30, 3)) ∧ (decode cX6_walkPlan 118 = .ok (.iconst 1, 1)) ∧ (decode cX6_walkPlan 119 = .ok (.iadd, 1)) ∧ (decode cX6_walkPlan 120 = .ok (.putfield 30, 3)) := by decide +kernel
theorem dX6_walkPlan_89 : decode cX6_walkPlan 89 = .ok (.bipush (-4), 2) := dg_b21.1
theorem dX6_walkPlan_91 : decode cX6_walkPlan 91 = .ok (.if_icmp .ne 7, 3) := dg_b21.2.1
theorem dX6_walkPlan_94 : decode cX6_walkPlan 94 = .ok (.iload_n 2, 1) := dg_b21.2.2.1
theorem dX6_walkPlan_95 : decode cX6_walkPlan 95 = .ok (.goto 7, 3) := dg_b21.2.2.2.1
theorem dX6_walkPlan_98 : decode cX6_walkPlan 98 = .ok (.aload_n 0, 1) := dg_b21.2.2.2.2.1
theorem dX6_walkPlan_99 : decode cX6_walkPlan 99 = .ok (.getfield 34, 3) := dg_b21.2.2.2.2.2.1
theorem dX6_walkPlan_102 : decode cX6_walkPlan 102 = .ok (.putfield 34, 3) := dg_b21.2.2.2.2.2.2.1
theorem dX6_walkPlan_105 : decode cX6_walkPlan 105 = .ok (.goto 18, 3) := dg_b21.2.2.2.2.2.2.2.1
theorem dX6_walkPlan_108 : decode cX6_walkPlan 108 = .ok (.iload 4, 2) := dg_b21.2.2.2.2.2.2.2.2.1
theorem dX6_walkPlan_110 : decode cX6_walkPlan 110 = .ok (.ifCond .eq 13, 3) := dg_b21.2.2.2.2.2.2.2.2.2.1
theorem dX6_walkPlan_113 : decode cX6_walkPlan 113 = .ok (.aload_n 0, 1) := dg_b21.2.2.2.2.2.2.2.2.2.2.1
theorem dX6_walkPlan_114 : decode cX6_walkPlan 114 = .ok (.dup, 1) := dg_b21.2.2.2.2.2.2.2.2.2.2.2.1
theorem dX6_walkPlan_115 : decode cX6_walkPlan 115 = .ok (.getfield 30, 3) := dg_b21.2.2.2.2.2.2.2.2.2.2.2.2.1
theorem dX6_walkPlan_118 : decode cX6_walkPlan 118 = .ok (.iconst 1, 1) := dg_b21.2.2.2.2.2.2.2.2.2.2.2.2.2.1
theorem dX6_walkPlan_119 : decode cX6_walkPlan 119 = .ok (.iadd, 1) := dg_b21.2.2.2.2.2.2.2.2.2.2.2.2.2.2.1
theorem dX6_walkPlan_120 : decode cX6_walkPlan 120 = .ok (.putfield 30, 3) := dg_b21.2.2.2.2.2.2.2.2.2.2.2.2.2.2.2
theorem dg_b22 : (decode cX6_walkPlan 123 = .ok (.aload_n 0, 1)) ∧ (decode cX6_walkPlan 124 = .ok (.getfield 18, 3)) ∧ (decode cX6_walkPlan 127 = .ok (.iload_n 2, 1)) ∧ (decode cX6_walkPlan 128 = .ok (.iconst 1, 1)) ∧ (decode cX6_walkPlan 129 = .ok (.iadd, 1)) ∧ (decode cX6_walkPlan 130 = .ok (.aload_n 1, 1)) ∧ (decode cX6_walkPlan 131 = .ok (.getfield 37, 3)) ∧ (decode cX6_walkPlan 134 = .ok (.iastore, 1)) ∧ (decode cX6_walkPlan 135 = .ok (.iinc 2 1, 3)) ∧ (decode cX6_walkPlan 138 = .ok (.goto (-107), 3)) ∧ (decode cX6_walkPlan 141 = .ok (.return_, 1)) := by decide +kernel
theorem dX6_walkPlan_123 : decode cX6_walkPlan 123 = .ok (.aload_n 0, 1) := dg_b22.1
theorem dX6_walkPlan_124 : decode cX6_walkPlan 124 = .ok (.getfield 18, 3) := dg_b22.2.1
theorem dX6_walkPlan_127 : decode cX6_walkPlan 127 = .ok (.iload_n 2, 1) := dg_b22.2.2.1
theorem dX6_walkPlan_128 : decode cX6_walkPlan 128 = .ok (.iconst 1, 1) := dg_b22.2.2.2.1
theorem dX6_walkPlan_129 : decode cX6_walkPlan 129 = .ok (.iadd, 1) := dg_b22.2.2.2.2.1
theorem dX6_walkPlan_130 : decode cX6_walkPlan 130 = .ok (.aload_n 1, 1) := dg_b22.2.2.2.2.2.1
theorem dX6_walkPlan_131 : decode cX6_walkPlan 131 = .ok (.getfield 37, 3) := dg_b22.2.2.2.2.2.2.1
theorem dX6_walkPlan_134 : decode cX6_walkPlan 134 = .ok (.iastore, 1) := dg_b22.2.2.2.2.2.2.2.1
theorem dX6_walkPlan_135 : decode cX6_walkPlan 135 = .ok (.iinc 2 1, 3) := dg_b22.2.2.2.2.2.2.2.2.1
theorem dX6_walkPlan_138 : decode cX6_walkPlan 138 = .ok (.goto (-107), 3) := dg_b22.2.2.2.2.2.2.2.2.2.1
theorem dX6_walkPlan_141 : decode cX6_walkPlan 141 = .ok (.return_, 1) := dg_b22.2.2.2.2.2.2.2.2.2.2
theorem dg_b23 : (decode cX6_isAllAsSeen 0 = .ok (.aload_n 0, 1)) ∧ (decode cX6_isAllAsSeen 1 = .ok (.invokevirtual 60, 3)) ∧ (decode cX6_isAllAsSeen 4 = .ok (.iconst 0, 1)) ∧ (decode cX6_isAllAsSeen 5 = .ok (.istore_n 1, 1)) ∧ (decode cX6_isAllAsSeen 6 = .ok (.iload_n 1, 1)) ∧ (decode cX6_isAllAsSeen 7 = .ok (.aload_n 0, 1)) ∧ (decode cX6_isAllAsSeen 8 = .ok (.getfield 12, 3)) ∧ (decode cX6_isAllAsSeen 11 = .ok (.getfield 63, 3)) ∧ (decode cX6_isAllAsSeen 14 = .ok (.if_icmp .ge 55, 3)) ∧ (decode cX6_isAllAsSeen 17 = .ok (.iload_n 1, 1)) ∧ (decode cX6_isAllAsSeen 18 = .ok (.bipush 6, 2)) ∧ (decode cX6_isAllAsSeen 20 = .ok (.if_icmp .ge 49, 3)) ∧ (decode cX6_isAllAsSeen 23 = .ok (.aload_n 0, 1)) ∧ (decode cX6_isAllAsSeen 24 = .ok (.getfield 12, 3)) ∧ (decode cX6_isAllAsSeen 27 = .ok (.getfield 66, 3)) ∧ (decode cX6_isAllAsSeen 30 = .ok (.iload_n 1, 1)) := by decide +kernel
theorem dX6_isAllAsSeen_0 : decode cX6_isAllAsSeen 0 = .ok (.aload_n 0, 1) := dg_b23.1
theorem dX6_isAllAsSeen_1 : decode cX6_isAllAsSeen 1 = .ok (.invokevirtual 60, 3) := dg_b23.2.1
theorem dX6_isAllAsSeen_4 : decode cX6_isAllAsSeen 4 = .ok (.iconst 0, 1) := dg_b23.2.2.1
theorem dX6_isAllAsSeen_5 : decode cX6_isAllAsSeen 5 = .ok (.istore_n 1, 1) := dg_b23.2.2.2.1
theorem dX6_isAllAsSeen_6 : decode cX6_isAllAsSeen 6 = .ok (.iload_n 1, 1) := dg_b23.2.2.2.2.1
theorem dX6_isAllAsSeen_7 : decode cX6_isAllAsSeen 7 = .ok (.aload_n 0, 1) := dg_b23.2.2.2.2.2.1
theorem dX6_isAllAsSeen_8 : decode cX6_isAllAsSeen 8 = .ok (.getfield 12, 3) := dg_b23.2.2.2.2.2.2.1
theorem dX6_isAllAsSeen_11 : decode cX6_isAllAsSeen 11 = .ok (.getfield 63, 3) := dg_b23.2.2.2.2.2.2.2.1
theorem dX6_isAllAsSeen_14 : decode cX6_isAllAsSeen 14 = .ok (.if_icmp .ge 55, 3) := dg_b23.2.2.2.2.2.2.2.2.1
theorem dX6_isAllAsSeen_17 : decode cX6_isAllAsSeen 17 = .ok (.iload_n 1, 1) := dg_b23.2.2.2.2.2.2.2.2.2.1
theorem dX6_isAllAsSeen_18 : decode cX6_isAllAsSeen 18 = .ok (.bipush 6, 2) := dg_b23.2.2.2.2.2.2.2.2.2.2.1
theorem dX6_isAllAsSeen_20 : decode cX6_isAllAsSeen 20 = .ok (.if_icmp .ge 49, 3) := dg_b23.2.2.2.2.2.2.2.2.2.2.2.1
theorem dX6_isAllAsSeen_23 : decode cX6_isAllAsSeen 23 = .ok (.aload_n 0, 1) := dg_b23.2.2.2.2.2.2.2.2.2.2.2.2.1
theorem dX6_isAllAsSeen_24 : decode cX6_isAllAsSeen 24 = .ok (.getfield 12, 3) := dg_b23.2.2.2.2.2.2.2.2.2.2.2.2.2.1
theorem dX6_isAllAsSeen_27 : decode cX6_isAllAsSeen 27 = .ok (.getfield 66, 3) := dg_b23.2.2.2.2.2.2.2.2.2.2.2.2.2.2.1
theorem dX6_isAllAsSeen_30 : decode cX6_isAllAsSeen 30 = .ok (.iload_n 1, 1) := dg_b23.2.2.2.2.2.2.2.2.2.2.2.2.2.2.2
theorem dg_b24 : (decode cX6_isAllAsSeen 31 = .ok (.iaload, 1)) ∧ (decode cX6_isAllAsSeen 32 = .ok (.aload_n 0, 1)) ∧ (decode cX6_isAllAsSeen 33 = .ok (.getfield 12, 3)) ∧ (decode cX6_isAllAsSeen 36 = .ok (.getfield 69, 3)) ∧ (decode cX6_isAllAsSeen 39 = .ok (.invokestatic 72, 3)) ∧ (decode cX6_isAllAsSeen 42 = .ok (.istore_n 2, 1)) ∧ (decode cX6_isAllAsSeen 43 = .ok (.aload_n 0, 1)) ∧ (decode cX6_isAllAsSeen 44 = .ok (.getfield 18, 3)) ∧ (decode cX6_isAllAsSeen 47 = .ok (.iload_n 2, 1)) ∧ (decode cX6_isAllAsSeen 48 = .ok (.iaload, 1)) ∧ (decode cX6_isAllAsSeen 49 = .ok (.aload_n 0, 1)) ∧ (decode cX6_isAllAsSeen 50 = .ok (.getfield 12, 3)) ∧ (decode cX6_isAllAsSeen 53 = .ok (.getfield 78, 3)) ∧ (decode cX6_isAllAsSeen 56 = .ok (.iload_n 1, 1)) ∧ (decode cX6_isAllAsSeen 57 = .ok (.iaload, 1)) ∧ (decode cX6_isAllAsSeen 58 = .ok (.if_icmp .eq 5, 3)) := by decide +kernel
theorem dX6_isAllAsSeen_31 : decode cX6_isAllAsSeen 31 = .ok (.iaload, 1) := dg_b24.1
theorem dX6_isAllAsSeen_32 : decode cX6_isAllAsSeen 32 = .ok (.aload_n 0, 1) := dg_b24.2.1
theorem dX6_isAllAsSeen_33 : decode cX6_isAllAsSeen 33 = .ok (.getfield 12, 3) := dg_b24.2.2.1
theorem dX6_isAllAsSeen_36 : decode cX6_isAllAsSeen 36 = .ok (.getfield 69, 3) := dg_b24.2.2.2.1
theorem dX6_isAllAsSeen_39 : decode cX6_isAllAsSeen 39 = .ok (.invokestatic 72, 3) := dg_b24.2.2.2.2.1
theorem dX6_isAllAsSeen_42 : decode cX6_isAllAsSeen 42 = .ok (.istore_n 2, 1) := dg_b24.2.2.2.2.2.1
theorem dX6_isAllAsSeen_43 : decode cX6_isAllAsSeen 43 = .ok (.aload_n 0, 1) := dg_b24.2.2.2.2.2.2.1
theorem dX6_isAllAsSeen_44 : decode cX6_isAllAsSeen 44 = .ok (.getfield 18, 3) := dg_b24.2.2.2.2.2.2.2.1
theorem dX6_isAllAsSeen_47 : decode cX6_isAllAsSeen 47 = .ok (.iload_n 2, 1) := dg_b24.2.2.2.2.2.2.2.2.1
theorem dX6_isAllAsSeen_48 : decode cX6_isAllAsSeen 48 = .ok (.iaload, 1) := dg_b24.2.2.2.2.2.2.2.2.2.1
theorem dX6_isAllAsSeen_49 : decode cX6_isAllAsSeen 49 = .ok (.aload_n 0, 1) := dg_b24.2.2.2.2.2.2.2.2.2.2.1
theorem dX6_isAllAsSeen_50 : decode cX6_isAllAsSeen 50 = .ok (.getfield 12, 3) := dg_b24.2.2.2.2.2.2.2.2.2.2.2.1
theorem dX6_isAllAsSeen_53 : decode cX6_isAllAsSeen 53 = .ok (.getfield 78, 3) := dg_b24.2.2.2.2.2.2.2.2.2.2.2.2.1
theorem dX6_isAllAsSeen_56 : decode cX6_isAllAsSeen 56 = .ok (.iload_n 1, 1) := dg_b24.2.2.2.2.2.2.2.2.2.2.2.2.2.1
theorem dX6_isAllAsSeen_57 : decode cX6_isAllAsSeen 57 = .ok (.iaload, 1) := dg_b24.2.2.2.2.2.2.2.2.2.2.2.2.2.2.1
theorem dX6_isAllAsSeen_58 : decode cX6_isAllAsSeen 58 = .ok (.if_icmp .eq 5, 3) := dg_b24.2.2.2.2.2.2.2.2.2.2.2.2.2.2.2
theorem dg_b25 : (decode cX6_isAllAsSeen 61 = .ok (.iconst 0, 1)) ∧ (decode cX6_isAllAsSeen 62 = .ok (.ireturn, 1)) ∧ (decode cX6_isAllAsSeen 63 = .ok (.iinc 1 1, 3)) ∧ (decode cX6_isAllAsSeen 66 = .ok (.goto (-60), 3)) ∧ (decode cX6_isAllAsSeen 69 = .ok (.iconst 1, 1)) ∧ (decode cX6_isAllAsSeen 70 = .ok (.ireturn, 1)) := by decide +kernel
theorem dX6_isAllAsSeen_61 : decode cX6_isAllAsSeen 61 = .ok (.iconst 0, 1) := dg_b25.1
theorem dX6_isAllAsSeen_62 : decode cX6_isAllAsSeen 62 = .ok (.ireturn, 1) := dg_b25.2.1
theorem dX6_isAllAsSeen_63 : decode cX6_isAllAsSeen 63 = .ok (.iinc 1 1, 3) := dg_b25.2.2.1
theorem dX6_isAllAsSeen_66 : decode cX6_isAllAsSeen 66 = .ok (.goto (-60), 3) := dg_b25.2.2.2.1
theorem dX6_isAllAsSeen_69 : decode cX6_isAllAsSeen 69 = .ok (.iconst 1, 1) := dg_b25.2.2.2.2.1
theorem dX6_isAllAsSeen_70 : decode cX6_isAllAsSeen 70 = .ok (.ireturn, 1) := dg_b25.2.2.2.2.2
theorem dg_b26 : (decode cX7_init 0 = .ok (.aload_n 0, 1)) ∧ (decode cX7_init 1 = .ok (.invokespecial 1, 3)) ∧ (decode cX7_init 4 = .ok (.aload_n 0, 1)) ∧ (decode cX7_init 5 = .ok (.new 7, 3)) ∧ (decode cX7_init 8 = .ok (.dup, 1)) ∧ (decode cX7_init 9 = .ok (.invokespecial 9, 3)) ∧ (decode cX7_init 12 = .ok (.putfield 10, 3)) ∧ (decode cX7_init 15 = .ok (.aload_n 0, 1)) ∧ (decode cX7_init 16 = .ok (.new 16, 3)) ∧ (decode cX7_init 19 = .ok (.dup, 1)) ∧ (decode cX7_init 20 = .ok (.invokespecial 18, 3)) ∧ (decode cX7_init 23 = .ok (.putfield 19, 3)) ∧ (decode cX7_init 26 = .ok (.aload_n 0, 1)) ∧ (decode cX7_init 27 = .ok (.new 23, 3)) ∧ (decode cX7_init 30 = .ok (.dup, 1)) ∧ (decode cX7_init 31 = .ok (.invokespecial 25, 3)) := by decide +kernel
theorem dX7_init_0 : decode cX7_init 0 = .ok (.aload_n 0, 1) := dg_b26.1
theorem dX7_init_1 : decode cX7_init 1 = .ok (.invokespecial 1, 3) := dg_b26.2.1
theorem dX7_init_4 : decode cX7_init 4 = .ok (.aload_n 0, 1) := dg_b26.2.2.1
theorem dX7_init_5 : decode cX7_init 5 = .ok (.new 7, 3) := dg_b26.2.2.2.1
theorem dX7_init_8 : decode cX7_init 8 = .ok (.dup, 1) := dg_b26.2.2.2.2.1
theorem dX7_init_9 : decode cX7_init 9 = .ok (.invokespecial 9, 3) := dg_b26.2.2.2.2.2.1
theorem dX7_init_12 : decode cX7_init 12 = .ok (.putfield 10, 3) := dg_b26.2.2.2.2.2.2.1
theorem dX7_init_15 : decode cX7_init 15 = .ok (.aload_n 0, 1) := dg_b26.2.2.2.2.2.2.2.1
theorem dX7_init_16 : decode cX7_init 16 = .ok (.new 16, 3) := dg_b26.2.2.2.2.2.2.2.2.1
theorem dX7_init_19 : decode cX7_init 19 = .ok (.dup, 1) := dg_b26.2.2.2.2.2.2.2.2.2.1
theorem dX7_init_20 : decode cX7_init 20 = .ok (.invokespecial 18, 3) := dg_b26.2.2.2.2.2.2.2.2.2.2.1
theorem dX7_init_23 : decode cX7_init 23 = .ok (.putfield 19, 3) := dg_b26.2.2.2.2.2.2.2.2.2.2.2.1
theorem dX7_init_26 : decode cX7_init 26 = .ok (.aload_n 0, 1) := dg_b26.2.2.2.2.2.2.2.2.2.2.2.2.1
theorem dX7_init_27 : decode cX7_init 27 = .ok (.new 23, 3) := dg_b26.2.2.2.2.2.2.2.2.2.2.2.2.2.1
theorem dX7_init_30 : decode cX7_init 30 = .ok (.dup, 1) := dg_b26.2.2.2.2.2.2.2.2.2.2.2.2.2.2.1
theorem dX7_init_31 : decode cX7_init 31 = .ok (.invokespecial 25, 3) := dg_b26.2.2.2.2.2.2.2.2.2.2.2.2.2.2.2
theorem dg_b27 : (decode cX7_init 34 = .ok (.putfield 26, 3)) ∧ (decode cX7_init 37 = .ok (.aload_n 0, 1)) ∧ (decode cX7_init 38 = .ok (.new 30, 3)) ∧ (decode cX7_init 41 = .ok (.dup, 1)) ∧ (decode cX7_init 42 = .ok (.invokespecial 32, 3)) ∧ (decode cX7_init 45 = .ok (.putfield 33, 3)) ∧ (decode cX7_init 48 = .ok (.aload_n 0, 1)) ∧ (decode cX7_init 49 = .ok (.new 37, 3)) ∧ (decode cX7_init 52 = .ok (.dup, 1)) ∧ (decode cX7_init 53 = .ok (.invokespecial 39, 3)) ∧ (decode cX7_init 56 = .ok (.putfield 40, 3)) ∧ (decode cX7_init 59 = .ok (.aload_n 0, 1)) ∧ (decode cX7_init 60 = .ok (.new 44, 3)) ∧ (decode cX7_init 63 = .ok (.dup, 1)) ∧ (decode cX7_init 64 = .ok (.invokespecial 46, 3)) ∧ (decode cX7_init 67 = .ok (.putfield 47, 3)) := by decide +kernel
theorem dX7_init_34 : decode cX7_init 34 = .ok (.putfield 26, 3) := dg_b27.1
theorem dX7_init_37 : decode cX7_init 37 = .ok (.aload_n 0, 1) := dg_b27.2.1
theorem dX7_init_38 : decode cX7_init 38 = .ok (.new 30, 3) := dg_b27.2.2.1
theorem dX7_init_41 : decode cX7_init 41 = .ok (.dup, 1) := dg_b27.2.2.2.1
theorem dX7_init_42 : decode cX7_init 42 = .ok (.invokespecial 32, 3) := dg_b27.2.2.2.2.1
theorem dX7_init_45 : decode cX7_init 45 = .ok (.putfield 33, 3) := dg_b27.2.2.2.2.2.1
theorem dX7_init_48 : decode cX7_init 48 = .ok (.aload_n 0, 1) := dg_b27.2.2.2.2.2.2.1
theorem dX7_init_49 : decode cX7_init 49 = .ok (.new 37, 3) := dg_b27.2.2.2.2.2.2.2.1
theorem dX7_init_52 : decode cX7_init 52 = .ok (.dup, 1) := dg_b27.2.2.2.2.2.2.2.2.1
theorem dX7_init_53 : decode cX7_init 53 = .ok (.invokespecial 39, 3) := dg_b27.2.2.2.2.2.2.2.2.2.1
theorem dX7_init_56 : decode cX7_init 56 = .ok (.putfield 40, 3) := dg_b27.2.2.2.2.2.2.2.2.2.2.1
theorem dX7_init_59 : decode cX7_init 59 = .ok (.aload_n 0, 1) := dg_b27.2.2.2.2.2.2.2.2.2.2.2.1
theorem dX7_init_60 : decode cX7_init 60 = .ok (.new 44, 3) := dg_b27.2.2.2.2.2.2.2.2.2.2.2.2.1
theorem dX7_init_63 : decode cX7_init 63 = .ok (.dup, 1) := dg_b27.2.2.2.2.2.2.2.2.2.2.2.2.2.1
theorem dX7_init_64 : decode cX7_init 64 = .ok (.invokespecial 46, 3) := dg_b27.2.2.2.2.2.2.2.2.2.2.2.2.2.2.1
theorem dX7_init_67 : decode cX7_init 67 = .ok (.putfield 47, 3) := dg_b27.2.2.2.2.2.2.2.2.2.2.2.2.2.2.2
theorem dg_b28 : (decode cX7_init 70 = .ok (.aload_n 0, 1)) ∧ (decode cX7_init 71 = .ok (.iconst 2, 1)) ∧ (decode cX7_init 72 = .ok (.anewarray 16, 3)) ∧ (decode cX7_init 75 = .ok (.putfield 51, 3)) ∧ (decode cX7_init 78 = .ok (.aload_n 0, 1)) ∧ (decode cX7_init 79 = .ok (.iconst 2, 1)) ∧ (decode cX7_init 80 = .ok (.newarray .boolean, 2)) ∧ (decode cX7_init 82 = .ok (.putfield 55, 3)) ∧ (decode cX7_init 85 = .ok (.aload_n 0, 1)) ∧ (decode cX7_init 86 = .ok (.iconst 4, 1)) ∧ (decode cX7_init 87 = .ok (.anewarray 59, 3)) ∧ (decode cX7_init 90 = .ok (.putfield 61, 3)) ∧ (decode cX7_init 93 = .ok (.iconst 0, 1)) ∧ (decode cX7_init 94 = .ok (.istore_n 1, 1)) ∧ (decode cX7_init 95 = .ok (.iload_n 1, 1)) ∧ (decode cX7_init 96 = .ok (.iconst 2, 1)) := by decide +kernel
theorem dX7_init_70 : decode cX7_init 70 = .ok (.aload_n 0, 1) := dg_b28.1
theorem dX7_init_71 : decode cX7_init 71 = .ok (.iconst 2, 1) := dg_b28.2.1
theorem dX7_init_72 : decode cX7_init 72 = .ok (.anewarray 16, 3) := dg_b28.2.2.1
theorem dX7_init_75 : decode cX7_init 75 = .ok (.putfield 51, 3) := dg_b28.2.2.2.1
theorem dX7_init_78 : decode cX7_init 78 = .ok (.aload_n 0, 1) := dg_b28.2.2.2.2.1
theorem dX7_init_79 : decode cX7_init 79 = .ok (.iconst 2, 1) := dg_b28.2.2.2.2.2.1
theorem dX7_init_80 : decode cX7_init 80 = .ok (.newarray .boolean, 2) := dg_b28.2.2.2.2.2.2.1
theorem dX7_init_82 : decode cX7_init 82 = .ok (.putfield 55, 3) := dg_b28.2.2.2.2.2.2.2.1
theorem dX7_init_85 : decode cX7_init 85 = .ok (.aload_n 0, 1) := dg_b28.2.2.2.2.2.2.2.2.1
theorem dX7_init_86 : decode cX7_init 86 = .ok (.iconst 4, 1) := dg_b28.2.2.2.2.2.2.2.2.2.1
theorem dX7_init_87 : decode cX7_init 87 = .ok (.anewarray 59, 3) := dg_b28.2.2.2.2.2.2.2.2.2.2.1
theorem dX7_init_90 : decode cX7_init 90 = .ok (.putfield 61, 3) := dg_b28.2.2.2.2.2.2.2.2.2.2.2.1
theorem dX7_init_93 : decode cX7_init 93 = .ok (.iconst 0, 1) := dg_b28.2.2.2.2.2.2.2.2.2.2.2.2.1
theorem dX7_init_94 : decode cX7_init 94 = .ok (.istore_n 1, 1) := dg_b28.2.2.2.2.2.2.2.2.2.2.2.2.2.1
theorem dX7_init_95 : decode cX7_init 95 = .ok (.iload_n 1, 1) := dg_b28.2.2.2.2.2.2.2.2.2.2.2.2.2.2.1
theorem dX7_init_96 : decode cX7_init 96 = .ok (.iconst 2, 1) := dg_b28.2.2.2.2.2.2.2.2.2.2.2.2.2.2.2
theorem dg_b29 : (decode cX7_init 97 = .ok (.if_icmp .ge 22, 3)) ∧ (decode cX7_init 100 = .ok (.aload_n 0, 1)) ∧ (decode cX7_init 101 = .ok (.getfield 51, 3)) ∧ (decode cX7_init 104 = .ok (.iload_n 1, 1)) ∧ (decode cX7_init 105 = .ok (.new 16, 3)) ∧ (decode cX7_init 108 = .ok (.dup, 1)) ∧ (decode cX7_init 109 = .ok (.invokespecial 18, 3)) ∧ (decode cX7_init 112 = .ok (.aastore, 1)) ∧ (decode cX7_init 113 = .ok (.iinc 1 1, 3)) ∧ (decode cX7_init 116 = .ok (.goto (-21), 3)) ∧ (decode cX7_init 119 = .ok (.iconst 0, 1)) ∧ (decode cX7_init 120 = .ok (.istore_n 1, 1)) ∧ (decode cX7_init 121 = .ok (.iload_n 1, 1)) ∧ (decode cX7_init 122 = .ok (.iconst 4, 1)) ∧ (decode cX7_init 123 = .ok (.if_icmp .ge 22, 3)) ∧ (decode cX7_init 126 = .ok (.aload_n 0, 1)) := by decide +kernel
theorem dX7_init_97 : decode cX7_init 97 = .ok (.if_icmp .ge 22, 3) := dg_b29.1
theorem dX7_init_100 : decode cX7_init 100 = .ok (.aload_n 0, 1) := dg_b29.2.1
theorem dX7_init_101 : decode cX7_init 101 = .ok (.getfield 51, 3) := dg_b29.2.2.1
theorem dX7_init_104 : decode cX7_init 104 = .ok (.iload_n 1, 1) := dg_b29.2.2.2.1
theorem dX7_init_105 : decode cX7_init 105 = .ok (.new 16, 3) := dg_b29.2.2.2.2.1
theorem dX7_init_108 : decode cX7_init 108 = .ok (.dup, 1) := dg_b29.2.2.2.2.2.1
theorem dX7_init_109 : decode cX7_init 109 = .ok (.invokespecial 18, 3) := dg_b29.2.2.2.2.2.2.1
theorem dX7_init_112 : decode cX7_init 112 = .ok (.aastore, 1) := dg_b29.2.2.2.2.2.2.2.1
theorem dX7_init_113 : decode cX7_init 113 = .ok (.iinc 1 1, 3) := dg_b29.2.2.2.2.2.2.2.2.1
theorem dX7_init_116 : decode cX7_init 116 = .ok (.goto (-21), 3) := dg_b29.2.2.2.2.2.2.2.2.2.1
theorem dX7_init_119 : decode cX7_init 119 = .ok (.iconst 0, 1) := dg_b29.2.2.2.2.2.2.2.2.2.2.1
theorem dX7_init_120 : decode cX7_init 120 = .ok (.istore_n 1, 1) := dg_b29.2.2.2.2.2.2.2.2.2.2.2.1
theorem dX7_init_121 : decode cX7_init 121 = .ok (.iload_n 1, 1) := dg_b29.2.2.2.2.2.2.2.2.2.2.2.2.1
theorem dX7_init_122 : decode cX7_init 122 = .ok (.iconst 4, 1) := dg_b29.2.2.2.2.2.2.2.2.2.2.2.2.2.1
theorem dX7_init_123 : decode cX7_init 123 = .ok (.if_icmp .ge 22, 3) := dg_b29.2.2.2.2.2.2.2.2.2.2.2.2.2.2.1
theorem dX7_init_126 : decode cX7_init 126 = .ok (.aload_n 0, 1) := dg_b29.2.2.2.2.2.2.2.2.2.2.2.2.2.2.2
theorem dg_b30 : (decode cX7_init 127 = .ok (.getfield 61, 3)) ∧ (decode cX7_init 130 = .ok (.iload_n 1, 1)) ∧ (decode cX7_init 131 = .ok (.new 59, 3)) ∧ (decode cX7_init 134 = .ok (.dup, 1)) ∧ (decode cX7_init 135 = .ok (.invokespecial 65, 3)) ∧ (decode cX7_init 138 = .ok (.aastore, 1)) ∧ (decode cX7_init 139 = .ok (.iinc 1 1, 3)) ∧ (decode cX7_init 142 = .ok (.goto (-21), 3)) ∧ (decode cX7_init 145 = .ok (.return_, 1)) := by decide +kernel
theorem dX7_init_127 : decode cX7_init 127 = .ok (.getfield 61, 3) := dg_b30.1
theorem dX7_init_130 : decode cX7_init 130 = .ok (.iload_n 1, 1) := dg_b30.2.1
theorem dX7_init_131 : decode cX7_init 131 = .ok (.new 59, 3) := dg_b30.2.2.1
theorem dX7_init_134 : decode cX7_init 134 = .ok (.dup, 1) := dg_b30.2.2.2.1
theorem dX7_init_135 : decode cX7_init 135 = .ok (.invokespecial 65, 3) := dg_b30.2.2.2.2.1
theorem dX7_init_138 : decode cX7_init 138 = .ok (.aastore, 1) := dg_b30.2.2.2.2.2.1
theorem dX7_init_139 : decode cX7_init 139 = .ok (.iinc 1 1, 3) := dg_b30.2.2.2.2.2.2.1
theorem dX7_init_142 : decode cX7_init 142 = .ok (.goto (-21), 3) := dg_b30.2.2.2.2.2.2.2.1
theorem dX7_init_145 : decode cX7_init 145 = .ok (.return_, 1) := dg_b30.2.2.2.2.2.2.2.2
theorem dg_b31 : (decode cX7_feed 0 = .ok (.iload_n 1, 1)) ∧ (decode cX7_feed 1 = .ok (.ifCond .lt 9, 3)) ∧ (decode cX7_feed 4 = .ok (.iload_n 1, 1)) ∧ (decode cX7_feed 5 = .ok (.bipush 127, 2)) ∧ (decode cX7_feed 7 = .ok (.if_icmp .le 5, 3)) ∧ (decode cX7_feed 10 = .ok (.iconst (-1), 1)) ∧ (decode cX7_feed 11 = .ok (.ireturn, 1)) ∧ (decode cX7_feed 12 = .ok (.aload_n 0, 1)) ∧ (decode cX7_feed 13 = .ok (.getfield 10, 3)) ∧ (decode cX7_feed 16 = .ok (.iload_n 1, 1)) ∧ (decode cX7_feed 17 = .ok (.invokevirtual 66, 3)) ∧ (decode cX7_feed 20 = .ok (.ifCond .eq 13, 3)) ∧ (decode cX7_feed 23 = .ok (.aload_n 0, 1)) ∧ (decode cX7_feed 24 = .ok (.getfield 10, 3)) ∧ (decode cX7_feed 27 = .ok (.getfield 70, 3)) ∧ (decode cX7_feed 30 = .ok (.goto 5, 3)) := by decide +kernel
theorem dX7_feed_0 : decode cX7_feed 0 = .ok (.iload_n 1, 1) := dg_b31.1
theorem dX7_feed_1 : decode cX7_feed 1 = .ok (.ifCond .lt 9, 3) := dg_b31.2.1
theorem dX7_feed_4 : decode cX7_feed 4 = .ok (.iload_n 1, 1) := dg_b31.2.2.1
theorem dX7_feed_5 : decode cX7_feed 5 = .ok (.bipush 127, 2) := dg_b31.2.2.2.1
theorem dX7_feed_7 : decode cX7_feed 7 = .ok (.if_icmp .le 5, 3) := dg_b31.2.2.2.2.1
theorem dX7_feed_10 : decode cX7_feed 10 = .ok (.iconst (-1), 1) := dg_b31.2.2.2.2.2.1
theorem dX7_feed_11 : decode cX7_feed 11 = .ok (.ireturn, 1) := dg_b31.2.2.2.2.2.2.1
theorem dX7_feed_12 : decode cX7_feed 12 = .ok (.aload_n 0, 1) := dg_b31.2.2.2.2.2.2.2.1
theorem dX7_feed_13 : decode cX7_feed 13 = .ok (.getfield 10, 3) := dg_b31.2.2.2.2.2.2.2.2.1
theorem dX7_feed_16 : decode cX7_feed 16 = .ok (.iload_n 1, 1) := dg_b31.2.2.2.2.2.2.2.2.2.1
theorem dX7_feed_17 : decode cX7_feed 17 = .ok (.invokevirtual 66, 3) := dg_b31.2.2.2.2.2.2.2.2.2.2.1
theorem dX7_feed_20 : decode cX7_feed 20 = .ok (.ifCond .eq 13, 3) := dg_b31.2.2.2.2.2.2.2.2.2.2.2.1
theorem dX7_feed_23 : decode cX7_feed 23 = .ok (.aload_n 0, 1) := dg_b31.2.2.2.2.2.2.2.2.2.2.2.2.1
theorem dX7_feed_24 : decode cX7_feed 24 = .ok (.getfield 10, 3) := dg_b31.2.2.2.2.2.2.2.2.2.2.2.2.2.1
theorem dX7_feed_27 : decode cX7_feed 27 = .ok (.getfield 70, 3) := dg_b31.2.2.2.2.2.2.2.2.2.2.2.2.2.2.1
theorem dX7_feed_30 : decode cX7_feed 30 = .ok (.goto 5, 3) := dg_b31.2.2.2.2.2.2.2.2.2.2.2.2.2.2.2
theorem dg_b32 : (decode cX7_feed 33 = .ok (.bipush (-3), 2)) ∧ (decode cX7_feed 35 = .ok (.ireturn, 1)) := by decide +kernel
theorem dX7_feed_33 : decode cX7_feed 33 = .ok (.bipush (-3), 2) := dg_b32.1
theorem dX7_feed_35 : decode cX7_feed 35 = .ok (.ireturn, 1) := dg_b32.2
theorem dg_b33 : (decode cX7_end 0 = .ok (.iload_n 1, 1)) ∧ (decode cX7_end 1 = .ok (.ifCond .lt 14, 3)) ∧ (decode cX7_end 4 = .ok (.iload_n 1, 1)) ∧ (decode cX7_end 5 = .ok (.aload_n 0, 1)) ∧ (decode cX7_end 6 = .ok (.getfield 10, 3)) ∧ (decode cX7_end 9 = .ok (.getfield 70, 3)) ∧ (decode cX7_end 12 = .ok (.if_icmp .le 5, 3)) ∧ (decode cX7_end 15 = .ok (.iconst (-1), 1)) ∧ (decode cX7_end 16 = .ok (.ireturn, 1)) ∧ (decode cX7_end 17 = .ok (.aload_n 0, 1)) ∧ (decode cX7_end 18 = .ok (.getfield 10, 3)) ∧ (decode cX7_end 21 = .ok (.getfield 70, 3)) ∧ (decode cX7_end 24 = .ok (.istore_n 2, 1)) ∧ (decode cX7_end 25 = .ok (.aload_n 0, 1)) ∧ (decode cX7_end 26 = .ok (.getfield 10, 3)) ∧ (decode cX7_end 29 = .ok (.iload_n 1, 1)) := by decide +kernel
theorem dX7_end_0 : decode cX7_end 0 = .ok (.iload_n 1, 1) := dg_b33.1
theorem dX7_end_1 : decode cX7_end 1 = .ok (.ifCond .lt 14, 3) := dg_b33.2.1
theorem dX7_end_4 : decode cX7_end 4 = .ok (.iload_n 1, 1) := dg_b33.2.2.1
theorem dX7_end_5 : decode cX7_end 5 = .ok (.aload_n 0, 1) := dg_b33.2.2.2.1
theorem dX7_end_6 : decode cX7_end 6 = .ok (.getfield 10, 3) := dg_b33.2.2.2.2.1
theorem dX7_end_9 : decode cX7_end 9 = .ok (.getfield 70, 3) := dg_b33.2.2.2.2.2.1
theorem dX7_end_12 : decode cX7_end 12 = .ok (.if_icmp .le 5, 3) := dg_b33.2.2.2.2.2.2.1
theorem dX7_end_15 : decode cX7_end 15 = .ok (.iconst (-1), 1) := dg_b33.2.2.2.2.2.2.2.1
theorem dX7_end_16 : decode cX7_end 16 = .ok (.ireturn, 1) := dg_b33.2.2.2.2.2.2.2.2.1
theorem dX7_end_17 : decode cX7_end 17 = .ok (.aload_n 0, 1) := dg_b33.2.2.2.2.2.2.2.2.2.1
theorem dX7_end_18 : decode cX7_end 18 = .ok (.getfield 10, 3) := dg_b33.2.2.2.2.2.2.2.2.2.2.1
theorem dX7_end_21 : decode cX7_end 21 = .ok (.getfield 70, 3) := dg_b33.2.2.2.2.2.2.2.2.2.2.2.1
theorem dX7_end_24 : decode cX7_end 24 = .ok (.istore_n 2, 1) := dg_b33.2.2.2.2.2.2.2.2.2.2.2.2.1
theorem dX7_end_25 : decode cX7_end 25 = .ok (.aload_n 0, 1) := dg_b33.2.2.2.2.2.2.2.2.2.2.2.2.2.1
theorem dX7_end_26 : decode cX7_end 26 = .ok (.getfield 10, 3) := dg_b33.2.2.2.2.2.2.2.2.2.2.2.2.2.2.1
theorem dX7_end_29 : decode cX7_end 29 = .ok (.iload_n 1, 1) := dg_b33.2.2.2.2.2.2.2.2.2.2.2.2.2.2.2
theorem dg_b34 : (decode cX7_end 30 = .ok (.putfield 70, 3)) ∧ (decode cX7_end 33 = .ok (.iload_n 2, 1)) ∧ (decode cX7_end 34 = .ok (.ireturn, 1)) := by decide +kernel
theorem dX7_end_30 : decode cX7_end 30 = .ok (.putfield 70, 3) := dg_b34.1
theorem dX7_end_33 : decode cX7_end 33 = .ok (.iload_n 2, 1) := dg_b34.2.1
theorem dX7_end_34 : decode cX7_end 34 = .ok (.ireturn, 1) := dg_b34.2.2
theorem dg_b35 : (decode cX7_text 0 = .ok (.aload_n 0, 1)) ∧ (decode cX7_text 1 = .ok (.getfield 10, 3)) ∧ (decode cX7_text 4 = .ok (.invokevirtual 74, 3)) ∧ (decode cX7_text 7 = .ok (.istore_n 1, 1)) ∧ (decode cX7_text 8 = .ok (.aload_n 0, 1)) ∧ (decode cX7_text 9 = .ok (.getfield 10, 3)) ∧ (decode cX7_text 12 = .ok (.iconst 0, 1)) ∧ (decode cX7_text 13 = .ok (.putfield 70, 3)) ∧ (decode cX7_text 16 = .ok (.aload_n 0, 1)) ∧ (decode cX7_text 17 = .ok (.aload_n 0, 1)) ∧ (decode cX7_text 18 = .ok (.getfield 10, 3)) ∧ (decode cX7_text 21 = .ok (.getfield 78, 3)) ∧ (decode cX7_text 24 = .ok (.putfield 81, 3)) ∧ (decode cX7_text 27 = .ok (.aload_n 0, 1)) ∧ (decode cX7_text 28 = .ok (.getfield 81, 3)) ∧ (decode cX7_text 31 = .ok (.ifCond .eq 14, 3)) := by decide +kernel
theorem dX7_text_0 : decode cX7_text 0 = .ok (.aload_n 0, 1) := dg_b35.1
theorem dX7_text_1 : decode cX7_text 1 = .ok (.getfield 10, 3) := dg_b35.2.1
theorem dX7_text_4 : decode cX7_text 4 = .ok (.invokevirtual 74, 3) := dg_b35.2.2.1
theorem dX7_text_7 : decode cX7_text 7 = .ok (.istore_n 1, 1) := dg_b35.2.2.2.1
theorem dX7_text_8 : decode cX7_text 8 = .ok (.aload_n 0, 1) := dg_b35.2.2.2.2.1
theorem dX7_text_9 : decode cX7_text 9 = .ok (.getfield 10, 3) := dg_b35.2.2.2.2.2.1
theorem dX7_text_12 : decode cX7_text 12 = .ok (.iconst 0, 1) := dg_b35.2.2.2.2.2.2.1
theorem dX7_text_13 : decode cX7_text 13 = .ok (.putfield 70, 3) := dg_b35.2.2.2.2.2.2.2.1
theorem dX7_text_16 : decode cX7_text 16 = .ok (.aload_n 0, 1) := dg_b35.2.2.2.2.2.2.2.2.1
theorem dX7_text_17 : decode cX7_text 17 = .ok (.aload_n 0, 1) := dg_b35.2.2.2.2.2.2.2.2.2.1
theorem dX7_text_18 : decode cX7_text 18 = .ok (.getfield 10, 3) := dg_b35.2.2.2.2.2.2.2.2.2.2.1
theorem dX7_text_21 : decode cX7_text 21 = .ok (.getfield 78, 3) := dg_b35.2.2.2.2.2.2.2.2.2.2.2.1
theorem dX7_text_24 : decode cX7_text 24 = .ok (.putfield 81, 3) := dg_b35.2.2.2.2.2.2.2.2.2.2.2.2.1
theorem dX7_text_27 : decode cX7_text 27 = .ok (.aload_n 0, 1) := dg_b35.2.2.2.2.2.2.2.2.2.2.2.2.2.1
theorem dX7_text_28 : decode cX7_text 28 = .ok (.getfield 81, 3) := dg_b35.2.2.2.2.2.2.2.2.2.2.2.2.2.2.1
theorem dX7_text_31 : decode cX7_text 31 = .ok (.ifCond .eq 14, 3) := dg_b35.2.2.2.2.2.2.2.2.2.2.2.2.2.2.2
theorem dg_b36 : (decode cX7_text 34 = .ok (.bipush (-10), 2)) ∧ (decode cX7_text 36 = .ok (.aload_n 0, 1)) ∧ (decode cX7_text 37 = .ok (.getfield 10, 3)) ∧ (decode cX7_text 40 = .ok (.getfield 84, 3)) ∧ (decode cX7_text 43 = .ok (.isub, 1)) ∧ (decode cX7_text 44 = .ok (.ireturn, 1)) ∧ (decode cX7_text 45 = .ok (.aload_n 0, 1)) ∧ (decode cX7_text 46 = .ok (.getfield 19, 3)) ∧ (decode cX7_text 49 = .ok (.aload_n 0, 1)) ∧ (decode cX7_text 50 = .ok (.getfield 10, 3)) ∧ (decode cX7_text 53 = .ok (.getfield 87, 3)) ∧ (decode cX7_text 56 = .ok (.invokevirtual 90, 3)) ∧ (decode cX7_text 59 = .ok (.iconst 0, 1)) ∧ (decode cX7_text 60 = .ok (.istore_n 2, 1)) ∧ (decode cX7_text 61 = .ok (.iload_n 2, 1)) ∧ (decode cX7_text 62 = .ok (.iconst 2, 1)) := by decide +kernel
theorem dX7_text_34 : decode cX7_text 34 = .ok (.bipush (-10), 2) := dg_b36.1
theorem dX7_text_36 : decode cX7_text 36 = .ok (.aload_n 0, 1) := dg_b36.2.1
theorem dX7_text_37 : decode cX7_text 37 = .ok (.getfield 10, 3) := dg_b36.2.2.1
theorem dX7_text_40 : decode cX7_text 40 = .ok (.getfield 84, 3) := dg_b36.2.2.2.1
theorem dX7_text_43 : decode cX7_text 43 = .ok (.isub, 1) := dg_b36.2.2.2.2.1
theorem dX7_text_44 : decode cX7_text 44 = .ok (.ireturn, 1) := dg_b36.2.2.2.2.2.1
theorem dX7_text_45 : decode cX7_text 45 = .ok (.aload_n 0, 1) := dg_b36.2.2.2.2.2.2.1
theorem dX7_text_46 : decode cX7_text 46 = .ok (.getfield 19, 3) := dg_b36.2.2.2.2.2.2.2.1
theorem dX7_text_49 : decode cX7_text 49 = .ok (.aload_n 0, 1) := dg_b36.2.2.2.2.2.2.2.2.1
theorem dX7_text_50 : decode cX7_text 50 = .ok (.getfield 10, 3) := dg_b36.2.2.2.2.2.2.2.2.2.1
theorem dX7_text_53 : decode cX7_text 53 = .ok (.getfield 87, 3) := dg_b36.2.2.2.2.2.2.2.2.2.2.1
theorem dX7_text_56 : decode cX7_text 56 = .ok (.invokevirtual 90, 3) := dg_b36.2.2.2.2.2.2.2.2.2.2.2.1
theorem dX7_text_59 : decode cX7_text 59 = .ok (.iconst 0, 1) := dg_b36.2.2.2.2.2.2.2.2.2.2.2.2.1
theorem dX7_text_60 : decode cX7_text 60 = .ok (.istore_n 2, 1) := dg_b36.2.2.2.2.2.2.2.2.2.2.2.2.2.1
theorem dX7_text_61 : decode cX7_text 61 = .ok (.iload_n 2, 1) := dg_b36.2.2.2.2.2.2.2.2.2.2.2.2.2.2.1
theorem dX7_text_62 : decode cX7_text 62 = .ok (.iconst 2, 1) := dg_b36.2.2.2.2.2.2.2.2.2.2.2.2.2.2.2
theorem dg_b37 : (decode cX7_text 63 = .ok (.if_icmp .ge 16, 3)) ∧ (decode cX7_text 66 = .ok (.aload_n 0, 1)) ∧ (decode cX7_text 67 = .ok (.getfield 55, 3)) ∧ (decode cX7_text 70 = .ok (.iload_n 2, 1)) ∧ (decode cX7_text 71 = .ok (.iconst 0, 1)) ∧ (decode cX7_text 72 = .ok (.bastore, 1)) ∧ (decode cX7_text 73 = .ok (.iinc 2 1, 3)) ∧ (decode cX7_text 76 = .ok (.goto (-15), 3)) ∧ (decode cX7_text 79 = .ok (.iload_n 1, 1)) ∧ (decode cX7_text 80 = .ok (.ireturn, 1)) := by decide +kernel
theorem dX7_text_63 : decode cX7_text 63 = .ok (.if_icmp .ge 16, 3) := dg_b37.1
theorem dX7_text_66 : decode cX7_text 66 = .ok (.aload_n 0, 1) := dg_b37.2.1
theorem dX7_text_67 : decode cX7_text 67 = .ok (.getfield 55, 3) := dg_b37.2.2.1
theorem dX7_text_70 : decode cX7_text 70 = .ok (.iload_n 2, 1) := dg_b37.2.2.2.1
theorem dX7_text_71 : decode cX7_text 71 = .ok (.iconst 0, 1) := dg_b37.2.2.2.2.1
theorem dX7_text_72 : decode cX7_text 72 = .ok (.bastore, 1) := dg_b37.2.2.2.2.2.1
theorem dX7_text_73 : decode cX7_text 73 = .ok (.iinc 2 1, 3) := dg_b37.2.2.2.2.2.2.1
theorem dX7_text_76 : decode cX7_text 76 = .ok (.goto (-15), 3) := dg_b37.2.2.2.2.2.2.2.1
theorem dX7_text_79 : decode cX7_text 79 = .ok (.iload_n 1, 1) := dg_b37.2.2.2.2.2.2.2.2.1
theorem dX7_text_80 : decode cX7_text 80 = .ok (.ireturn, 1) := dg_b37.2.2.2.2.2.2.2.2.2
theorem dg_b38 : (decode cX7_fault 0 = .ok (.aload_n 0, 1)) ∧ (decode cX7_fault 1 = .ok (.getfield 81, 3)) ∧ (decode cX7_fault 4 = .ok (.ireturn, 1)) := by decide +kernel
theorem dX7_fault_0 : decode cX7_fault 0 = .ok (.aload_n 0, 1) := dg_b38.1
theorem dX7_fault_1 : decode cX7_fault 1 = .ok (.getfield 81, 3) := dg_b38.2.1
theorem dX7_fault_4 : decode cX7_fault 4 = .ok (.ireturn, 1) := dg_b38.2.2
theorem dg_b39 : (decode cX7_rule 0 = .ok (.iload_n 1, 1)) ∧ (decode cX7_rule 1 = .ok (.tableswitch 197 0 12 #[67, 75, 83, 91, 99, 107, 115, 126, 134, 145, 156, 171, 189], 67)) ∧ (decode cX7_rule 68 = .ok (.aload_n 0, 1)) ∧ (decode cX7_rule 69 = .ok (.getfield 19, 3)) ∧ (decode cX7_rule 72 = .ok (.getfield 94, 3)) ∧ (decode cX7_rule 75 = .ok (.ireturn, 1)) ∧ (decode cX7_rule 76 = .ok (.aload_n 0, 1)) ∧ (decode cX7_rule 77 = .ok (.getfield 19, 3)) ∧ (decode cX7_rule 80 = .ok (.getfield 97, 3)) ∧ (decode cX7_rule 83 = .ok (.ireturn, 1)) ∧ (decode cX7_rule 84 = .ok (.aload_n 0, 1)) ∧ (decode cX7_rule 85 = .ok (.getfield 19, 3)) ∧ (decode cX7_rule 88 = .ok (.getfield 100, 3)) ∧ (decode cX7_rule 91 = .ok (.ireturn, 1)) ∧ (decode cX7_rule 92 = .ok (.aload_n 0, 1)) ∧ (decode cX7_rule 93 = .ok (.getfield 19, 3)) := by decide +kernel
theorem dX7_rule_0 : decode cX7_rule 0 = .ok (.iload_n 1, 1) := dg_b39.1
theorem dX7_rule_1 : decode cX7_rule 1 = .ok (.tableswitch 197 0 12 #[67, 75, 83, 91, 99, 107, 115, 126, 134, 145, 156, 171, 189], 67) := dg_b39.2.1
theorem dX7_rule_68 : decode cX7_rule 68 = .ok (.aload_n 0, 1) := dg_b39.2.2.1
theorem dX7_rule_69 : decode cX7_rule 69 = .ok (.getfield 19, 3) := dg_b39.2.2.2.1
theorem dX7_rule_72 : decode cX7_rule 72 = .ok (.getfield 94, 3) := dg_b39.2.2.2.2.1
theorem dX7_rule_75 : decode cX7_rule 75 = .ok (.ireturn, 1) := dg_b39.2.2.2.2.2.1
theorem dX7_rule_76 : decode cX7_rule 76 = .ok (.aload_n 0, 1) := dg_b39.2.2.2.2.2.2.1
theorem dX7_rule_77 : decode cX7_rule 77 = .ok (.getfield 19, 3) := dg_b39.2.2.2.2.2.2.2.1
theorem dX7_rule_80 : decode cX7_rule 80 = .ok (.getfield 97, 3) := dg_b39.2.2.2.2.2.2.2.2.1
theorem dX7_rule_83 : decode cX7_rule 83 = .ok (.ireturn, 1) := dg_b39.2.2.2.2.2.2.2.2.2.1
theorem dX7_rule_84 : decode cX7_rule 84 = .ok (.aload_n 0, 1) := dg_b39.2.2.2.2.2.2.2.2.2.2.1
theorem dX7_rule_85 : decode cX7_rule 85 = .ok (.getfield 19, 3) := dg_b39.2.2.2.2.2.2.2.2.2.2.2.1
theorem dX7_rule_88 : decode cX7_rule 88 = .ok (.getfield 100, 3) := dg_b39.2.2.2.2.2.2.2.2.2.2.2.2.1
theorem dX7_rule_91 : decode cX7_rule 91 = .ok (.ireturn, 1) := dg_b39.2.2.2.2.2.2.2.2.2.2.2.2.2.1
theorem dX7_rule_92 : decode cX7_rule 92 = .ok (.aload_n 0, 1) := dg_b39.2.2.2.2.2.2.2.2.2.2.2.2.2.2.1
theorem dX7_rule_93 : decode cX7_rule 93 = .ok (.getfield 19, 3) := dg_b39.2.2.2.2.2.2.2.2.2.2.2.2.2.2.2
theorem dg_b40 : (decode cX7_rule 96 = .ok (.getfield 103, 3)) ∧ (decode cX7_rule 99 = .ok (.ireturn, 1)) ∧ (decode cX7_rule 100 = .ok (.aload_n 0, 1)) ∧ (decode cX7_rule 101 = .ok (.getfield 19, 3)) ∧ (decode cX7_rule 104 = .ok (.getfield 106, 3)) ∧ (decode cX7_rule 107 = .ok (.ireturn, 1)) ∧ (decode cX7_rule 108 = .ok (.aload_n 0, 1)) ∧ (decode cX7_rule 109 = .ok (.getfield 19, 3)) ∧ (decode cX7_rule 112 = .ok (.getfield 109, 3)) ∧ (decode cX7_rule 115 = .ok (.ireturn, 1)) ∧ (decode cX7_rule 116 = .ok (.aload_n 0, 1)) ∧ (decode cX7_rule 117 = .ok (.getfield 19, 3)) ∧ (decode cX7_rule 120 = .ok (.getfield 112, 3)) ∧ (decode cX7_rule 123 = .ok (.getfield 115, 3)) ∧ (decode cX7_rule 126 = .ok (.ireturn, 1)) ∧ (decode cX7_rule 127 = .ok (.aload_n 0, 1)) := by decide +kernel
theorem dX7_rule_96 : decode cX7_rule 96 = .ok (.getfield 103, 3) := dg_b40.1
theorem dX7_rule_99 : decode cX7_rule 99 = .ok (.ireturn, 1) := dg_b40.2.1
theorem dX7_rule_100 : decode cX7_rule 100 = .ok (.aload_n 0, 1) := dg_b40.2.2.1
theorem dX7_rule_101 : decode cX7_rule 101 = .ok (.getfield 19, 3) := dg_b40.2.2.2.1
theorem dX7_rule_104 : decode cX7_rule 104 = .ok (.getfield 106, 3) := dg_b40.2.2.2.2.1
theorem dX7_rule_107 : decode cX7_rule 107 = .ok (.ireturn, 1) := dg_b40.2.2.2.2.2.1
theorem dX7_rule_108 : decode cX7_rule 108 = .ok (.aload_n 0, 1) := dg_b40.2.2.2.2.2.2.1
theorem dX7_rule_109 : decode cX7_rule 109 = .ok (.getfield 19, 3) := dg_b40.2.2.2.2.2.2.2.1
theorem dX7_rule_112 : decode cX7_rule 112 = .ok (.getfield 109, 3) := dg_b40.2.2.2.2.2.2.2.2.1
theorem dX7_rule_115 : decode cX7_rule 115 = .ok (.ireturn, 1) := dg_b40.2.2.2.2.2.2.2.2.2.1
theorem dX7_rule_116 : decode cX7_rule 116 = .ok (.aload_n 0, 1) := dg_b40.2.2.2.2.2.2.2.2.2.2.1
theorem dX7_rule_117 : decode cX7_rule 117 = .ok (.getfield 19, 3) := dg_b40.2.2.2.2.2.2.2.2.2.2.2.1
theorem dX7_rule_120 : decode cX7_rule 120 = .ok (.getfield 112, 3) := dg_b40.2.2.2.2.2.2.2.2.2.2.2.2.1
theorem dX7_rule_123 : decode cX7_rule 123 = .ok (.getfield 115, 3) := dg_b40.2.2.2.2.2.2.2.2.2.2.2.2.2.1
theorem dX7_rule_126 : decode cX7_rule 126 = .ok (.ireturn, 1) := dg_b40.2.2.2.2.2.2.2.2.2.2.2.2.2.2.1
theorem dX7_rule_127 : decode cX7_rule 127 = .ok (.aload_n 0, 1) := dg_b40.2.2.2.2.2.2.2.2.2.2.2.2.2.2.2
theorem dg_b41 : (decode cX7_rule 128 = .ok (.getfield 19, 3)) ∧ (decode cX7_rule 131 = .ok (.getfield 118, 3)) ∧ (decode cX7_rule 134 = .ok (.ireturn, 1)) ∧ (decode cX7_rule 135 = .ok (.aload_n 0, 1)) ∧ (decode cX7_rule 136 = .ok (.getfield 19, 3)) ∧ (decode cX7_rule 139 = .ok (.getfield 112, 3)) ∧ (decode cX7_rule 142 = .ok (.getfield 121, 3)) ∧ (decode cX7_rule 145 = .ok (.ireturn, 1)) ∧ (decode cX7_rule 146 = .ok (.aload_n 0, 1)) ∧ (decode cX7_rule 147 = .ok (.getfield 19, 3)) ∧ (decode cX7_rule 150 = .ok (.getfield 112, 3)) ∧ (decode cX7_rule 153 = .ok (.getfield 124, 3)) ∧ (decode cX7_rule 156 = .ok (.ireturn, 1)) ∧ (decode cX7_rule 157 = .ok (.sipush 1000, 3)) ∧ (decode cX7_rule 160 = .ok (.aload_n 0, 1)) ∧ (decode cX7_rule 161 = .ok (.getfield 19, 3)) := by decide +kernel
theorem dX7_rule_128 : decode cX7_rule 128 = .ok (.getfield 19, 3) := dg_b41.1
theorem dX7_rule_131 : decode cX7_rule 131 = .ok (.getfield 118, 3) := dg_b41.2.1
theorem dX7_rule_134 : decode cX7_rule 134 = .ok (.ireturn, 1) := dg_b41.2.2.1
theorem dX7_rule_135 : decode cX7_rule 135 = .ok (.aload_n 0, 1) := dg_b41.2.2.2.1
theorem dX7_rule_136 : decode cX7_rule 136 = .ok (.getfield 19, 3) := dg_b41.2.2.2.2.1
theorem dX7_rule_139 : decode cX7_rule 139 = .ok (.getfield 112, 3) := dg_b41.2.2.2.2.2.1
theorem dX7_rule_142 : decode cX7_rule 142 = .ok (.getfield 121, 3) := dg_b41.2.2.2.2.2.2.1
theorem dX7_rule_145 : decode cX7_rule 145 = .ok (.ireturn, 1) := dg_b41.2.2.2.2.2.2.2.1
theorem dX7_rule_146 : decode cX7_rule 146 = .ok (.aload_n 0, 1) := dg_b41.2.2.2.2.2.2.2.2.1
theorem dX7_rule_147 : decode cX7_rule 147 = .ok (.getfield 19, 3) := dg_b41.2.2.2.2.2.2.2.2.2.1
theorem dX7_rule_150 : decode cX7_rule 150 = .ok (.getfield 112, 3) := dg_b41.2.2.2.2.2.2.2.2.2.2.1
theorem dX7_rule_153 : decode cX7_rule 153 = .ok (.getfield 124, 3) := dg_b41.2.2.2.2.2.2.2.2.2.2.2.1
theorem dX7_rule_156 : decode cX7_rule 156 = .ok (.ireturn, 1) := dg_b41.2.2.2.2.2.2.2.2.2.2.2.2.1
theorem dX7_rule_157 : decode cX7_rule 157 = .ok (.sipush 1000, 3) := dg_b41.2.2.2.2.2.2.2.2.2.2.2.2.2.1
theorem dX7_rule_160 : decode cX7_rule 160 = .ok (.aload_n 0, 1) := dg_b41.2.2.2.2.2.2.2.2.2.2.2.2.2.2.1
theorem dX7_rule_161 : decode cX7_rule 161 = .ok (.getfield 19, 3) := dg_b41.2.2.2.2.2.2.2.2.2.2.2.2.2.2.2
theorem dg_b42 : (decode cX7_rule 164 = .ok (.getfield 112, 3)) ∧ (decode cX7_rule 167 = .ok (.getfield 127, 3)) ∧ (decode cX7_rule 170 = .ok (.iadd, 1)) ∧ (decode cX7_rule 171 = .ok (.ireturn, 1)) ∧ (decode cX7_rule 172 = .ok (.aload_n 0, 1)) ∧ (decode cX7_rule 173 = .ok (.getfield 19, 3)) ∧ (decode cX7_rule 176 = .ok (.aload_n 0, 1)) ∧ (decode cX7_rule 177 = .ok (.getfield 19, 3)) ∧ (decode cX7_rule 180 = .ok (.getfield 112, 3)) ∧ (decode cX7_rule 183 = .ok (.invokevirtual 130, 3)) ∧ (decode cX7_rule 186 = .ok (.invokestatic 134, 3)) ∧ (decode cX7_rule 189 = .ok (.ireturn, 1)) ∧ (decode cX7_rule 190 = .ok (.aload_n 0, 1)) ∧ (decode cX7_rule 191 = .ok (.getfield 19, 3)) ∧ (decode cX7_rule 194 = .ok (.getfield 138, 3)) ∧ (decode cX7_rule 197 = .ok (.ireturn, 1)) := by decide +kernel
theorem dX7_rule_164 : decode cX7_rule 164 = .ok (.getfield 112, 3) := dg_b42.1
theorem dX7_rule_167 : decode cX7_rule 167 = .ok (.getfield 127, 3) := dg_b42.2.1
theorem dX7_rule_170 : decode cX7_rule 170 = .ok (.iadd, 1) := dg_b42.2.2.1
theorem dX7_rule_171 : decode cX7_rule 171 = .ok (.ireturn, 1) := dg_b42.2.2.2.1
theorem dX7_rule_172 : decode cX7_rule 172 = .ok (.aload_n 0, 1) := dg_b42.2.2.2.2.1
theorem dX7_rule_173 : decode cX7_rule 173 = .ok (.getfield 19, 3) := dg_b42.2.2.2.2.2.1
theorem dX7_rule_176 : decode cX7_rule 176 = .ok (.aload_n 0, 1) := dg_b42.2.2.2.2.2.2.1
theorem dX7_rule_177 : decode cX7_rule 177 = .ok (.getfield 19, 3) := dg_b42.2.2.2.2.2.2.2.1
theorem dX7_rule_180 : decode cX7_rule 180 = .ok (.getfield 112, 3) := dg_b42.2.2.2.2.2.2.2.2.1
theorem dX7_rule_183 : decode cX7_rule 183 = .ok (.invokevirtual 130, 3) := dg_b42.2.2.2.2.2.2.2.2.2.1
theorem dX7_rule_186 : decode cX7_rule 186 = .ok (.invokestatic 134, 3) := dg_b42.2.2.2.2.2.2.2.2.2.2.1
theorem dX7_rule_189 : decode cX7_rule 189 = .ok (.ireturn, 1) := dg_b42.2.2.2.2.2.2.2.2.2.2.2.1
theorem dX7_rule_190 : decode cX7_rule 190 = .ok (.aload_n 0, 1) := dg_b42.2.2.2.2.2.2.2.2.2.2.2.2.1
theorem dX7_rule_191 : decode cX7_rule 191 = .ok (.getfield 19, 3) := dg_b42.2.2.2.2.2.2.2.2.2.2.2.2.2.1
theorem dX7_rule_194 : decode cX7_rule 194 = .ok (.getfield 138, 3) := dg_b42.2.2.2.2.2.2.2.2.2.2.2.2.2.2.1
theorem dX7_rule_197 : decode cX7_rule 197 = .ok (.ireturn, 1) := dg_b42.2.2.2.2.2.2.2.2.2.2.2.2.2.2.2
theorem dg_b43 : (decode cX7_rule 198 = .ok (.iconst (-1), 1)) ∧ (decode cX7_rule 199 = .ok (.ireturn, 1)) := by decide +kernel
theorem dX7_rule_198 : decode cX7_rule 198 = .ok (.iconst (-1), 1) := dg_b43.1
theorem dX7_rule_199 : decode cX7_rule 199 = .ok (.ireturn, 1) := dg_b43.2
theorem dg_b44 : (decode cX7_star 0 = .ok (.aload_n 0, 1)) ∧ (decode cX7_star 1 = .ok (.getfield 19, 3)) ∧ (decode cX7_star 4 = .ok (.iload_n 1, 1)) ∧ (decode cX7_star 5 = .ok (.invokevirtual 141, 3)) ∧ (decode cX7_star 8 = .ok (.ifCond .ne 5, 3)) ∧ (decode cX7_star 11 = .ok (.iconst (-1), 1)) ∧ (decode cX7_star 12 = .ok (.ireturn, 1)) ∧ (decode cX7_star 13 = .ok (.iload_n 2, 1)) ∧ (decode cX7_star 14 = .ok (.tableswitch 72 0 3 #[30, 40, 50, 60], 30)) ∧ (decode cX7_star 44 = .ok (.aload_n 0, 1)) ∧ (decode cX7_star 45 = .ok (.getfield 19, 3)) ∧ (decode cX7_star 48 = .ok (.getfield 144, 3)) ∧ (decode cX7_star 51 = .ok (.iload_n 1, 1)) ∧ (decode cX7_star 52 = .ok (.iaload, 1)) ∧ (decode cX7_star 53 = .ok (.ireturn, 1)) ∧ (decode cX7_star 54 = .ok (.aload_n 0, 1)) := by decide +kernel
theorem dX7_star_0 : decode cX7_star 0 = .ok (.aload_n 0, 1) := dg_b44.1
theorem dX7_star_1 : decode cX7_star 1 = .ok (.getfield 19, 3) := dg_b44.2.1
theorem dX7_star_4 : decode cX7_star 4 = .ok (.iload_n 1, 1) := dg_b44.2.2.1
theorem dX7_star_5 : decode cX7_star 5 = .ok (.invokevirtual 141, 3) := dg_b44.2.2.2.1
theorem dX7_star_8 : decode cX7_star 8 = .ok (.ifCond .ne 5, 3) := dg_b44.2.2.2.2.1
theorem dX7_star_11 : decode cX7_star 11 = .ok (.iconst (-1), 1) := dg_b44.2.2.2.2.2.1
theorem dX7_star_12 : decode cX7_star 12 = .ok (.ireturn, 1) := dg_b44.2.2.2.2.2.2.1
theorem dX7_star_13 : decode cX7_star 13 = .ok (.iload_n 2, 1) := dg_b44.2.2.2.2.2.2.2.1
theorem dX7_star_14 : decode cX7_star 14 = .ok (.tableswitch 72 0 3 #[30, 40, 50, 60], 30) := dg_b44.2.2.2.2.2.2.2.2.1
theorem dX7_star_44 : decode cX7_star 44 = .ok (.aload_n 0, 1) := dg_b44.2.2.2.2.2.2.2.2.2.1
theorem dX7_star_45 : decode cX7_star 45 = .ok (.getfield 19, 3) := dg_b44.2.2.2.2.2.2.2.2.2.2.1
theorem dX7_star_48 : decode cX7_star 48 = .ok (.getfield 144, 3) := dg_b44.2.2.2.2.2.2.2.2.2.2.2.1
theorem dX7_star_51 : decode cX7_star 51 = .ok (.iload_n 1, 1) := dg_b44.2.2.2.2.2.2.2.2.2.2.2.2.1
theorem dX7_star_52 : decode cX7_star 52 = .ok (.iaload, 1) := dg_b44.2.2.2.2.2.2.2.2.2.2.2.2.2.1
theorem dX7_star_53 : decode cX7_star 53 = .ok (.ireturn, 1) := dg_b44.2.2.2.2.2.2.2.2.2.2.2.2.2.2.1
theorem dX7_star_54 : decode cX7_star 54 = .ok (.aload_n 0, 1) := dg_b44.2.2.2.2.2.2.2.2.2.2.2.2.2.2.2
theorem dg_b45 : (decode cX7_star 55 = .ok (.getfield 19, 3)) ∧ (decode cX7_star 58 = .ok (.getfield 148, 3)) ∧ (decode cX7_star 61 = .ok (.iload_n 1, 1)) ∧ (decode cX7_star 62 = .ok (.iaload, 1)) ∧ (decode cX7_star 63 = .ok (.ireturn, 1)) ∧ (decode cX7_star 64 = .ok (.aload_n 0, 1)) ∧ (decode cX7_star 65 = .ok (.getfield 19, 3)) ∧ (decode cX7_star 68 = .ok (.getfield 151, 3)) ∧ (decode cX7_star 71 = .ok (.iload_n 1, 1)) ∧ (decode cX7_star 72 = .ok (.iaload, 1)) ∧ (decode cX7_star 73 = .ok (.ireturn, 1)) ∧ (decode cX7_star 74 = .ok (.aload_n 0, 1)) ∧ (decode cX7_star 75 = .ok (.getfield 19, 3)) ∧ (decode cX7_star 78 = .ok (.iload_n 1, 1)) ∧ (decode cX7_star 79 = .ok (.invokevirtual 154, 3)) ∧ (decode cX7_star 82 = .ok (.invokestatic 134, 3)) := by decide +kernel
theorem dX7_star_55 : decode cX7_star 55 = .ok (.getfield 19, 3) := dg_b45.1
theorem dX7_star_58 : decode cX7_star 58 = .ok (.getfield 148, 3) := dg_b45.2.1
theorem dX7_star_61 : decode cX7_star 61 = .ok (.iload_n 1, 1) := dg_b45.2.2.1
theorem dX7_star_62 : decode cX7_star 62 = .ok (.iaload, 1) := dg_b45.2.2.2.1
theorem dX7_star_63 : decode cX7_star 63 = .ok (.ireturn, 1) := dg_b45.2.2.2.2.1
theorem dX7_star_64 : decode cX7_star 64 = .ok (.aload_n 0, 1) := dg_b45.2.2.2.2.2.1
theorem dX7_star_65 : decode cX7_star 65 = .ok (.getfield 19, 3) := dg_b45.2.2.2.2.2.2.1
theorem dX7_star_68 : decode cX7_star 68 = .ok (.getfield 151, 3) := dg_b45.2.2.2.2.2.2.2.1
theorem dX7_star_71 : decode cX7_star 71 = .ok (.iload_n 1, 1) := dg_b45.2.2.2.2.2.2.2.2.1
theorem dX7_star_72 : decode cX7_star 72 = .ok (.iaload, 1) := dg_b45.2.2.2.2.2.2.2.2.2.1
theorem dX7_star_73 : decode cX7_star 73 = .ok (.ireturn, 1) := dg_b45.2.2.2.2.2.2.2.2.2.2.1
theorem dX7_star_74 : decode cX7_star 74 = .ok (.aload_n 0, 1) := dg_b45.2.2.2.2.2.2.2.2.2.2.2.1
theorem dX7_star_75 : decode cX7_star 75 = .ok (.getfield 19, 3) := dg_b45.2.2.2.2.2.2.2.2.2.2.2.2.1
theorem dX7_star_78 : decode cX7_star 78 = .ok (.iload_n 1, 1) := dg_b45.2.2.2.2.2.2.2.2.2.2.2.2.2.1
theorem dX7_star_79 : decode cX7_star 79 = .ok (.invokevirtual 154, 3) := dg_b45.2.2.2.2.2.2.2.2.2.2.2.2.2.2.1
theorem dX7_star_82 : decode cX7_star 82 = .ok (.invokestatic 134, 3) := dg_b45.2.2.2.2.2.2.2.2.2.2.2.2.2.2.2
theorem dg_b46 : (decode cX7_star 85 = .ok (.ireturn, 1)) ∧ (decode cX7_star 86 = .ok (.iconst (-1), 1)) ∧ (decode cX7_star 87 = .ok (.ireturn, 1)) := by decide +kernel
theorem dX7_star_85 : decode cX7_star 85 = .ok (.ireturn, 1) := dg_b46.1
theorem dX7_star_86 : decode cX7_star 86 = .ok (.iconst (-1), 1) := dg_b46.2.1
theorem dX7_star_87 : decode cX7_star 87 = .ok (.ireturn, 1) := dg_b46.2.2
theorem dg_b47 : (decode cX7_walker 0 = .ok (.aload_n 0, 1)) ∧ (decode cX7_walker 1 = .ok (.getfield 19, 3)) ∧ (decode cX7_walker 4 = .ok (.iload_n 1, 1)) ∧ (decode cX7_walker 5 = .ok (.invokevirtual 157, 3)) ∧ (decode cX7_walker 8 = .ok (.ifCond .eq 15, 3)) ∧ (decode cX7_walker 11 = .ok (.aload_n 0, 1)) ∧ (decode cX7_walker 12 = .ok (.getfield 19, 3)) ∧ (decode cX7_walker 15 = .ok (.getfield 160, 3)) ∧ (decode cX7_walker 18 = .ok (.iload_n 1, 1)) ∧ (decode cX7_walker 19 = .ok (.iaload, 1)) ∧ (decode cX7_walker 20 = .ok (.goto 4, 3)) ∧ (decode cX7_walker 23 = .ok (.iconst (-1), 1)) ∧ (decode cX7_walker 24 = .ok (.ireturn, 1)) := by decide +kernel
theorem dX7_walker_0 : decode cX7_walker 0 = .ok (.aload_n 0, 1) := dg_b47.1
theorem dX7_walker_1 : decode cX7_walker 1 = .ok (.getfield 19, 3) := dg_b47.2.1
theorem dX7_walker_4 : decode cX7_walker 4 = .ok (.iload_n 1, 1) := dg_b47.2.2.1
theorem dX7_walker_5 : decode cX7_walker 5 = .ok (.invokevirtual 157, 3) := dg_b47.2.2.2.1
theorem dX7_walker_8 : decode cX7_walker 8 = .ok (.ifCond .eq 15, 3) := dg_b47.2.2.2.2.1
theorem dX7_walker_11 : decode cX7_walker 11 = .ok (.aload_n 0, 1) := dg_b47.2.2.2.2.2.1
theorem dX7_walker_12 : decode cX7_walker 12 = .ok (.getfield 19, 3) := dg_b47.2.2.2.2.2.2.1
theorem dX7_walker_15 : decode cX7_walker 15 = .ok (.getfield 160, 3) := dg_b47.2.2.2.2.2.2.2.1
theorem dX7_walker_18 : decode cX7_walker 18 = .ok (.iload_n 1, 1) := dg_b47.2.2.2.2.2.2.2.2.1
theorem dX7_walker_19 : decode cX7_walker 19 = .ok (.iaload, 1) := dg_b47.2.2.2.2.2.2.2.2.2.1
theorem dX7_walker_20 : decode cX7_walker 20 = .ok (.goto 4, 3) := dg_b47.2.2.2.2.2.2.2.2.2.2.1
theorem dX7_walker_23 : decode cX7_walker 23 = .ok (.iconst (-1), 1) := dg_b47.2.2.2.2.2.2.2.2.2.2.2.1
theorem dX7_walker_24 : decode cX7_walker 24 = .ok (.ireturn, 1) := dg_b47.2.2.2.2.2.2.2.2.2.2.2.2
theorem dg_b48 : (decode cX7_plan 0 = .ok (.aload_n 0, 1)) ∧ (decode cX7_plan 1 = .ok (.getfield 19, 3)) ∧ (decode cX7_plan 4 = .ok (.iload_n 1, 1)) ∧ (decode cX7_plan 5 = .ok (.invokevirtual 163, 3)) ∧ (decode cX7_plan 8 = .ok (.ifCond .eq 15, 3)) ∧ (decode cX7_plan 11 = .ok (.aload_n 0, 1)) ∧ (decode cX7_plan 12 = .ok (.getfield 19, 3)) ∧ (decode cX7_plan 15 = .ok (.getfield 166, 3)) ∧ (decode cX7_plan 18 = .ok (.iload_n 1, 1)) ∧ (decode cX7_plan 19 = .ok (.iaload, 1)) ∧ (decode cX7_plan 20 = .ok (.goto 4, 3)) ∧ (decode cX7_plan 23 = .ok (.iconst (-1), 1)) ∧ (decode cX7_plan 24 = .ok (.ireturn, 1)) := by decide +kernel
theorem dX7_plan_0 : decode cX7_plan 0 = .ok (.aload_n 0, 1) := dg_b48.1
theorem dX7_plan_1 : decode cX7_plan 1 = .ok (.getfield 19, 3) := dg_b48.2.1
theorem dX7_plan_4 : decode cX7_plan 4 = .ok (.iload_n 1, 1) := dg_b48.2.2.1
theorem dX7_plan_5 : decode cX7_plan 5 = .ok (.invokevirtual 163, 3) := dg_b48.2.2.2.1
theorem dX7_plan_8 : decode cX7_plan 8 = .ok (.ifCond .eq 15, 3) := dg_b48.2.2.2.2.1
theorem dX7_plan_11 : decode cX7_plan 11 = .ok (.aload_n 0, 1) := dg_b48.2.2.2.2.2.1
theorem dX7_plan_12 : decode cX7_plan 12 = .ok (.getfield 19, 3) := dg_b48.2.2.2.2.2.2.1
theorem dX7_plan_15 : decode cX7_plan 15 = .ok (.getfield 166, 3) := dg_b48.2.2.2.2.2.2.2.1
theorem dX7_plan_18 : decode cX7_plan 18 = .ok (.iload_n 1, 1) := dg_b48.2.2.2.2.2.2.2.2.1
theorem dX7_plan_19 : decode cX7_plan 19 = .ok (.iaload, 1) := dg_b48.2.2.2.2.2.2.2.2.2.1
theorem dX7_plan_20 : decode cX7_plan 20 = .ok (.goto 4, 3) := dg_b48.2.2.2.2.2.2.2.2.2.2.1
theorem dX7_plan_23 : decode cX7_plan 23 = .ok (.iconst (-1), 1) := dg_b48.2.2.2.2.2.2.2.2.2.2.2.1
theorem dX7_plan_24 : decode cX7_plan 24 = .ok (.ireturn, 1) := dg_b48.2.2.2.2.2.2.2.2.2.2.2.2
theorem dg_b49 : (decode cX7_set 0 = .ok (.iload_n 1, 1)) ∧ (decode cX7_set 1 = .ok (.iconst 2, 1)) ∧ (decode cX7_set 2 = .ok (.if_icmp .lt 18, 3)) ∧ (decode cX7_set 5 = .ok (.iload_n 1, 1)) ∧ (decode cX7_set 6 = .ok (.bipush 6, 2)) ∧ (decode cX7_set 8 = .ok (.if_icmp .gt 12, 3)) ∧ (decode cX7_set 11 = .ok (.aload_n 0, 1)) ∧ (decode cX7_set 12 = .ok (.iload_n 1, 1)) ∧ (decode cX7_set 13 = .ok (.iload_n 2, 1)) ∧ (decode cX7_set 14 = .ok (.invokevirtual 169, 3)) ∧ (decode cX7_set 17 = .ok (.ifCond .ne 5, 3)) ∧ (decode cX7_set 20 = .ok (.iconst (-1), 1)) ∧ (decode cX7_set 21 = .ok (.ireturn, 1)) ∧ (decode cX7_set 22 = .ok (.aload_n 0, 1)) ∧ (decode cX7_set 23 = .ok (.iload_n 1, 1)) ∧ (decode cX7_set 24 = .ok (.invokevirtual 173, 3)) := by decide +kernel
theorem dX7_set_0 : decode cX7_set 0 = .ok (.iload_n 1, 1) := dg_b49.1
theorem dX7_set_1 : decode cX7_set 1 = .ok (.iconst 2, 1) := dg_b49.2.1
theorem dX7_set_2 : decode cX7_set 2 = .ok (.if_icmp .lt 18, 3) := dg_b49.2.2.1
theorem dX7_set_5 : decode cX7_set 5 = .ok (.iload_n 1, 1) := dg_b49.2.2.2.1
theorem dX7_set_6 : decode cX7_set 6 = .ok (.bipush 6, 2) := dg_b49.2.2.2.2.1
theorem dX7_set_8 : decode cX7_set 8 = .ok (.if_icmp .gt 12, 3) := dg_b49.2.2.2.2.2.1
theorem dX7_set_11 : decode cX7_set 11 = .ok (.aload_n 0, 1) := dg_b49.2.2.2.2.2.2.1
theorem dX7_set_12 : decode cX7_set 12 = .ok (.iload_n 1, 1) := dg_b49.2.2.2.2.2.2.2.1
theorem dX7_set_13 : decode cX7_set 13 = .ok (.iload_n 2, 1) := dg_b49.2.2.2.2.2.2.2.2.1
theorem dX7_set_14 : decode cX7_set 14 = .ok (.invokevirtual 169, 3) := dg_b49.2.2.2.2.2.2.2.2.2.1
theorem dX7_set_17 : decode cX7_set 17 = .ok (.ifCond .ne 5, 3) := dg_b49.2.2.2.2.2.2.2.2.2.2.1
theorem dX7_set_20 : decode cX7_set 20 = .ok (.iconst (-1), 1) := dg_b49.2.2.2.2.2.2.2.2.2.2.2.1
theorem dX7_set_21 : decode cX7_set 21 = .ok (.ireturn, 1) := dg_b49.2.2.2.2.2.2.2.2.2.2.2.2.1
theorem dX7_set_22 : decode cX7_set 22 = .ok (.aload_n 0, 1) := dg_b49.2.2.2.2.2.2.2.2.2.2.2.2.2.1
theorem dX7_set_23 : decode cX7_set 23 = .ok (.iload_n 1, 1) := dg_b49.2.2.2.2.2.2.2.2.2.2.2.2.2.2.1
theorem dX7_set_24 : decode cX7_set 24 = .ok (.invokevirtual 173, 3) := dg_b49.2.2.2.2.2.2.2.2.2.2.2.2.2.2.2
theorem dg_b50 : (decode cX7_set 27 = .ok (.istore_n 3, 1)) ∧ (decode cX7_set 28 = .ok (.iload_n 1, 1)) ∧ (decode cX7_set 29 = .ok (.tableswitch 75 2 5 #[31, 42, 53, 64], 31)) ∧ (decode cX7_set 60 = .ok (.aload_n 0, 1)) ∧ (decode cX7_set 61 = .ok (.getfield 19, 3)) ∧ (decode cX7_set 64 = .ok (.iload_n 2, 1)) ∧ (decode cX7_set 65 = .ok (.putfield 100, 3)) ∧ (decode cX7_set 68 = .ok (.goto 47, 3)) ∧ (decode cX7_set 71 = .ok (.aload_n 0, 1)) ∧ (decode cX7_set 72 = .ok (.getfield 19, 3)) ∧ (decode cX7_set 75 = .ok (.iload_n 2, 1)) ∧ (decode cX7_set 76 = .ok (.putfield 103, 3)) ∧ (decode cX7_set 79 = .ok (.goto 36, 3)) ∧ (decode cX7_set 82 = .ok (.aload_n 0, 1)) ∧ (decode cX7_set 83 = .ok (.getfield 19, 3)) ∧ (decode cX7_set 86 = .ok (.iload_n 2, 1)) := by decide +kernel
theorem dX7_set_27 : decode cX7_set 27 = .ok (.istore_n 3, 1) := dg_b50.1
theorem dX7_set_28 : decode cX7_set 28 = .ok (.iload_n 1, 1) := dg_b50.2.1
theorem dX7_set_29 : decode cX7_set 29 = .ok (.tableswitch 75 2 5 #[31, 42, 53, 64], 31) := dg_b50.2.2.1
theorem dX7_set_60 : decode cX7_set 60 = .ok (.aload_n 0, 1) := dg_b50.2.2.2.1
theorem dX7_set_61 : decode cX7_set 61 = .ok (.getfield 19, 3) := dg_b50.2.2.2.2.1
theorem dX7_set_64 : decode cX7_set 64 = .ok (.iload_n 2, 1) := dg_b50.2.2.2.2.2.1
theorem dX7_set_65 : decode cX7_set 65 = .ok (.putfield 100, 3) := dg_b50.2.2.2.2.2.2.1
theorem dX7_set_68 : decode cX7_set 68 = .ok (.goto 47, 3) := dg_b50.2.2.2.2.2.2.2.1
theorem dX7_set_71 : decode cX7_set 71 = .ok (.aload_n 0, 1) := dg_b50.2.2.2.2.2.2.2.2.1
theorem dX7_set_72 : decode cX7_set 72 = .ok (.getfield 19, 3) := dg_b50.2.2.2.2.2.2.2.2.2.1
theorem dX7_set_75 : decode cX7_set 75 = .ok (.iload_n 2, 1) := dg_b50.2.2.2.2.2.2.2.2.2.2.1
theorem dX7_set_76 : decode cX7_set 76 = .ok (.putfield 103, 3) := dg_b50.2.2.2.2.2.2.2.2.2.2.2.1
theorem dX7_set_79 : decode cX7_set 79 = .ok (.goto 36, 3) := dg_b50.2.2.2.2.2.2.2.2.2.2.2.2.1
theorem dX7_set_82 : decode cX7_set 82 = .ok (.aload_n 0, 1) := dg_b50.2.2.2.2.2.2.2.2.2.2.2.2.2.1
theorem dX7_set_83 : decode cX7_set 83 = .ok (.getfield 19, 3) := dg_b50.2.2.2.2.2.2.2.2.2.2.2.2.2.2.1
theorem dX7_set_86 : decode cX7_set 86 = .ok (.iload_n 2, 1) := dg_b50.2.2.2.2.2.2.2.2.2.2.2.2.2.2.2
theorem dg_b51 : (decode cX7_set 87 = .ok (.putfield 106, 3)) ∧ (decode cX7_set 90 = .ok (.goto 25, 3)) ∧ (decode cX7_set 93 = .ok (.aload_n 0, 1)) ∧ (decode cX7_set 94 = .ok (.getfield 19, 3)) ∧ (decode cX7_set 97 = .ok (.iload_n 2, 1)) ∧ (decode cX7_set 98 = .ok (.putfield 109, 3)) ∧ (decode cX7_set 101 = .ok (.goto 14, 3)) ∧ (decode cX7_set 104 = .ok (.aload_n 0, 1)) ∧ (decode cX7_set 105 = .ok (.getfield 19, 3)) ∧ (decode cX7_set 108 = .ok (.getfield 112, 3)) ∧ (decode cX7_set 111 = .ok (.iload_n 2, 1)) ∧ (decode cX7_set 112 = .ok (.putfield 115, 3)) ∧ (decode cX7_set 115 = .ok (.iload_n 3, 1)) ∧ (decode cX7_set 116 = .ok (.ireturn, 1)) := by decide +kernel
theorem dX7_set_87 : decode cX7_set 87 = .ok (.putfield 106, 3) := dg_b51.1
theorem dX7_set_90 : decode cX7_set 90 = .ok (.goto 25, 3) := dg_b51.2.1
theorem dX7_set_93 : decode cX7_set 93 = .ok (.aload_n 0, 1) := dg_b51.2.2.1
theorem dX7_set_94 : decode cX7_set 94 = .ok (.getfield 19, 3) := dg_b51.2.2.2.1
theorem dX7_set_97 : decode cX7_set 97 = .ok (.iload_n 2, 1) := dg_b51.2.2.2.2.1
theorem dX7_set_98 : decode cX7_set 98 = .ok (.putfield 109, 3) := dg_b51.2.2.2.2.2.1
theorem dX7_set_101 : decode cX7_set 101 = .ok (.goto 14, 3) := dg_b51.2.2.2.2.2.2.1
theorem dX7_set_104 : decode cX7_set 104 = .ok (.aload_n 0, 1) := dg_b51.2.2.2.2.2.2.2.1
theorem dX7_set_105 : decode cX7_set 105 = .ok (.getfield 19, 3) := dg_b51.2.2.2.2.2.2.2.2.1
theorem dX7_set_108 : decode cX7_set 108 = .ok (.getfield 112, 3) := dg_b51.2.2.2.2.2.2.2.2.2.1
theorem dX7_set_111 : decode cX7_set 111 = .ok (.iload_n 2, 1) := dg_b51.2.2.2.2.2.2.2.2.2.2.1
theorem dX7_set_112 : decode cX7_set 112 = .ok (.putfield 115, 3) := dg_b51.2.2.2.2.2.2.2.2.2.2.2.1
theorem dX7_set_115 : decode cX7_set 115 = .ok (.iload_n 3, 1) := dg_b51.2.2.2.2.2.2.2.2.2.2.2.2.1
theorem dX7_set_116 : decode cX7_set 116 = .ok (.ireturn, 1) := dg_b51.2.2.2.2.2.2.2.2.2.2.2.2.2
theorem dg_b52 : (decode cX7_mayBeSet 0 = .ok (.iload_n 1, 1)) ∧ (decode cX7_mayBeSet 1 = .ok (.tableswitch 89 2 5 #[31, 40, 57, 73], 31)) ∧ (decode cX7_mayBeSet 32 = .ok (.aload_n 0, 1)) ∧ (decode cX7_mayBeSet 33 = .ok (.getfield 19, 3)) ∧ (decode cX7_mayBeSet 36 = .ok (.iload_n 2, 1)) ∧ (decode cX7_mayBeSet 37 = .ok (.invokevirtual 157, 3)) ∧ (decode cX7_mayBeSet 40 = .ok (.ireturn, 1)) ∧ (decode cX7_mayBeSet 41 = .ok (.iload_n 2, 1)) ∧ (decode cX7_mayBeSet 42 = .ok (.iconst 1, 1)) ∧ (decode cX7_mayBeSet 43 = .ok (.if_icmp .lt 13, 3)) ∧ (decode cX7_mayBeSet 46 = .ok (.iload_n 2, 1)) ∧ (decode cX7_mayBeSet 47 = .ok (.bipush 40, 2)) ∧ (decode cX7_mayBeSet 49 = .ok (.if_icmp .gt 7, 3)) ∧ (decode cX7_mayBeSet 52 = .ok (.iconst 1, 1)) ∧ (decode cX7_mayBeSet 53 = .ok (.goto 4, 3)) ∧ (decode cX7_mayBeSet 56 = .ok (.iconst 0, 1)) := by decide +kernel
theorem dX7_mayBeSet_0 : decode cX7_mayBeSet 0 = .ok (.iload_n 1, 1) := dg_b52.1
theorem dX7_mayBeSet_1 : decode cX7_mayBeSet 1 = .ok (.tableswitch 89 2 5 #[31, 40, 57, 73], 31) := dg_b52.2.1
theorem dX7_mayBeSet_32 : decode cX7_mayBeSet 32 = .ok (.aload_n 0, 1) := dg_b52.2.2.1
theorem dX7_mayBeSet_33 : decode cX7_mayBeSet 33 = .ok (.getfield 19, 3) := dg_b52.2.2.2.1
theorem dX7_mayBeSet_36 : decode cX7_mayBeSet 36 = .ok (.iload_n 2, 1) := dg_b52.2.2.2.2.1
theorem dX7_mayBeSet_37 : decode cX7_mayBeSet 37 = .ok (.invokevirtual 157, 3) := dg_b52.2.2.2.2.2.1
theorem dX7_mayBeSet_40 : decode cX7_mayBeSet 40 = .ok (.ireturn, 1) := dg_b52.2.2.2.2.2.2.1
theorem dX7_mayBeSet_41 : decode cX7_mayBeSet 41 = .ok (.iload_n 2, 1) := dg_b52.2.2.2.2.2.2.2.1
theorem dX7_mayBeSet_42 : decode cX7_mayBeSet 42 = .ok (.iconst 1, 1) := dg_b52.2.2.2.2.2.2.2.2.1
theorem dX7_mayBeSet_43 : decode cX7_mayBeSet 43 = .ok (.if_icmp .lt 13, 3) := dg_b52.2.2.2.2.2.2.2.2.2.1
theorem dX7_mayBeSet_46 : decode cX7_mayBeSet 46 = .ok (.iload_n 2, 1) := dg_b52.2.2.2.2.2.2.2.2.2.2.1
theorem dX7_mayBeSet_47 : decode cX7_mayBeSet 47 = .ok (.bipush 40, 2) := dg_b52.2.2.2.2.2.2.2.2.2.2.2.1
theorem dX7_mayBeSet_49 : decode cX7_mayBeSet 49 = .ok (.if_icmp .gt 7, 3) := dg_b52.2.2.2.2.2.2.2.2.2.2.2.2.1
theorem dX7_mayBeSet_52 : decode cX7_mayBeSet 52 = .ok (.iconst 1, 1) := dg_b52.2.2.2.2.2.2.2.2.2.2.2.2.2.1
theorem dX7_mayBeSet_53 : decode cX7_mayBeSet 53 = .ok (.goto 4, 3) := dg_b52.2.2.2.2.2.2.2.2.2.2.2.2.2.2.1
theorem dX7_mayBeSet_56 : decode cX7_mayBeSet 56 = .ok (.iconst 0, 1) := dg_b52.2.2.2.2.2.2.2.2.2.2.2.2.2.2.2
theorem dg_b53 : (decode cX7_mayBeSet 57 = .ok (.ireturn, 1)) ∧ (decode cX7_mayBeSet 58 = .ok (.iload_n 2, 1)) ∧ (decode cX7_mayBeSet 59 = .ok (.ifCond .lt 13, 3)) ∧ (decode cX7_mayBeSet 62 = .ok (.iload_n 2, 1)) ∧ (decode cX7_mayBeSet 63 = .ok (.bipush 9, 2)) ∧ (decode cX7_mayBeSet 65 = .ok (.if_icmp .gt 7, 3)) ∧ (decode cX7_mayBeSet 68 = .ok (.iconst 1, 1)) ∧ (decode cX7_mayBeSet 69 = .ok (.goto 4, 3)) ∧ (decode cX7_mayBeSet 72 = .ok (.iconst 0, 1)) ∧ (decode cX7_mayBeSet 73 = .ok (.ireturn, 1)) ∧ (decode cX7_mayBeSet 74 = .ok (.iload_n 2, 1)) ∧ (decode cX7_mayBeSet 75 = .ok (.ifCond .lt 13, 3)) ∧ (decode cX7_mayBeSet 78 = .ok (.iload_n 2, 1)) ∧ (decode cX7_mayBeSet 79 = .ok (.bipush 10, 2)) ∧ (decode cX7_mayBeSet 81 = .ok (.if_icmp .gt 7, 3)) ∧ (decode cX7_mayBeSet 84 = .ok (.iconst 1, 1)) := by decide +kernel
theorem dX7_mayBeSet_57 : decode cX7_mayBeSet 57 = .ok (.ireturn, 1) := dg_b53.1
theorem dX7_mayBeSet_58 : decode cX7_mayBeSet 58 = .ok (.iload_n 2, 1) := dg_b53.2.1
theorem dX7_mayBeSet_59 : decode cX7_mayBeSet 59 = .ok (.ifCond .lt 13, 3) := dg_b53.2.2.1
theorem dX7_mayBeSet_62 : decode cX7_mayBeSet 62 = .ok (.iload_n 2, 1) := dg_b53.2.2.2.1
theorem dX7_mayBeSet_63 : decode cX7_mayBeSet 63 = .ok (.bipush 9, 2) := dg_b53.2.2.2.2.1
theorem dX7_mayBeSet_65 : decode cX7_mayBeSet 65 = .ok (.if_icmp .gt 7, 3) := dg_b53.2.2.2.2.2.1
theorem dX7_mayBeSet_68 : decode cX7_mayBeSet 68 = .ok (.iconst 1, 1) := dg_b53.2.2.2.2.2.2.1
theorem dX7_mayBeSet_69 : decode cX7_mayBeSet 69 = .ok (.goto 4, 3) := dg_b53.2.2.2.2.2.2.2.1
theorem dX7_mayBeSet_72 : decode cX7_mayBeSet 72 = .ok (.iconst 0, 1) := dg_b53.2.2.2.2.2.2.2.2.1
theorem dX7_mayBeSet_73 : decode cX7_mayBeSet 73 = .ok (.ireturn, 1) := dg_b53.2.2.2.2.2.2.2.2.2.1
theorem dX7_mayBeSet_74 : decode cX7_mayBeSet 74 = .ok (.iload_n 2, 1) := dg_b53.2.2.2.2.2.2.2.2.2.2.1
theorem dX7_mayBeSet_75 : decode cX7_mayBeSet 75 = .ok (.ifCond .lt 13, 3) := dg_b53.2.2.2.2.2.2.2.2.2.2.2.1
theorem dX7_mayBeSet_78 : decode cX7_mayBeSet 78 = .ok (.iload_n 2, 1) := dg_b53.2.2.2.2.2.2.2.2.2.2.2.2.1
theorem dX7_mayBeSet_79 : decode cX7_mayBeSet 79 = .ok (.bipush 10, 2) := dg_b53.2.2.2.2.2.2.2.2.2.2.2.2.2.1
theorem dX7_mayBeSet_81 : decode cX7_mayBeSet 81 = .ok (.if_icmp .gt 7, 3) := dg_b53.2.2.2.2.2.2.2.2.2.2.2.2.2.2.1
theorem dX7_mayBeSet_84 : decode cX7_mayBeSet 84 = .ok (.iconst 1, 1) := dg_b53.2.2.2.2.2.2.2.2.2.2.2.2.2.2.2
theorem dg_b54 : (decode cX7_mayBeSet 85 = .ok (.goto 4, 3)) ∧ (decode cX7_mayBeSet 88 = .ok (.iconst 0, 1)) ∧ (decode cX7_mayBeSet 89 = .ok (.ireturn, 1)) ∧ (decode cX7_mayBeSet 90 = .ok (.iload_n 2, 1)) ∧ (decode cX7_mayBeSet 91 = .ok (.ifCond .lt 13, 3)) ∧ (decode cX7_mayBeSet 94 = .ok (.iload_n 2, 1)) ∧ (decode cX7_mayBeSet 95 = .ok (.bipush 99, 2)) ∧ (decode cX7_mayBeSet 97 = .ok (.if_icmp .gt 7, 3)) ∧ (decode cX7_mayBeSet 100 = .ok (.iconst 1, 1)) ∧ (decode cX7_mayBeSet 101 = .ok (.goto 4, 3)) ∧ (decode cX7_mayBeSet 104 = .ok (.iconst 0, 1)) ∧ (decode cX7_mayBeSet 105 = .ok (.ireturn, 1)) := by decide +kernel
theorem dX7_mayBeSet_85 : decode cX7_mayBeSet 85 = .ok (.goto 4, 3) := dg_b54.1
theorem dX7_mayBeSet_88 : decode cX7_mayBeSet 88 = .ok (.iconst 0, 1) := dg_b54.2.1
theorem dX7_mayBeSet_89 : decode cX7_mayBeSet 89 = .ok (.ireturn, 1) := dg_b54.2.2.1
theorem dX7_mayBeSet_90 : decode cX7_mayBeSet 90 = .ok (.iload_n 2, 1) := dg_b54.2.2.2.1
theorem dX7_mayBeSet_91 : decode cX7_mayBeSet 91 = .ok (.ifCond .lt 13, 3) := dg_b54.2.2.2.2.1
theorem dX7_mayBeSet_94 : decode cX7_mayBeSet 94 = .ok (.iload_n 2, 1) := dg_b54.2.2.2.2.2.1
theorem dX7_mayBeSet_95 : decode cX7_mayBeSet 95 = .ok (.bipush 99, 2) := dg_b54.2.2.2.2.2.2.1
theorem dX7_mayBeSet_97 : decode cX7_mayBeSet 97 = .ok (.if_icmp .gt 7, 3) := dg_b54.2.2.2.2.2.2.2.1
theorem dX7_mayBeSet_100 : decode cX7_mayBeSet 100 = .ok (.iconst 1, 1) := dg_b54.2.2.2.2.2.2.2.2.1
theorem dX7_mayBeSet_101 : decode cX7_mayBeSet 101 = .ok (.goto 4, 3) := dg_b54.2.2.2.2.2.2.2.2.2.1
theorem dX7_mayBeSet_104 : decode cX7_mayBeSet 104 = .ok (.iconst 0, 1) := dg_b54.2.2.2.2.2.2.2.2.2.2.1
theorem dX7_mayBeSet_105 : decode cX7_mayBeSet 105 = .ok (.ireturn, 1) := dg_b54.2.2.2.2.2.2.2.2.2.2.2
theorem dg_b55 : (decode cX7_cloud 0 = .ok (.iload_n 1, 1)) ∧ (decode cX7_cloud 1 = .ok (.invokestatic 177, 3)) ∧ (decode cX7_cloud 4 = .ok (.ifCond .ne 5, 3)) ∧ (decode cX7_cloud 7 = .ok (.iconst (-1), 1)) ∧ (decode cX7_cloud 8 = .ok (.ireturn, 1)) ∧ (decode cX7_cloud 9 = .ok (.aload_n 0, 1)) ∧ (decode cX7_cloud 10 = .ok (.getfield 19, 3)) ∧ (decode cX7_cloud 13 = .ok (.iload_n 1, 1)) ∧ (decode cX7_cloud 14 = .ok (.invokevirtual 180, 3)) ∧ (decode cX7_cloud 17 = .ok (.invokestatic 134, 3)) ∧ (decode cX7_cloud 20 = .ok (.istore_n 3, 1)) ∧ (decode cX7_cloud 21 = .ok (.aload_n 0, 1)) ∧ (decode cX7_cloud 22 = .ok (.getfield 19, 3)) ∧ (decode cX7_cloud 25 = .ok (.aload_n 0, 1)) ∧ (decode cX7_cloud 26 = .ok (.getfield 19, 3)) ∧ (decode cX7_cloud 29 = .ok (.getfield 118, 3)) := by decide +kernel
theorem dX7_cloud_0 : decode cX7_cloud 0 = .ok (.iload_n 1, 1) := dg_b55.1
theorem dX7_cloud_1 : decode cX7_cloud 1 = .ok (.invokestatic 177, 3) := dg_b55.2.1
theorem dX7_cloud_4 : decode cX7_cloud 4 = .ok (.ifCond .ne 5, 3) := dg_b55.2.2.1
theorem dX7_cloud_7 : decode cX7_cloud 7 = .ok (.iconst (-1), 1) := dg_b55.2.2.2.1
theorem dX7_cloud_8 : decode cX7_cloud 8 = .ok (.ireturn, 1) := dg_b55.2.2.2.2.1
theorem dX7_cloud_9 : decode cX7_cloud 9 = .ok (.aload_n 0, 1) := dg_b55.2.2.2.2.2.1
theorem dX7_cloud_10 : decode cX7_cloud 10 = .ok (.getfield 19, 3) := dg_b55.2.2.2.2.2.2.1
theorem dX7_cloud_13 : decode cX7_cloud 13 = .ok (.iload_n 1, 1) := dg_b55.2.2.2.2.2.2.2.1
theorem dX7_cloud_14 : decode cX7_cloud 14 = .ok (.invokevirtual 180, 3) := dg_b55.2.2.2.2.2.2.2.2.1
theorem dX7_cloud_17 : decode cX7_cloud 17 = .ok (.invokestatic 134, 3) := dg_b55.2.2.2.2.2.2.2.2.2.1
theorem dX7_cloud_20 : decode cX7_cloud 20 = .ok (.istore_n 3, 1) := dg_b55.2.2.2.2.2.2.2.2.2.2.1
theorem dX7_cloud_21 : decode cX7_cloud 21 = .ok (.aload_n 0, 1) := dg_b55.2.2.2.2.2.2.2.2.2.2.2.1
theorem dX7_cloud_22 : decode cX7_cloud 22 = .ok (.getfield 19, 3) := dg_b55.2.2.2.2.2.2.2.2.2.2.2.2.1
theorem dX7_cloud_25 : decode cX7_cloud 25 = .ok (.aload_n 0, 1) := dg_b55.2.2.2.2.2.2.2.2.2.2.2.2.2.1
theorem dX7_cloud_26 : decode cX7_cloud 26 = .ok (.getfield 19, 3) := dg_b55.2.2.2.2.2.2.2.2.2.2.2.2.2.2.1
theorem dX7_cloud_29 : decode cX7_cloud 29 = .ok (.getfield 118, 3) := dg_b55.2.2.2.2.2.2.2.2.2.2.2.2.2.2.2
theorem dg_b56 : (decode cX7_cloud 32 = .ok (.iload_n 1, 1)) ∧ (decode cX7_cloud 33 = .ok (.iload_n 2, 1)) ∧ (decode cX7_cloud 34 = .ok (.invokestatic 183, 3)) ∧ (decode cX7_cloud 37 = .ok (.putfield 118, 3)) ∧ (decode cX7_cloud 40 = .ok (.iload_n 3, 1)) ∧ (decode cX7_cloud 41 = .ok (.ireturn, 1)) := by decide +kernel
theorem dX7_cloud_32 : decode cX7_cloud 32 = .ok (.iload_n 1, 1) := dg_b56.1
theorem dX7_cloud_33 : decode cX7_cloud 33 = .ok (.iload_n 2, 1) := dg_b56.2.1
theorem dX7_cloud_34 : decode cX7_cloud 34 = .ok (.invokestatic 183, 3) := dg_b56.2.2.1
theorem dX7_cloud_37 : decode cX7_cloud 37 = .ok (.putfield 118, 3) := dg_b56.2.2.2.1
theorem dX7_cloud_40 : decode cX7_cloud 40 = .ok (.iload_n 3, 1) := dg_b56.2.2.2.2.1
theorem dX7_cloud_41 : decode cX7_cloud 41 = .ok (.ireturn, 1) := dg_b56.2.2.2.2.2
theorem dg_b57 : (decode cX7_know 0 = .ok (.aload_n 0, 1)) ∧ (decode cX7_know 1 = .ok (.getfield 19, 3)) ∧ (decode cX7_know 4 = .ok (.iload_n 1, 1)) ∧ (decode cX7_know 5 = .ok (.invokevirtual 141, 3)) ∧ (decode cX7_know 8 = .ok (.ifCond .ne 5, 3)) ∧ (decode cX7_know 11 = .ok (.iconst (-1), 1)) ∧ (decode cX7_know 12 = .ok (.ireturn, 1)) ∧ (decode cX7_know 13 = .ok (.aload_n 0, 1)) ∧ (decode cX7_know 14 = .ok (.getfield 19, 3)) ∧ (decode cX7_know 17 = .ok (.iload_n 1, 1)) ∧ (decode cX7_know 18 = .ok (.invokevirtual 154, 3)) ∧ (decode cX7_know 21 = .ok (.invokestatic 134, 3)) ∧ (decode cX7_know 24 = .ok (.istore_n 3, 1)) ∧ (decode cX7_know 25 = .ok (.aload_n 0, 1)) ∧ (decode cX7_know 26 = .ok (.getfield 19, 3)) ∧ (decode cX7_know 29 = .ok (.aload_n 0, 1)) := by decide +kernel
theorem dX7_know_0 : decode cX7_know 0 = .ok (.aload_n 0, 1) := dg_b57.1
theorem dX7_know_1 : decode cX7_know 1 = .ok (.getfield 19, 3) := dg_b57.2.1
theorem dX7_know_4 : decode cX7_know 4 = .ok (.iload_n 1, 1) := dg_b57.2.2.1
theorem dX7_know_5 : decode cX7_know 5 = .ok (.invokevirtual 141, 3) := dg_b57.2.2.2.1
theorem dX7_know_8 : decode cX7_know 8 = .ok (.ifCond .ne 5, 3) := dg_b57.2.2.2.2.1
theorem dX7_know_11 : decode cX7_know 11 = .ok (.iconst (-1), 1) := dg_b57.2.2.2.2.2.1
theorem dX7_know_12 : decode cX7_know 12 = .ok (.ireturn, 1) := dg_b57.2.2.2.2.2.2.1
theorem dX7_know_13 : decode cX7_know 13 = .ok (.aload_n 0, 1) := dg_b57.2.2.2.2.2.2.2.1
theorem dX7_know_14 : decode cX7_know 14 = .ok (.getfield 19, 3) := dg_b57.2.2.2.2.2.2.2.2.1
theorem dX7_know_17 : decode cX7_know 17 = .ok (.iload_n 1, 1) := dg_b57.2.2.2.2.2.2.2.2.2.1
theorem dX7_know_18 : decode cX7_know 18 = .ok (.invokevirtual 154, 3) := dg_b57.2.2.2.2.2.2.2.2.2.2.1
theorem dX7_know_21 : decode cX7_know 21 = .ok (.invokestatic 134, 3) := dg_b57.2.2.2.2.2.2.2.2.2.2.2.1
theorem dX7_know_24 : decode cX7_know 24 = .ok (.istore_n 3, 1) := dg_b57.2.2.2.2.2.2.2.2.2.2.2.2.1
theorem dX7_know_25 : decode cX7_know 25 = .ok (.aload_n 0, 1) := dg_b57.2.2.2.2.2.2.2.2.2.2.2.2.2.1
theorem dX7_know_26 : decode cX7_know 26 = .ok (.getfield 19, 3) := dg_b57.2.2.2.2.2.2.2.2.2.2.2.2.2.2.1
theorem dX7_know_29 : decode cX7_know 29 = .ok (.aload_n 0, 1) := dg_b57.2.2.2.2.2.2.2.2.2.2.2.2.2.2.2
theorem dg_b58 : (decode cX7_know 30 = .ok (.getfield 19, 3)) ∧ (decode cX7_know 33 = .ok (.getfield 187, 3)) ∧ (decode cX7_know 36 = .ok (.iload_n 1, 1)) ∧ (decode cX7_know 37 = .ok (.iload_n 2, 1)) ∧ (decode cX7_know 38 = .ok (.invokestatic 183, 3)) ∧ (decode cX7_know 41 = .ok (.putfield 187, 3)) ∧ (decode cX7_know 44 = .ok (.iload_n 3, 1)) ∧ (decode cX7_know 45 = .ok (.ireturn, 1)) := by decide +kernel
theorem dX7_know_30 : decode cX7_know 30 = .ok (.getfield 19, 3) := dg_b58.1
theorem dX7_know_33 : decode cX7_know 33 = .ok (.getfield 187, 3) := dg_b58.2.1
theorem dX7_know_36 : decode cX7_know 36 = .ok (.iload_n 1, 1) := dg_b58.2.2.1
theorem dX7_know_37 : decode cX7_know 37 = .ok (.iload_n 2, 1) := dg_b58.2.2.2.1
theorem dX7_know_38 : decode cX7_know 38 = .ok (.invokestatic 183, 3) := dg_b58.2.2.2.2.1
theorem dX7_know_41 : decode cX7_know 41 = .ok (.putfield 187, 3) := dg_b58.2.2.2.2.2.1
theorem dX7_know_44 : decode cX7_know 44 = .ok (.iload_n 3, 1) := dg_b58.2.2.2.2.2.2.1
theorem dX7_know_45 : decode cX7_know 45 = .ok (.ireturn, 1) := dg_b58.2.2.2.2.2.2.2
theorem dg_b59 : (decode cX7_turn 0 = .ok (.aload_n 0, 1)) ∧ (decode cX7_turn 1 = .ok (.getfield 19, 3)) ∧ (decode cX7_turn 4 = .ok (.iload_n 1, 1)) ∧ (decode cX7_turn 5 = .ok (.invokevirtual 141, 3)) ∧ (decode cX7_turn 8 = .ok (.ifCond .eq 13, 3)) ∧ (decode cX7_turn 11 = .ok (.iload_n 2, 1)) ∧ (decode cX7_turn 12 = .ok (.ifCond .lt 9, 3)) ∧ (decode cX7_turn 15 = .ok (.iload_n 2, 1)) ∧ (decode cX7_turn 16 = .ok (.bipush 6, 2)) ∧ (decode cX7_turn 18 = .ok (.if_icmp .le 5, 3)) ∧ (decode cX7_turn 21 = .ok (.iconst (-1), 1)) ∧ (decode cX7_turn 22 = .ok (.ireturn, 1)) ∧ (decode cX7_turn 23 = .ok (.aload_n 0, 1)) ∧ (decode cX7_turn 24 = .ok (.getfield 19, 3)) ∧ (decode cX7_turn 27 = .ok (.getfield 151, 3)) ∧ (decode cX7_turn 30 = .ok (.iload_n 1, 1)) := by decide +kernel
theorem dX7_turn_0 : decode cX7_turn 0 = .ok (.aload_n 0, 1) := dg_b59.1
theorem dX7_turn_1 : decode cX7_turn 1 = .ok (.getfield 19, 3) := dg_b59.2.1
theorem dX7_turn_4 : decode cX7_turn 4 = .ok (.iload_n 1, 1) := dg_b59.2.2.1
theorem dX7_turn_5 : decode cX7_turn 5 = .ok (.invokevirtual 141, 3) := dg_b59.2.2.2.1
theorem dX7_turn_8 : decode cX7_turn 8 = .ok (.ifCond .eq 13, 3) := dg_b59.2.2.2.2.1
theorem dX7_turn_11 : decode cX7_turn 11 = .ok (.iload_n 2, 1) := dg_b59.2.2.2.2.2.1
theorem dX7_turn_12 : decode cX7_turn 12 = .ok (.ifCond .lt 9, 3) := dg_b59.2.2.2.2.2.2.1
theorem dX7_turn_15 : decode cX7_turn 15 = .ok (.iload_n 2, 1) := dg_b59.2.2.2.2.2.2.2.1
theorem dX7_turn_16 : decode cX7_turn 16 = .ok (.bipush 6, 2) := dg_b59.2.2.2.2.2.2.2.2.1
theorem dX7_turn_18 : decode cX7_turn 18 = .ok (.if_icmp .le 5, 3) := dg_b59.2.2.2.2.2.2.2.2.2.1
theorem dX7_turn_21 : decode cX7_turn 21 = .ok (.iconst (-1), 1) := dg_b59.2.2.2.2.2.2.2.2.2.2.1
theorem dX7_turn_22 : decode cX7_turn 22 = .ok (.ireturn, 1) := dg_b59.2.2.2.2.2.2.2.2.2.2.2.1
theorem dX7_turn_23 : decode cX7_turn 23 = .ok (.aload_n 0, 1) := dg_b59.2.2.2.2.2.2.2.2.2.2.2.2.1
theorem dX7_turn_24 : decode cX7_turn 24 = .ok (.getfield 19, 3) := dg_b59.2.2.2.2.2.2.2.2.2.2.2.2.2.1
theorem dX7_turn_27 : decode cX7_turn 27 = .ok (.getfield 151, 3) := dg_b59.2.2.2.2.2.2.2.2.2.2.2.2.2.2.1
theorem dX7_turn_30 : decode cX7_turn 30 = .ok (.iload_n 1, 1) := dg_b59.2.2.2.2.2.2.2.2.2.2.2.2.2.2.2
theorem dg_b60 : (decode cX7_turn 31 = .ok (.iaload, 1)) ∧ (decode cX7_turn 32 = .ok (.istore_n 3, 1)) ∧ (decode cX7_turn 33 = .ok (.aload_n 0, 1)) ∧ (decode cX7_turn 34 = .ok (.getfield 19, 3)) ∧ (decode cX7_turn 37 = .ok (.getfield 151, 3)) ∧ (decode cX7_turn 40 = .ok (.iload_n 1, 1)) ∧ (decode cX7_turn 41 = .ok (.iload_n 2, 1)) ∧ (decode cX7_turn 42 = .ok (.iastore, 1)) ∧ (decode cX7_turn 43 = .ok (.iload_n 3, 1)) ∧ (decode cX7_turn 44 = .ok (.ireturn, 1)) := by decide +kernel
theorem dX7_turn_31 : decode cX7_turn 31 = .ok (.iaload, 1) := dg_b60.1
theorem dX7_turn_32 : decode cX7_turn 32 = .ok (.istore_n 3, 1) := dg_b60.2.1
theorem dX7_turn_33 : decode cX7_turn 33 = .ok (.aload_n 0, 1) := dg_b60.2.2.1
theorem dX7_turn_34 : decode cX7_turn 34 = .ok (.getfield 19, 3) := dg_b60.2.2.2.1
theorem dX7_turn_37 : decode cX7_turn 37 = .ok (.getfield 151, 3) := dg_b60.2.2.2.2.1
theorem dX7_turn_40 : decode cX7_turn 40 = .ok (.iload_n 1, 1) := dg_b60.2.2.2.2.2.1
theorem dX7_turn_41 : decode cX7_turn 41 = .ok (.iload_n 2, 1) := dg_b60.2.2.2.2.2.2.1
theorem dX7_turn_42 : decode cX7_turn 42 = .ok (.iastore, 1) := dg_b60.2.2.2.2.2.2.2.1
theorem dX7_turn_43 : decode cX7_turn 43 = .ok (.iload_n 3, 1) := dg_b60.2.2.2.2.2.2.2.2.1
theorem dX7_turn_44 : decode cX7_turn 44 = .ok (.ireturn, 1) := dg_b60.2.2.2.2.2.2.2.2.2
theorem dg_b61 : (decode cX7_teach 0 = .ok (.aload_n 0, 1)) ∧ (decode cX7_teach 1 = .ok (.getfield 19, 3)) ∧ (decode cX7_teach 4 = .ok (.iload_n 1, 1)) ∧ (decode cX7_teach 5 = .ok (.invokevirtual 157, 3)) ∧ (decode cX7_teach 8 = .ok (.ifCond .eq 12, 3)) ∧ (decode cX7_teach 11 = .ok (.iload_n 2, 1)) ∧ (decode cX7_teach 12 = .ok (.ifCond .lt 8, 3)) ∧ (decode cX7_teach 15 = .ok (.iload_n 2, 1)) ∧ (decode cX7_teach 16 = .ok (.iconst 3, 1)) ∧ (decode cX7_teach 17 = .ok (.if_icmp .le 5, 3)) ∧ (decode cX7_teach 20 = .ok (.iconst (-1), 1)) ∧ (decode cX7_teach 21 = .ok (.ireturn, 1)) ∧ (decode cX7_teach 22 = .ok (.aload_n 0, 1)) ∧ (decode cX7_teach 23 = .ok (.getfield 19, 3)) ∧ (decode cX7_teach 26 = .ok (.getfield 160, 3)) ∧ (decode cX7_teach 29 = .ok (.iload_n 1, 1)) := by decide +kernel
theorem dX7_teach_0 : decode cX7_teach 0 = .ok (.aload_n 0, 1) := dg_b61.1
theorem dX7_teach_1 : decode cX7_teach 1 = .ok (.getfield 19, 3) := dg_b61.2.1
theorem dX7_teach_4 : decode cX7_teach 4 = .ok (.iload_n 1, 1) := dg_b61.2.2.1
theorem dX7_teach_5 : decode cX7_teach 5 = .ok (.invokevirtual 157, 3) := dg_b61.2.2.2.1
theorem dX7_teach_8 : decode cX7_teach 8 = .ok (.ifCond .eq 12, 3) := dg_b61.2.2.2.2.1
theorem dX7_teach_11 : decode cX7_teach 11 = .ok (.iload_n 2, 1) := dg_b61.2.2.2.2.2.1
theorem dX7_teach_12 : decode cX7_teach 12 = .ok (.ifCond .lt 8, 3) := dg_b61.2.2.2.2.2.2.1
theorem dX7_teach_15 : decode cX7_teach 15 = .ok (.iload_n 2, 1) := dg_b61.2.2.2.2.2.2.2.1
theorem dX7_teach_16 : decode cX7_teach 16 = .ok (.iconst 3, 1) := dg_b61.2.2.2.2.2.2.2.2.1
theorem dX7_teach_17 : decode cX7_teach 17 = .ok (.if_icmp .le 5, 3) := dg_b61.2.2.2.2.2.2.2.2.2.1
theorem dX7_teach_20 : decode cX7_teach 20 = .ok (.iconst (-1), 1) := dg_b61.2.2.2.2.2.2.2.2.2.2.1
theorem dX7_teach_21 : decode cX7_teach 21 = .ok (.ireturn, 1) := dg_b61.2.2.2.2.2.2.2.2.2.2.2.1
theorem dX7_teach_22 : decode cX7_teach 22 = .ok (.aload_n 0, 1) := dg_b61.2.2.2.2.2.2.2.2.2.2.2.2.1
theorem dX7_teach_23 : decode cX7_teach 23 = .ok (.getfield 19, 3) := dg_b61.2.2.2.2.2.2.2.2.2.2.2.2.2.1
theorem dX7_teach_26 : decode cX7_teach 26 = .ok (.getfield 160, 3) := dg_b61.2.2.2.2.2.2.2.2.2.2.2.2.2.2.1
theorem dX7_teach_29 : decode cX7_teach 29 = .ok (.iload_n 1, 1) := dg_b61.2.2.2.2.2.2.2.2.2.2.2.2.2.2.2
theorem dg_b62 : (decode cX7_teach 30 = .ok (.iaload, 1)) ∧ (decode cX7_teach 31 = .ok (.istore_n 3, 1)) ∧ (decode cX7_teach 32 = .ok (.aload_n 0, 1)) ∧ (decode cX7_teach 33 = .ok (.getfield 19, 3)) ∧ (decode cX7_teach 36 = .ok (.getfield 160, 3)) ∧ (decode cX7_teach 39 = .ok (.iload_n 1, 1)) ∧ (decode cX7_teach 40 = .ok (.iload_n 2, 1)) ∧ (decode cX7_teach 41 = .ok (.iastore, 1)) ∧ (decode cX7_teach 42 = .ok (.iload_n 3, 1)) ∧ (decode cX7_teach 43 = .ok (.ireturn, 1)) := by decide +kernel
theorem dX7_teach_30 : decode cX7_teach 30 = .ok (.iaload, 1) := dg_b62.1
theorem dX7_teach_31 : decode cX7_teach 31 = .ok (.istore_n 3, 1) := dg_b62.2.1
theorem dX7_teach_32 : decode cX7_teach 32 = .ok (.aload_n 0, 1) := dg_b62.2.2.1
theorem dX7_teach_33 : decode cX7_teach 33 = .ok (.getfield 19, 3) := dg_b62.2.2.2.1
theorem dX7_teach_36 : decode cX7_teach 36 = .ok (.getfield 160, 3) := dg_b62.2.2.2.2.1
theorem dX7_teach_39 : decode cX7_teach 39 = .ok (.iload_n 1, 1) := dg_b62.2.2.2.2.2.1
theorem dX7_teach_40 : decode cX7_teach 40 = .ok (.iload_n 2, 1) := dg_b62.2.2.2.2.2.2.1
theorem dX7_teach_41 : decode cX7_teach 41 = .ok (.iastore, 1) := dg_b62.2.2.2.2.2.2.2.1
theorem dX7_teach_42 : decode cX7_teach 42 = .ok (.iload_n 3, 1) := dg_b62.2.2.2.2.2.2.2.2.1
theorem dX7_teach_43 : decode cX7_teach 43 = .ok (.ireturn, 1) := dg_b62.2.2.2.2.2.2.2.2.2
theorem dg_b63 : (decode cX7_plans 0 = .ok (.aload_n 0, 1)) ∧ (decode cX7_plans 1 = .ok (.getfield 19, 3)) ∧ (decode cX7_plans 4 = .ok (.iload_n 1, 1)) ∧ (decode cX7_plans 5 = .ok (.invokevirtual 190, 3)) ∧ (decode cX7_plans 8 = .ok (.ifCond .ne 5, 3)) ∧ (decode cX7_plans 11 = .ok (.iconst (-1), 1)) ∧ (decode cX7_plans 12 = .ok (.ireturn, 1)) ∧ (decode cX7_plans 13 = .ok (.aload_n 0, 1)) ∧ (decode cX7_plans 14 = .ok (.getfield 19, 3)) ∧ (decode cX7_plans 17 = .ok (.iload_n 1, 1)) ∧ (decode cX7_plans 18 = .ok (.invokevirtual 193, 3)) ∧ (decode cX7_plans 21 = .ok (.ifCond .eq 13, 3)) ∧ (decode cX7_plans 24 = .ok (.aload_n 0, 1)) ∧ (decode cX7_plans 25 = .ok (.getfield 19, 3)) ∧ (decode cX7_plans 28 = .ok (.getfield 138, 3)) ∧ (decode cX7_plans 31 = .ok (.goto 5, 3)) := by decide +kernel
theorem dX7_plans_0 : decode cX7_plans 0 = .ok (.aload_n 0, 1) := dg_b63.1
theorem dX7_plans_1 : decode cX7_plans 1 = .ok (.getfield 19, 3) := dg_b63.2.1
theorem dX7_plans_4 : decode cX7_plans 4 = .ok (.iload_n 1, 1) := dg_b63.2.2.1
theorem dX7_plans_5 : decode cX7_plans 5 = .ok (.invokevirtual 190, 3) := dg_b63.2.2.2.1
theorem dX7_plans_8 : decode cX7_plans 8 = .ok (.ifCond .ne 5, 3) := dg_b63.2.2.2.2.1
theorem dX7_plans_11 : decode cX7_plans 11 = .ok (.iconst (-1), 1) := dg_b63.2.2.2.2.2.1
theorem dX7_plans_12 : decode cX7_plans 12 = .ok (.ireturn, 1) := dg_b63.2.2.2.2.2.2.1
theorem dX7_plans_13 : decode cX7_plans 13 = .ok (.aload_n 0, 1) := dg_b63.2.2.2.2.2.2.2.1
theorem dX7_plans_14 : decode cX7_plans 14 = .ok (.getfield 19, 3) := dg_b63.2.2.2.2.2.2.2.2.1
theorem dX7_plans_17 : decode cX7_plans 17 = .ok (.iload_n 1, 1) := dg_b63.2.2.2.2.2.2.2.2.2.1
theorem dX7_plans_18 : decode cX7_plans 18 = .ok (.invokevirtual 193, 3) := dg_b63.2.2.2.2.2.2.2.2.2.2.1
theorem dX7_plans_21 : decode cX7_plans 21 = .ok (.ifCond .eq 13, 3) := dg_b63.2.2.2.2.2.2.2.2.2.2.2.1
theorem dX7_plans_24 : decode cX7_plans 24 = .ok (.aload_n 0, 1) := dg_b63.2.2.2.2.2.2.2.2.2.2.2.2.1
theorem dX7_plans_25 : decode cX7_plans 25 = .ok (.getfield 19, 3) := dg_b63.2.2.2.2.2.2.2.2.2.2.2.2.2.1
theorem dX7_plans_28 : decode cX7_plans 28 = .ok (.getfield 138, 3) := dg_b63.2.2.2.2.2.2.2.2.2.2.2.2.2.2.1
theorem dX7_plans_31 : decode cX7_plans 31 = .ok (.goto 5, 3) := dg_b63.2.2.2.2.2.2.2.2.2.2.2.2.2.2.2
theorem dg_b64 : (decode cX7_plans 34 = .ok (.bipush (-3), 2)) ∧ (decode cX7_plans 36 = .ok (.ireturn, 1)) := by decide +kernel
theorem dX7_plans_34 : decode cX7_plans 34 = .ok (.bipush (-3), 2) := dg_b64.1
theorem dX7_plans_36 : decode cX7_plans 36 = .ok (.ireturn, 1) := dg_b64.2
theorem dg_b65 : (decode cX7_cut 0 = .ok (.iload_n 1, 1)) ∧ (decode cX7_cut 1 = .ok (.ifCond .lt 14, 3)) ∧ (decode cX7_cut 4 = .ok (.iload_n 1, 1)) ∧ (decode cX7_cut 5 = .ok (.aload_n 0, 1)) ∧ (decode cX7_cut 6 = .ok (.getfield 19, 3)) ∧ (decode cX7_cut 9 = .ok (.getfield 138, 3)) ∧ (decode cX7_cut 12 = .ok (.if_icmp .le 5, 3)) ∧ (decode cX7_cut 15 = .ok (.iconst (-1), 1)) ∧ (decode cX7_cut 16 = .ok (.ireturn, 1)) ∧ (decode cX7_cut 17 = .ok (.aload_n 0, 1)) ∧ (decode cX7_cut 18 = .ok (.getfield 19, 3)) ∧ (decode cX7_cut 21 = .ok (.getfield 138, 3)) ∧ (decode cX7_cut 24 = .ok (.istore_n 2, 1)) ∧ (decode cX7_cut 25 = .ok (.aload_n 0, 1)) ∧ (decode cX7_cut 26 = .ok (.getfield 19, 3)) ∧ (decode cX7_cut 29 = .ok (.iload_n 1, 1)) := by decide +kernel
theorem dX7_cut_0 : decode cX7_cut 0 = .ok (.iload_n 1, 1) := dg_b65.1
theorem dX7_cut_1 : decode cX7_cut 1 = .ok (.ifCond .lt 14, 3) := dg_b65.2.1
theorem dX7_cut_4 : decode cX7_cut 4 = .ok (.iload_n 1, 1) := dg_b65.2.2.1
theorem dX7_cut_5 : decode cX7_cut 5 = .ok (.aload_n 0, 1) := dg_b65.2.2.2.1
theorem dX7_cut_6 : decode cX7_cut 6 = .ok (.getfield 19, 3) := dg_b65.2.2.2.2.1
theorem dX7_cut_9 : decode cX7_cut 9 = .ok (.getfield 138, 3) := dg_b65.2.2.2.2.2.1
theorem dX7_cut_12 : decode cX7_cut 12 = .ok (.if_icmp .le 5, 3) := dg_b65.2.2.2.2.2.2.1
theorem dX7_cut_15 : decode cX7_cut 15 = .ok (.iconst (-1), 1) := dg_b65.2.2.2.2.2.2.2.1
theorem dX7_cut_16 : decode cX7_cut 16 = .ok (.ireturn, 1) := dg_b65.2.2.2.2.2.2.2.2.1
theorem dX7_cut_17 : decode cX7_cut 17 = .ok (.aload_n 0, 1) := dg_b65.2.2.2.2.2.2.2.2.2.1
theorem dX7_cut_18 : decode cX7_cut 18 = .ok (.getfield 19, 3) := dg_b65.2.2.2.2.2.2.2.2.2.2.1
theorem dX7_cut_21 : decode cX7_cut 21 = .ok (.getfield 138, 3) := dg_b65.2.2.2.2.2.2.2.2.2.2.2.1
theorem dX7_cut_24 : decode cX7_cut 24 = .ok (.istore_n 2, 1) := dg_b65.2.2.2.2.2.2.2.2.2.2.2.2.1
theorem dX7_cut_25 : decode cX7_cut 25 = .ok (.aload_n 0, 1) := dg_b65.2.2.2.2.2.2.2.2.2.2.2.2.2.1
theorem dX7_cut_26 : decode cX7_cut 26 = .ok (.getfield 19, 3) := dg_b65.2.2.2.2.2.2.2.2.2.2.2.2.2.2.1
theorem dX7_cut_29 : decode cX7_cut 29 = .ok (.iload_n 1, 1) := dg_b65.2.2.2.2.2.2.2.2.2.2.2.2.2.2.2
theorem dg_b66 : (decode cX7_cut 30 = .ok (.putfield 138, 3)) ∧ (decode cX7_cut 33 = .ok (.iload_n 2, 1)) ∧ (decode cX7_cut 34 = .ok (.ireturn, 1)) := by decide +kernel
theorem dX7_cut_30 : decode cX7_cut 30 = .ok (.putfield 138, 3) := dg_b66.1
theorem dX7_cut_33 : decode cX7_cut 33 = .ok (.iload_n 2, 1) := dg_b66.2.1
theorem dX7_cut_34 : decode cX7_cut 34 = .ok (.ireturn, 1) := dg_b66.2.2
theorem dg_b67 : (decode cX7_pull 0 = .ok (.iload_n 1, 1)) ∧ (decode cX7_pull 1 = .ok (.invokestatic 177, 3)) ∧ (decode cX7_pull 4 = .ok (.ifCond .eq 14, 3)) ∧ (decode cX7_pull 7 = .ok (.aload_n 0, 1)) ∧ (decode cX7_pull 8 = .ok (.getfield 19, 3)) ∧ (decode cX7_pull 11 = .ok (.iload_n 1, 1)) ∧ (decode cX7_pull 12 = .ok (.invokevirtual 196, 3)) ∧ (decode cX7_pull 15 = .ok (.goto 4, 3)) ∧ (decode cX7_pull 18 = .ok (.iconst (-1), 1)) ∧ (decode cX7_pull 19 = .ok (.ireturn, 1)) := by decide +kernel
theorem dX7_pull_0 : decode cX7_pull 0 = .ok (.iload_n 1, 1) := dg_b67.1
theorem dX7_pull_1 : decode cX7_pull 1 = .ok (.invokestatic 177, 3) := dg_b67.2.1
theorem dX7_pull_4 : decode cX7_pull 4 = .ok (.ifCond .eq 14, 3) := dg_b67.2.2.1
theorem dX7_pull_7 : decode cX7_pull 7 = .ok (.aload_n 0, 1) := dg_b67.2.2.2.1
theorem dX7_pull_8 : decode cX7_pull 8 = .ok (.getfield 19, 3) := dg_b67.2.2.2.2.1
theorem dX7_pull_11 : decode cX7_pull 11 = .ok (.iload_n 1, 1) := dg_b67.2.2.2.2.2.1
theorem dX7_pull_12 : decode cX7_pull 12 = .ok (.invokevirtual 196, 3) := dg_b67.2.2.2.2.2.2.1
theorem dX7_pull_15 : decode cX7_pull 15 = .ok (.goto 4, 3) := dg_b67.2.2.2.2.2.2.2.1
theorem dX7_pull_18 : decode cX7_pull 18 = .ok (.iconst (-1), 1) := dg_b67.2.2.2.2.2.2.2.2.1
theorem dX7_pull_19 : decode cX7_pull 19 = .ok (.ireturn, 1) := dg_b67.2.2.2.2.2.2.2.2.2
theorem dg_b68 : (decode cX7_up 0 = .ok (.iload_n 1, 1)) ∧ (decode cX7_up 1 = .ok (.invokestatic 177, 3)) ∧ (decode cX7_up 4 = .ok (.ifCond .ne 5, 3)) ∧ (decode cX7_up 7 = .ok (.iconst (-1), 1)) ∧ (decode cX7_up 8 = .ok (.ireturn, 1)) ∧ (decode cX7_up 9 = .ok (.iconst 0, 1)) ∧ (decode cX7_up 10 = .ok (.istore_n 2, 1)) ∧ (decode cX7_up 11 = .ok (.iconst 0, 1)) ∧ (decode cX7_up 12 = .ok (.istore_n 3, 1)) ∧ (decode cX7_up 13 = .ok (.iload_n 3, 1)) ∧ (decode cX7_up 14 = .ok (.aload_n 0, 1)) ∧ (decode cX7_up 15 = .ok (.getfield 19, 3)) ∧ (decode cX7_up 18 = .ok (.getfield 94, 3)) ∧ (decode cX7_up 21 = .ok (.if_icmp .ge 24, 3)) ∧ (decode cX7_up 24 = .ok (.iload_n 2, 1)) ∧ (decode cX7_up 25 = .ok (.iload_n 3, 1)) := by decide +kernel
theorem dX7_up_0 : decode cX7_up 0 = .ok (.iload_n 1, 1) := dg_b68.1
theorem dX7_up_1 : decode cX7_up 1 = .ok (.invokestatic 177, 3) := dg_b68.2.1
theorem dX7_up_4 : decode cX7_up 4 = .ok (.ifCond .ne 5, 3) := dg_b68.2.2.1
theorem dX7_up_7 : decode cX7_up 7 = .ok (.iconst (-1), 1) := dg_b68.2.2.2.1
theorem dX7_up_8 : decode cX7_up 8 = .ok (.ireturn, 1) := dg_b68.2.2.2.2.1
theorem dX7_up_9 : decode cX7_up 9 = .ok (.iconst 0, 1) := dg_b68.2.2.2.2.2.1
theorem dX7_up_10 : decode cX7_up 10 = .ok (.istore_n 2, 1) := dg_b68.2.2.2.2.2.2.1
theorem dX7_up_11 : decode cX7_up 11 = .ok (.iconst 0, 1) := dg_b68.2.2.2.2.2.2.2.1
theorem dX7_up_12 : decode cX7_up 12 = .ok (.istore_n 3, 1) := dg_b68.2.2.2.2.2.2.2.2.1
theorem dX7_up_13 : decode cX7_up 13 = .ok (.iload_n 3, 1) := dg_b68.2.2.2.2.2.2.2.2.2.1
theorem dX7_up_14 : decode cX7_up 14 = .ok (.aload_n 0, 1) := dg_b68.2.2.2.2.2.2.2.2.2.2.1
theorem dX7_up_15 : decode cX7_up 15 = .ok (.getfield 19, 3) := dg_b68.2.2.2.2.2.2.2.2.2.2.2.1
theorem dX7_up_18 : decode cX7_up 18 = .ok (.getfield 94, 3) := dg_b68.2.2.2.2.2.2.2.2.2.2.2.2.1
theorem dX7_up_21 : decode cX7_up 21 = .ok (.if_icmp .ge 24, 3) := dg_b68.2.2.2.2.2.2.2.2.2.2.2.2.2.1
theorem dX7_up_24 : decode cX7_up 24 = .ok (.iload_n 2, 1) := dg_b68.2.2.2.2.2.2.2.2.2.2.2.2.2.2.1
theorem dX7_up_25 : decode cX7_up 25 = .ok (.iload_n 3, 1) := dg_b68.2.2.2.2.2.2.2.2.2.2.2.2.2.2.2
theorem dg_b69 : (decode cX7_up 26 = .ok (.aload_n 0, 1)) ∧ (decode cX7_up 27 = .ok (.getfield 19, 3)) ∧ (decode cX7_up 30 = .ok (.iload_n 3, 1)) ∧ (decode cX7_up 31 = .ok (.iload_n 1, 1)) ∧ (decode cX7_up 32 = .ok (.invokevirtual 199, 3)) ∧ (decode cX7_up 35 = .ok (.invokestatic 183, 3)) ∧ (decode cX7_up 38 = .ok (.istore_n 2, 1)) ∧ (decode cX7_up 39 = .ok (.iinc 3 1, 3)) ∧ (decode cX7_up 42 = .ok (.goto (-29), 3)) ∧ (decode cX7_up 45 = .ok (.iload_n 2, 1)) ∧ (decode cX7_up 46 = .ok (.ireturn, 1)) := by decide +kernel
theorem dX7_up_26 : decode cX7_up 26 = .ok (.aload_n 0, 1) := dg_b69.1
theorem dX7_up_27 : decode cX7_up 27 = .ok (.getfield 19, 3) := dg_b69.2.1
theorem dX7_up_30 : decode cX7_up 30 = .ok (.iload_n 3, 1) := dg_b69.2.2.1
theorem dX7_up_31 : decode cX7_up 31 = .ok (.iload_n 1, 1) := dg_b69.2.2.2.1
theorem dX7_up_32 : decode cX7_up 32 = .ok (.invokevirtual 199, 3) := dg_b69.2.2.2.2.1
theorem dX7_up_35 : decode cX7_up 35 = .ok (.invokestatic 183, 3) := dg_b69.2.2.2.2.2.1
theorem dX7_up_38 : decode cX7_up 38 = .ok (.istore_n 2, 1) := dg_b69.2.2.2.2.2.2.1
theorem dX7_up_39 : decode cX7_up 39 = .ok (.iinc 3 1, 3) := dg_b69.2.2.2.2.2.2.2.1
theorem dX7_up_42 : decode cX7_up 42 = .ok (.goto (-29), 3) := dg_b69.2.2.2.2.2.2.2.2.1
theorem dX7_up_45 : decode cX7_up 45 = .ok (.iload_n 2, 1) := dg_b69.2.2.2.2.2.2.2.2.2.1
theorem dX7_up_46 : decode cX7_up 46 = .ok (.ireturn, 1) := dg_b69.2.2.2.2.2.2.2.2.2.2
theorem dg_b70 : (decode cX7_go 0 = .ok (.aload_n 0, 1)) ∧ (decode cX7_go 1 = .ok (.getfield 19, 3)) ∧ (decode cX7_go 4 = .ok (.iload_n 1, 1)) ∧ (decode cX7_go 5 = .ok (.invokevirtual 190, 3)) ∧ (decode cX7_go 8 = .ok (.ifCond .ne 5, 3)) ∧ (decode cX7_go 11 = .ok (.iconst (-1), 1)) ∧ (decode cX7_go 12 = .ok (.ireturn, 1)) ∧ (decode cX7_go 13 = .ok (.aload_n 0, 1)) ∧ (decode cX7_go 14 = .ok (.getfield 19, 3)) ∧ (decode cX7_go 17 = .ok (.aload_n 0, 1)) ∧ (decode cX7_go 18 = .ok (.getfield 19, 3)) ∧ (decode cX7_go 21 = .ok (.getfield 112, 3)) ∧ (decode cX7_go 24 = .ok (.iload_n 1, 1)) ∧ (decode cX7_go 25 = .ok (.invokevirtual 202, 3)) ∧ (decode cX7_go 28 = .ok (.ifCond .eq 16, 3)) ∧ (decode cX7_go 31 = .ok (.aload_n 0, 1)) := by decide +kernel
theorem dX7_go_0 : decode cX7_go 0 = .ok (.aload_n 0, 1) := dg_b70.1
theorem dX7_go_1 : decode cX7_go 1 = .ok (.getfield 19, 3) := dg_b70.2.1
theorem dX7_go_4 : decode cX7_go 4 = .ok (.iload_n 1, 1) := dg_b70.2.2.1
theorem dX7_go_5 : decode cX7_go 5 = .ok (.invokevirtual 190, 3) := dg_b70.2.2.2.1
theorem dX7_go_8 : decode cX7_go 8 = .ok (.ifCond .ne 5, 3) := dg_b70.2.2.2.2.1
theorem dX7_go_11 : decode cX7_go 11 = .ok (.iconst (-1), 1) := dg_b70.2.2.2.2.2.1
theorem dX7_go_12 : decode cX7_go 12 = .ok (.ireturn, 1) := dg_b70.2.2.2.2.2.2.1
theorem dX7_go_13 : decode cX7_go 13 = .ok (.aload_n 0, 1) := dg_b70.2.2.2.2.2.2.2.1
theorem dX7_go_14 : decode cX7_go 14 = .ok (.getfield 19, 3) := dg_b70.2.2.2.2.2.2.2.2.1
theorem dX7_go_17 : decode cX7_go 17 = .ok (.aload_n 0, 1) := dg_b70.2.2.2.2.2.2.2.2.2.1
theorem dX7_go_18 : decode cX7_go 18 = .ok (.getfield 19, 3) := dg_b70.2.2.2.2.2.2.2.2.2.2.1
theorem dX7_go_21 : decode cX7_go 21 = .ok (.getfield 112, 3) := dg_b70.2.2.2.2.2.2.2.2.2.2.2.1
theorem dX7_go_24 : decode cX7_go 24 = .ok (.iload_n 1, 1) := dg_b70.2.2.2.2.2.2.2.2.2.2.2.2.1
theorem dX7_go_25 : decode cX7_go 25 = .ok (.invokevirtual 202, 3) := dg_b70.2.2.2.2.2.2.2.2.2.2.2.2.2.1
theorem dX7_go_28 : decode cX7_go 28 = .ok (.ifCond .eq 16, 3) := dg_b70.2.2.2.2.2.2.2.2.2.2.2.2.2.2.1
theorem dX7_go_31 : decode cX7_go 31 = .ok (.aload_n 0, 1) := dg_b70.2.2.2.2.2.2.2.2.2.2.2.2.2.2.2
theorem dg_b71 : (decode cX7_go 32 = .ok (.getfield 19, 3)) ∧ (decode cX7_go 35 = .ok (.getfield 112, 3)) ∧ (decode cX7_go 38 = .ok (.getfield 124, 3)) ∧ (decode cX7_go 41 = .ok (.goto 5, 3)) ∧ (decode cX7_go 44 = .ok (.bipush (-2), 2)) ∧ (decode cX7_go 46 = .ok (.ireturn, 1)) := by decide +kernel
theorem dX7_go_32 : decode cX7_go 32 = .ok (.getfield 19, 3) := dg_b71.1
theorem dX7_go_35 : decode cX7_go 35 = .ok (.getfield 112, 3) := dg_b71.2.1
theorem dX7_go_38 : decode cX7_go 38 = .ok (.getfield 124, 3) := dg_b71.2.2.1
theorem dX7_go_41 : decode cX7_go 41 = .ok (.goto 5, 3) := dg_b71.2.2.2.1
theorem dX7_go_44 : decode cX7_go 44 = .ok (.bipush (-2), 2) := dg_b71.2.2.2.2.1
theorem dX7_go_46 : decode cX7_go 46 = .ok (.ireturn, 1) := dg_b71.2.2.2.2.2
theorem dg_b72 : (decode cX7_runs 0 = .ok (.iload_n 1, 1)) ∧ (decode cX7_runs 1 = .ok (.ifCond .lt 9, 3)) ∧ (decode cX7_runs 4 = .ok (.iload_n 1, 1)) ∧ (decode cX7_runs 5 = .ok (.bipush 6, 2)) ∧ (decode cX7_runs 7 = .ok (.if_icmp .le 5, 3)) ∧ (decode cX7_runs 10 = .ok (.iconst (-1), 1)) ∧ (decode cX7_runs 11 = .ok (.ireturn, 1)) ∧ (decode cX7_runs 12 = .ok (.aload_n 0, 1)) ∧ (decode cX7_runs 13 = .ok (.getfield 26, 3)) ∧ (decode cX7_runs 16 = .ok (.aload_n 0, 1)) ∧ (decode cX7_runs 17 = .ok (.getfield 19, 3)) ∧ (decode cX7_runs 20 = .ok (.invokevirtual 206, 3)) ∧ (decode cX7_runs 23 = .ok (.aload_n 0, 1)) ∧ (decode cX7_runs 24 = .ok (.getfield 26, 3)) ∧ (decode cX7_runs 27 = .ok (.invokevirtual 209, 3)) ∧ (decode cX7_runs 30 = .ok (.aload_n 0, 1)) := by decide +kernel
theorem dX7_runs_0 : decode cX7_runs 0 = .ok (.iload_n 1, 1) := dg_b72.1
theorem dX7_runs_1 : decode cX7_runs 1 = .ok (.ifCond .lt 9, 3) := dg_b72.2.1
theorem dX7_runs_4 : decode cX7_runs 4 = .ok (.iload_n 1, 1) := dg_b72.2.2.1
theorem dX7_runs_5 : decode cX7_runs 5 = .ok (.bipush 6, 2) := dg_b72.2.2.2.1
theorem dX7_runs_7 : decode cX7_runs 7 = .ok (.if_icmp .le 5, 3) := dg_b72.2.2.2.2.1
theorem dX7_runs_10 : decode cX7_runs 10 = .ok (.iconst (-1), 1) := dg_b72.2.2.2.2.2.1
theorem dX7_runs_11 : decode cX7_runs 11 = .ok (.ireturn, 1) := dg_b72.2.2.2.2.2.2.1
theorem dX7_runs_12 : decode cX7_runs 12 = .ok (.aload_n 0, 1) := dg_b72.2.2.2.2.2.2.2.1
theorem dX7_runs_13 : decode cX7_runs 13 = .ok (.getfield 26, 3) := dg_b72.2.2.2.2.2.2.2.2.1
theorem dX7_runs_16 : decode cX7_runs 16 = .ok (.aload_n 0, 1) := dg_b72.2.2.2.2.2.2.2.2.2.1
theorem dX7_runs_17 : decode cX7_runs 17 = .ok (.getfield 19, 3) := dg_b72.2.2.2.2.2.2.2.2.2.2.1
theorem dX7_runs_20 : decode cX7_runs 20 = .ok (.invokevirtual 206, 3) := dg_b72.2.2.2.2.2.2.2.2.2.2.2.1
theorem dX7_runs_23 : decode cX7_runs 23 = .ok (.aload_n 0, 1) := dg_b72.2.2.2.2.2.2.2.2.2.2.2.2.1
theorem dX7_runs_24 : decode cX7_runs 24 = .ok (.getfield 26, 3) := dg_b72.2.2.2.2.2.2.2.2.2.2.2.2.2.1
theorem dX7_runs_27 : decode cX7_runs 27 = .ok (.invokevirtual 209, 3) := dg_b72.2.2.2.2.2.2.2.2.2.2.2.2.2.2.1
theorem dX7_runs_30 : decode cX7_runs 30 = .ok (.aload_n 0, 1) := dg_b72.2.2.2.2.2.2.2.2.2.2.2.2.2.2.2
theorem dg_b73 : (decode cX7_runs 31 = .ok (.getfield 26, 3)) ∧ (decode cX7_runs 34 = .ok (.getfield 212, 3)) ∧ (decode cX7_runs 37 = .ok (.getfield 112, 3)) ∧ (decode cX7_runs 40 = .ok (.astore_n 2, 1)) ∧ (decode cX7_runs 41 = .ok (.iload_n 1, 1)) ∧ (decode cX7_runs 42 = .ok (.tableswitch 85 0 5 #[38, 43, 52, 57, 62, 70], 38)) ∧ (decode cX7_runs 80 = .ok (.aload_n 2, 1)) ∧ (decode cX7_runs 81 = .ok (.getfield 124, 3)) ∧ (decode cX7_runs 84 = .ok (.ireturn, 1)) ∧ (decode cX7_runs 85 = .ok (.sipush 1000, 3)) ∧ (decode cX7_runs 88 = .ok (.aload_n 2, 1)) ∧ (decode cX7_runs 89 = .ok (.getfield 127, 3)) ∧ (decode cX7_runs 92 = .ok (.iadd, 1)) ∧ (decode cX7_runs 93 = .ok (.ireturn, 1)) ∧ (decode cX7_runs 94 = .ok (.aload_n 2, 1)) ∧ (decode cX7_runs 95 = .ok (.getfield 115, 3)) := by decide +kernel
theorem dX7_runs_31 : decode cX7_runs 31 = .ok (.getfield 26, 3) := dg_b73.1
theorem dX7_runs_34 : decode cX7_runs 34 = .ok (.getfield 212, 3) := dg_b73.2.1
theorem dX7_runs_37 : decode cX7_runs 37 = .ok (.getfield 112, 3) := dg_b73.2.2.1
theorem dX7_runs_40 : decode cX7_runs 40 = .ok (.astore_n 2, 1) := dg_b73.2.2.2.1
theorem dX7_runs_41 : decode cX7_runs 41 = .ok (.iload_n 1, 1) := dg_b73.2.2.2.2.1
theorem dX7_runs_42 : decode cX7_runs 42 = .ok (.tableswitch 85 0 5 #[38, 43, 52, 57, 62, 70], 38) := dg_b73.2.2.2.2.2.1
theorem dX7_runs_80 : decode cX7_runs 80 = .ok (.aload_n 2, 1) := dg_b73.2.2.2.2.2.2.1
theorem dX7_runs_81 : decode cX7_runs 81 = .ok (.getfield 124, 3) := dg_b73.2.2.2.2.2.2.2.1
theorem dX7_runs_84 : decode cX7_runs 84 = .ok (.ireturn, 1) := dg_b73.2.2.2.2.2.2.2.2.1
theorem dX7_runs_85 : decode cX7_runs 85 = .ok (.sipush 1000, 3) := dg_b73.2.2.2.2.2.2.2.2.2.1
theorem dX7_runs_88 : decode cX7_runs 88 = .ok (.aload_n 2, 1) := dg_b73.2.2.2.2.2.2.2.2.2.2.1
theorem dX7_runs_89 : decode cX7_runs 89 = .ok (.getfield 127, 3) := dg_b73.2.2.2.2.2.2.2.2.2.2.2.1
theorem dX7_runs_92 : decode cX7_runs 92 = .ok (.iadd, 1) := dg_b73.2.2.2.2.2.2.2.2.2.2.2.2.1
theorem dX7_runs_93 : decode cX7_runs 93 = .ok (.ireturn, 1) := dg_b73.2.2.2.2.2.2.2.2.2.2.2.2.2.1
theorem dX7_runs_94 : decode cX7_runs 94 = .ok (.aload_n 2, 1) := dg_b73.2.2.2.2.2.2.2.2.2.2.2.2.2.2.1
theorem dX7_runs_95 : decode cX7_runs 95 = .ok (.getfield 115, 3) := dg_b73.2.2.2.2.2.2.2.2.2.2.2.2.2.2.2
theorem dg_b74 : (decode cX7_runs 98 = .ok (.ireturn, 1)) ∧ (decode cX7_runs 99 = .ok (.aload_n 2, 1)) ∧ (decode cX7_runs 100 = .ok (.getfield 121, 3)) ∧ (decode cX7_runs 103 = .ok (.ireturn, 1)) ∧ (decode cX7_runs 104 = .ok (.aload_n 0, 1)) ∧ (decode cX7_runs 105 = .ok (.getfield 26, 3)) ∧ (decode cX7_runs 108 = .ok (.getfield 215, 3)) ∧ (decode cX7_runs 111 = .ok (.ireturn, 1)) ∧ (decode cX7_runs 112 = .ok (.aload_n 0, 1)) ∧ (decode cX7_runs 113 = .ok (.getfield 26, 3)) ∧ (decode cX7_runs 116 = .ok (.getfield 212, 3)) ∧ (decode cX7_runs 119 = .ok (.aload_n 2, 1)) ∧ (decode cX7_runs 120 = .ok (.invokevirtual 130, 3)) ∧ (decode cX7_runs 123 = .ok (.invokestatic 134, 3)) ∧ (decode cX7_runs 126 = .ok (.ireturn, 1)) ∧ (decode cX7_runs 127 = .ok (.aload_n 0, 1)) := by decide +kernel
theorem dX7_runs_98 : decode cX7_runs 98 = .ok (.ireturn, 1) := dg_b74.1
theorem dX7_runs_99 : decode cX7_runs 99 = .ok (.aload_n 2, 1) := dg_b74.2.1
theorem dX7_runs_100 : decode cX7_runs 100 = .ok (.getfield 121, 3) := dg_b74.2.2.1
theorem dX7_runs_103 : decode cX7_runs 103 = .ok (.ireturn, 1) := dg_b74.2.2.2.1
theorem dX7_runs_104 : decode cX7_runs 104 = .ok (.aload_n 0, 1) := dg_b74.2.2.2.2.1
theorem dX7_runs_105 : decode cX7_runs 105 = .ok (.getfield 26, 3) := dg_b74.2.2.2.2.2.1
theorem dX7_runs_108 : decode cX7_runs 108 = .ok (.getfield 215, 3) := dg_b74.2.2.2.2.2.2.1
theorem dX7_runs_111 : decode cX7_runs 111 = .ok (.ireturn, 1) := dg_b74.2.2.2.2.2.2.2.1
theorem dX7_runs_112 : decode cX7_runs 112 = .ok (.aload_n 0, 1) := dg_b74.2.2.2.2.2.2.2.2.1
theorem dX7_runs_113 : decode cX7_runs 113 = .ok (.getfield 26, 3) := dg_b74.2.2.2.2.2.2.2.2.2.1
theorem dX7_runs_116 : decode cX7_runs 116 = .ok (.getfield 212, 3) := dg_b74.2.2.2.2.2.2.2.2.2.2.1
theorem dX7_runs_119 : decode cX7_runs 119 = .ok (.aload_n 2, 1) := dg_b74.2.2.2.2.2.2.2.2.2.2.2.1
theorem dX7_runs_120 : decode cX7_runs 120 = .ok (.invokevirtual 130, 3) := dg_b74.2.2.2.2.2.2.2.2.2.2.2.2.1
theorem dX7_runs_123 : decode cX7_runs 123 = .ok (.invokestatic 134, 3) := dg_b74.2.2.2.2.2.2.2.2.2.2.2.2.2.1
theorem dX7_runs_126 : decode cX7_runs 126 = .ok (.ireturn, 1) := dg_b74.2.2.2.2.2.2.2.2.2.2.2.2.2.2.1
theorem dX7_runs_127 : decode cX7_runs 127 = .ok (.aload_n 0, 1) := dg_b74.2.2.2.2.2.2.2.2.2.2.2.2.2.2.2
theorem dg_b75 : (decode cX7_runs 128 = .ok (.getfield 26, 3)) ∧ (decode cX7_runs 131 = .ok (.getfield 218, 3)) ∧ (decode cX7_runs 134 = .ok (.ireturn, 1)) := by decide +kernel
theorem dX7_runs_128 : decode cX7_runs 128 = .ok (.getfield 26, 3) := dg_b75.1
theorem dX7_runs_131 : decode cX7_runs 131 = .ok (.getfield 218, 3) := dg_b75.2.1
theorem dX7_runs_134 : decode cX7_runs 134 = .ok (.ireturn, 1) := dg_b75.2.2
theorem dg_b76 : (decode cX7_next 0 = .ok (.aload_n 0, 1)) ∧ (decode cX7_next 1 = .ok (.getfield 19, 3)) ∧ (decode cX7_next 4 = .ok (.getfield 112, 3)) ∧ (decode cX7_next 7 = .ok (.invokevirtual 221, 3)) ∧ (decode cX7_next 10 = .ok (.ifCond .ne 6, 3)) ∧ (decode cX7_next 13 = .ok (.bipush (-2), 2)) ∧ (decode cX7_next 15 = .ok (.ireturn, 1)) ∧ (decode cX7_next 16 = .ok (.iconst 5, 1)) ∧ (decode cX7_next 17 = .ok (.istore_n 1, 1)) ∧ (decode cX7_next 18 = .ok (.iconst 0, 1)) ∧ (decode cX7_next 19 = .ok (.istore_n 2, 1)) ∧ (decode cX7_next 20 = .ok (.iconst 0, 1)) ∧ (decode cX7_next 21 = .ok (.istore_n 3, 1)) ∧ (decode cX7_next 22 = .ok (.iconst 0, 1)) ∧ (decode cX7_next 23 = .ok (.istore 4, 2)) ∧ (decode cX7_next 25 = .ok (.iconst 0, 1)) := by decide +kernel
theorem dX7_next_0 : decode cX7_next 0 = .ok (.aload_n 0, 1) := dg_b76.1
theorem dX7_next_1 : decode cX7_next 1 = .ok (.getfield 19, 3) := dg_b76.2.1
theorem dX7_next_4 : decode cX7_next 4 = .ok (.getfield 112, 3) := dg_b76.2.2.1
theorem dX7_next_7 : decode cX7_next 7 = .ok (.invokevirtual 221, 3) := dg_b76.2.2.2.1
theorem dX7_next_10 : decode cX7_next 10 = .ok (.ifCond .ne 6, 3) := dg_b76.2.2.2.2.1
theorem dX7_next_13 : decode cX7_next 13 = .ok (.bipush (-2), 2) := dg_b76.2.2.2.2.2.1
theorem dX7_next_15 : decode cX7_next 15 = .ok (.ireturn, 1) := dg_b76.2.2.2.2.2.2.1
theorem dX7_next_16 : decode cX7_next 16 = .ok (.iconst 5, 1) := dg_b76.2.2.2.2.2.2.2.1
theorem dX7_next_17 : decode cX7_next 17 = .ok (.istore_n 1, 1) := dg_b76.2.2.2.2.2.2.2.2.1
theorem dX7_next_18 : decode cX7_next 18 = .ok (.iconst 0, 1) := dg_b76.2.2.2.2.2.2.2.2.2.1
theorem dX7_next_19 : decode cX7_next 19 = .ok (.istore_n 2, 1) := dg_b76.2.2.2.2.2.2.2.2.2.2.1
theorem dX7_next_20 : decode cX7_next 20 = .ok (.iconst 0, 1) := dg_b76.2.2.2.2.2.2.2.2.2.2.2.1
theorem dX7_next_21 : decode cX7_next 21 = .ok (.istore_n 3, 1) := dg_b76.2.2.2.2.2.2.2.2.2.2.2.2.1
theorem dX7_next_22 : decode cX7_next 22 = .ok (.iconst 0, 1) := dg_b76.2.2.2.2.2.2.2.2.2.2.2.2.2.1
theorem dX7_next_23 : decode cX7_next 23 = .ok (.istore 4, 2) := dg_b76.2.2.2.2.2.2.2.2.2.2.2.2.2.2.1
theorem dX7_next_25 : decode cX7_next 25 = .ok (.iconst 0, 1) := dg_b76.2.2.2.2.2.2.2.2.2.2.2.2.2.2.2
theorem dg_b77 : (decode cX7_next 26 = .ok (.istore 5, 2)) ∧ (decode cX7_next 28 = .ok (.iload 5, 2)) ∧ (decode cX7_next 30 = .ok (.iconst 5, 1)) ∧ (decode cX7_next 31 = .ok (.if_icmp .gt 78, 3)) ∧ (decode cX7_next 34 = .ok (.aload_n 0, 1)) ∧ (decode cX7_next 35 = .ok (.getfield 47, 3)) ∧ (decode cX7_next 38 = .ok (.aload_n 0, 1)) ∧ (decode cX7_next 39 = .ok (.getfield 19, 3)) ∧ (decode cX7_next 42 = .ok (.getfield 112, 3)) ∧ (decode cX7_next 45 = .ok (.invokevirtual 225, 3)) ∧ (decode cX7_next 48 = .ok (.aload_n 0, 1)) ∧ (decode cX7_next 49 = .ok (.getfield 19, 3)) ∧ (decode cX7_next 52 = .ok (.aload_n 0, 1)) ∧ (decode cX7_next 53 = .ok (.getfield 47, 3)) ∧ (decode cX7_next 56 = .ok (.iload 5, 2)) ∧ (decode cX7_next 58 = .ok (.invokevirtual 202, 3)) := by decide +kernel
theorem dX7_next_26 : decode cX7_next 26 = .ok (.istore 5, 2) := dg_b77.1
theorem dX7_next_28 : decode cX7_next 28 = .ok (.iload 5, 2) := dg_b77.2.1
theorem dX7_next_30 : decode cX7_next 30 = .ok (.iconst 5, 1) := dg_b77.2.2.1
theorem dX7_next_31 : decode cX7_next 31 = .ok (.if_icmp .gt 78, 3) := dg_b77.2.2.2.1
theorem dX7_next_34 : decode cX7_next 34 = .ok (.aload_n 0, 1) := dg_b77.2.2.2.2.1
theorem dX7_next_35 : decode cX7_next 35 = .ok (.getfield 47, 3) := dg_b77.2.2.2.2.2.1
theorem dX7_next_38 : decode cX7_next 38 = .ok (.aload_n 0, 1) := dg_b77.2.2.2.2.2.2.1
theorem dX7_next_39 : decode cX7_next 39 = .ok (.getfield 19, 3) := dg_b77.2.2.2.2.2.2.2.1
theorem dX7_next_42 : decode cX7_next 42 = .ok (.getfield 112, 3) := dg_b77.2.2.2.2.2.2.2.2.1
theorem dX7_next_45 : decode cX7_next 45 = .ok (.invokevirtual 225, 3) := dg_b77.2.2.2.2.2.2.2.2.2.1
theorem dX7_next_48 : decode cX7_next 48 = .ok (.aload_n 0, 1) := dg_b77.2.2.2.2.2.2.2.2.2.2.1
theorem dX7_next_49 : decode cX7_next 49 = .ok (.getfield 19, 3) := dg_b77.2.2.2.2.2.2.2.2.2.2.2.1
theorem dX7_next_52 : decode cX7_next 52 = .ok (.aload_n 0, 1) := dg_b77.2.2.2.2.2.2.2.2.2.2.2.2.1
theorem dX7_next_53 : decode cX7_next 53 = .ok (.getfield 47, 3) := dg_b77.2.2.2.2.2.2.2.2.2.2.2.2.2.1
theorem dX7_next_56 : decode cX7_next 56 = .ok (.iload 5, 2) := dg_b77.2.2.2.2.2.2.2.2.2.2.2.2.2.2.1
theorem dX7_next_58 : decode cX7_next 58 = .ok (.invokevirtual 202, 3) := dg_b77.2.2.2.2.2.2.2.2.2.2.2.2.2.2.2
theorem dg_b78 : (decode cX7_next 61 = .ok (.ifCond .eq 42, 3)) ∧ (decode cX7_next 64 = .ok (.iload 4, 2)) ∧ (decode cX7_next 66 = .ok (.ifCond .eq 15, 3)) ∧ (decode cX7_next 69 = .ok (.aload_n 0, 1)) ∧ (decode cX7_next 70 = .ok (.getfield 47, 3)) ∧ (decode cX7_next 73 = .ok (.iload_n 2, 1)) ∧ (decode cX7_next 74 = .ok (.iload_n 3, 1)) ∧ (decode cX7_next 75 = .ok (.invokevirtual 228, 3)) ∧ (decode cX7_next 78 = .ok (.ifCond .eq 25, 3)) ∧ (decode cX7_next 81 = .ok (.iconst 1, 1)) ∧ (decode cX7_next 82 = .ok (.istore 4, 2)) ∧ (decode cX7_next 84 = .ok (.iload 5, 2)) ∧ (decode cX7_next 86 = .ok (.istore_n 1, 1)) ∧ (decode cX7_next 87 = .ok (.aload_n 0, 1)) ∧ (decode cX7_next 88 = .ok (.getfield 47, 3)) ∧ (decode cX7_next 91 = .ok (.getfield 127, 3)) := by decide +kernel
theorem dX7_next_61 : decode cX7_next 61 = .ok (.ifCond .eq 42, 3) := dg_b78.1
theorem dX7_next_64 : decode cX7_next 64 = .ok (.iload 4, 2) := dg_b78.2.1
theorem dX7_next_66 : decode cX7_next 66 = .ok (.ifCond .eq 15, 3) := dg_b78.2.2.1
theorem dX7_next_69 : decode cX7_next 69 = .ok (.aload_n 0, 1) := dg_b78.2.2.2.1
theorem dX7_next_70 : decode cX7_next 70 = .ok (.getfield 47, 3) := dg_b78.2.2.2.2.1
theorem dX7_next_73 : decode cX7_next 73 = .ok (.iload_n 2, 1) := dg_b78.2.2.2.2.2.1
theorem dX7_next_74 : decode cX7_next 74 = .ok (.iload_n 3, 1) := dg_b78.2.2.2.2.2.2.1
theorem dX7_next_75 : decode cX7_next 75 = .ok (.invokevirtual 228, 3) := dg_b78.2.2.2.2.2.2.2.1
theorem dX7_next_78 : decode cX7_next 78 = .ok (.ifCond .eq 25, 3) := dg_b78.2.2.2.2.2.2.2.2.1
theorem dX7_next_81 : decode cX7_next 81 = .ok (.iconst 1, 1) := dg_b78.2.2.2.2.2.2.2.2.2.1
theorem dX7_next_82 : decode cX7_next 82 = .ok (.istore 4, 2) := dg_b78.2.2.2.2.2.2.2.2.2.2.1
theorem dX7_next_84 : decode cX7_next 84 = .ok (.iload 5, 2) := dg_b78.2.2.2.2.2.2.2.2.2.2.2.1
theorem dX7_next_86 : decode cX7_next 86 = .ok (.istore_n 1, 1) := dg_b78.2.2.2.2.2.2.2.2.2.2.2.2.1
theorem dX7_next_87 : decode cX7_next 87 = .ok (.aload_n 0, 1) := dg_b78.2.2.2.2.2.2.2.2.2.2.2.2.2.1
theorem dX7_next_88 : decode cX7_next 88 = .ok (.getfield 47, 3) := dg_b78.2.2.2.2.2.2.2.2.2.2.2.2.2.2.1
theorem dX7_next_91 : decode cX7_next 91 = .ok (.getfield 127, 3) := dg_b78.2.2.2.2.2.2.2.2.2.2.2.2.2.2.2
theorem dg_b79 : (decode cX7_next 94 = .ok (.istore_n 2, 1)) ∧ (decode cX7_next 95 = .ok (.aload_n 0, 1)) ∧ (decode cX7_next 96 = .ok (.getfield 47, 3)) ∧ (decode cX7_next 99 = .ok (.getfield 124, 3)) ∧ (decode cX7_next 102 = .ok (.istore_n 3, 1)) ∧ (decode cX7_next 103 = .ok (.iinc 5 1, 3)) ∧ (decode cX7_next 106 = .ok (.goto (-78), 3)) ∧ (decode cX7_next 109 = .ok (.iload_n 1, 1)) ∧ (decode cX7_next 110 = .ok (.ireturn, 1)) := by decide +kernel
theorem dX7_next_94 : decode cX7_next 94 = .ok (.istore_n 2, 1) := dg_b79.1
theorem dX7_next_95 : decode cX7_next 95 = .ok (.aload_n 0, 1) := dg_b79.2.1
theorem dX7_next_96 : decode cX7_next 96 = .ok (.getfield 47, 3) := dg_b79.2.2.1
theorem dX7_next_99 : decode cX7_next 99 = .ok (.getfield 124, 3) := dg_b79.2.2.2.1
theorem dX7_next_102 : decode cX7_next 102 = .ok (.istore_n 3, 1) := dg_b79.2.2.2.2.1
theorem dX7_next_103 : decode cX7_next 103 = .ok (.iinc 5 1, 3) := dg_b79.2.2.2.2.2.1
theorem dX7_next_106 : decode cX7_next 106 = .ok (.goto (-78), 3) := dg_b79.2.2.2.2.2.2.1
theorem dX7_next_109 : decode cX7_next 109 = .ok (.iload_n 1, 1) := dg_b79.2.2.2.2.2.2.2.1
theorem dX7_next_110 : decode cX7_next 110 = .ok (.ireturn, 1) := dg_b79.2.2.2.2.2.2.2.2
theorem dg_b80 : (decode cX7_best 0 = .ok (.iload_n 1, 1)) ∧ (decode cX7_best 1 = .ok (.ifCond .lt 23, 3)) ∧ (decode cX7_best 4 = .ok (.iload_n 1, 1)) ∧ (decode cX7_best 5 = .ok (.iconst 4, 1)) ∧ (decode cX7_best 6 = .ok (.if_icmp .gt 18, 3)) ∧ (decode cX7_best 9 = .ok (.iload_n 2, 1)) ∧ (decode cX7_best 10 = .ok (.ifCond .lt 14, 3)) ∧ (decode cX7_best 13 = .ok (.iload_n 2, 1)) ∧ (decode cX7_best 14 = .ok (.iconst 1, 1)) ∧ (decode cX7_best 15 = .ok (.if_icmp .le 11, 3)) ∧ (decode cX7_best 18 = .ok (.iload_n 2, 1)) ∧ (decode cX7_best 19 = .ok (.bipush 10, 2)) ∧ (decode cX7_best 21 = .ok (.if_icmp .ge 5, 3)) ∧ (decode cX7_best 24 = .ok (.iconst (-1), 1)) ∧ (decode cX7_best 25 = .ok (.ireturn, 1)) ∧ (decode cX7_best 26 = .ok (.iload_n 2, 1)) := by decide +kernel
theorem dX7_best_0 : decode cX7_best 0 = .ok (.iload_n 1, 1) := dg_b80.1
theorem dX7_best_1 : decode cX7_best 1 = .ok (.ifCond .lt 23, 3) := dg_b80.2.1
theorem dX7_best_4 : decode cX7_best 4 = .ok (.iload_n 1, 1) := dg_b80.2.2.1
theorem dX7_best_5 : decode cX7_best 5 = .ok (.iconst 4, 1) := dg_b80.2.2.2.1
theorem dX7_best_6 : decode cX7_best 6 = .ok (.if_icmp .gt 18, 3) := dg_b80.2.2.2.2.1
theorem dX7_best_9 : decode cX7_best 9 = .ok (.iload_n 2, 1) := dg_b80.2.2.2.2.2.1
theorem dX7_best_10 : decode cX7_best 10 = .ok (.ifCond .lt 14, 3) := dg_b80.2.2.2.2.2.2.1
theorem dX7_best_13 : decode cX7_best 13 = .ok (.iload_n 2, 1) := dg_b80.2.2.2.2.2.2.2.1
theorem dX7_best_14 : decode cX7_best 14 = .ok (.iconst 1, 1) := dg_b80.2.2.2.2.2.2.2.2.1
theorem dX7_best_15 : decode cX7_best 15 = .ok (.if_icmp .le 11, 3) := dg_b80.2.2.2.2.2.2.2.2.2.1
theorem dX7_best_18 : decode cX7_best 18 = .ok (.iload_n 2, 1) := dg_b80.2.2.2.2.2.2.2.2.2.2.1
theorem dX7_best_19 : decode cX7_best 19 = .ok (.bipush 10, 2) := dg_b80.2.2.2.2.2.2.2.2.2.2.2.1
theorem dX7_best_21 : decode cX7_best 21 = .ok (.if_icmp .ge 5, 3) := dg_b80.2.2.2.2.2.2.2.2.2.2.2.2.1
theorem dX7_best_24 : decode cX7_best 24 = .ok (.iconst (-1), 1) := dg_b80.2.2.2.2.2.2.2.2.2.2.2.2.2.1
theorem dX7_best_25 : decode cX7_best 25 = .ok (.ireturn, 1) := dg_b80.2.2.2.2.2.2.2.2.2.2.2.2.2.2.1
theorem dX7_best_26 : decode cX7_best 26 = .ok (.iload_n 2, 1) := dg_b80.2.2.2.2.2.2.2.2.2.2.2.2.2.2.2
theorem dg_b81 : (decode cX7_best 27 = .ok (.bipush 10, 2)) ∧ (decode cX7_best 29 = .ok (.isub, 1)) ∧ (decode cX7_best 30 = .ok (.istore_n 3, 1)) ∧ (decode cX7_best 31 = .ok (.iload_n 3, 1)) ∧ (decode cX7_best 32 = .ok (.iload_n 1, 1)) ∧ (decode cX7_best 33 = .ok (.if_icmp .lt 6, 3)) ∧ (decode cX7_best 36 = .ok (.bipush (-4), 2)) ∧ (decode cX7_best 38 = .ok (.ireturn, 1)) ∧ (decode cX7_best 39 = .ok (.aload_n 0, 1)) ∧ (decode cX7_best 40 = .ok (.getfield 33, 3)) ∧ (decode cX7_best 43 = .ok (.aload_n 0, 1)) ∧ (decode cX7_best 44 = .ok (.getfield 19, 3)) ∧ (decode cX7_best 47 = .ok (.iload_n 1, 1)) ∧ (decode cX7_best 48 = .ok (.invokevirtual 231, 3)) ∧ (decode cX7_best 51 = .ok (.iload_n 2, 1)) ∧ (decode cX7_best 52 = .ok (.ifCond .ne 15, 3)) := by decide +kernel
theorem dX7_best_27 : decode cX7_best 27 = .ok (.bipush 10, 2) := dg_b81.1
theorem dX7_best_29 : decode cX7_best 29 = .ok (.isub, 1) := dg_b81.2.1
theorem dX7_best_30 : decode cX7_best 30 = .ok (.istore_n 3, 1) := dg_b81.2.2.1
theorem dX7_best_31 : decode cX7_best 31 = .ok (.iload_n 3, 1) := dg_b81.2.2.2.1
theorem dX7_best_32 : decode cX7_best 32 = .ok (.iload_n 1, 1) := dg_b81.2.2.2.2.1
theorem dX7_best_33 : decode cX7_best 33 = .ok (.if_icmp .lt 6, 3) := dg_b81.2.2.2.2.2.1
theorem dX7_best_36 : decode cX7_best 36 = .ok (.bipush (-4), 2) := dg_b81.2.2.2.2.2.2.1
theorem dX7_best_38 : decode cX7_best 38 = .ok (.ireturn, 1) := dg_b81.2.2.2.2.2.2.2.1
theorem dX7_best_39 : decode cX7_best 39 = .ok (.aload_n 0, 1) := dg_b81.2.2.2.2.2.2.2.2.1
theorem dX7_best_40 : decode cX7_best 40 = .ok (.getfield 33, 3) := dg_b81.2.2.2.2.2.2.2.2.2.1
theorem dX7_best_43 : decode cX7_best 43 = .ok (.aload_n 0, 1) := dg_b81.2.2.2.2.2.2.2.2.2.2.1
theorem dX7_best_44 : decode cX7_best 44 = .ok (.getfield 19, 3) := dg_b81.2.2.2.2.2.2.2.2.2.2.2.1
theorem dX7_best_47 : decode cX7_best 47 = .ok (.iload_n 1, 1) := dg_b81.2.2.2.2.2.2.2.2.2.2.2.2.1
theorem dX7_best_48 : decode cX7_best 48 = .ok (.invokevirtual 231, 3) := dg_b81.2.2.2.2.2.2.2.2.2.2.2.2.2.1
theorem dX7_best_51 : decode cX7_best 51 = .ok (.iload_n 2, 1) := dg_b81.2.2.2.2.2.2.2.2.2.2.2.2.2.2.1
theorem dX7_best_52 : decode cX7_best 52 = .ok (.ifCond .ne 15, 3) := dg_b81.2.2.2.2.2.2.2.2.2.2.2.2.2.2.2
theorem dg_b82 : (decode cX7_best 55 = .ok (.sipush 1000, 3)) ∧ (decode cX7_best 58 = .ok (.aload_n 0, 1)) ∧ (decode cX7_best 59 = .ok (.getfield 33, 3)) ∧ (decode cX7_best 62 = .ok (.getfield 235, 3)) ∧ (decode cX7_best 65 = .ok (.iadd, 1)) ∧ (decode cX7_best 66 = .ok (.ireturn, 1)) ∧ (decode cX7_best 67 = .ok (.iload_n 3, 1)) ∧ (decode cX7_best 68 = .ok (.ifCond .lt 15, 3)) ∧ (decode cX7_best 71 = .ok (.aload_n 0, 1)) ∧ (decode cX7_best 72 = .ok (.getfield 33, 3)) ∧ (decode cX7_best 75 = .ok (.getfield 238, 3)) ∧ (decode cX7_best 78 = .ok (.iload_n 3, 1)) ∧ (decode cX7_best 79 = .ok (.iaload, 1)) ∧ (decode cX7_best 80 = .ok (.goto 10, 3)) ∧ (decode cX7_best 83 = .ok (.aload_n 0, 1)) ∧ (decode cX7_best 84 = .ok (.getfield 33, 3)) := by decide +kernel
theorem dX7_best_55 : decode cX7_best 55 = .ok (.sipush 1000, 3) := dg_b82.1
theorem dX7_best_58 : decode cX7_best 58 = .ok (.aload_n 0, 1) := dg_b82.2.1
theorem dX7_best_59 : decode cX7_best 59 = .ok (.getfield 33, 3) := dg_b82.2.2.1
theorem dX7_best_62 : decode cX7_best 62 = .ok (.getfield 235, 3) := dg_b82.2.2.2.1
theorem dX7_best_65 : decode cX7_best 65 = .ok (.iadd, 1) := dg_b82.2.2.2.2.1
theorem dX7_best_66 : decode cX7_best 66 = .ok (.ireturn, 1) := dg_b82.2.2.2.2.2.1
theorem dX7_best_67 : decode cX7_best 67 = .ok (.iload_n 3, 1) := dg_b82.2.2.2.2.2.2.1
theorem dX7_best_68 : decode cX7_best 68 = .ok (.ifCond .lt 15, 3) := dg_b82.2.2.2.2.2.2.2.1
theorem dX7_best_71 : decode cX7_best 71 = .ok (.aload_n 0, 1) := dg_b82.2.2.2.2.2.2.2.2.1
theorem dX7_best_72 : decode cX7_best 72 = .ok (.getfield 33, 3) := dg_b82.2.2.2.2.2.2.2.2.2.1
theorem dX7_best_75 : decode cX7_best 75 = .ok (.getfield 238, 3) := dg_b82.2.2.2.2.2.2.2.2.2.2.1
theorem dX7_best_78 : decode cX7_best 78 = .ok (.iload_n 3, 1) := dg_b82.2.2.2.2.2.2.2.2.2.2.2.1
theorem dX7_best_79 : decode cX7_best 79 = .ok (.iaload, 1) := dg_b82.2.2.2.2.2.2.2.2.2.2.2.2.1
theorem dX7_best_80 : decode cX7_best 80 = .ok (.goto 10, 3) := dg_b82.2.2.2.2.2.2.2.2.2.2.2.2.2.1
theorem dX7_best_83 : decode cX7_best 83 = .ok (.aload_n 0, 1) := dg_b82.2.2.2.2.2.2.2.2.2.2.2.2.2.2.1
theorem dX7_best_84 : decode cX7_best 84 = .ok (.getfield 33, 3) := dg_b82.2.2.2.2.2.2.2.2.2.2.2.2.2.2.2
theorem dg_b83 : (decode cX7_best 87 = .ok (.getfield 241, 3)) ∧ (decode cX7_best 90 = .ok (.ireturn, 1)) := by decide +kernel
theorem dX7_best_87 : decode cX7_best 87 = .ok (.getfield 241, 3) := dg_b83.1
theorem dX7_best_90 : decode cX7_best 90 = .ok (.ireturn, 1) := dg_b83.2
theorem dg_b84 : (decode cX7_front 0 = .ok (.iload_n 1, 1)) ∧ (decode cX7_front 1 = .ok (.invokestatic 244, 3)) ∧ (decode cX7_front 4 = .ok (.ifCond .ne 5, 3)) ∧ (decode cX7_front 7 = .ok (.iconst (-1), 1)) ∧ (decode cX7_front 8 = .ok (.ireturn, 1)) ∧ (decode cX7_front 9 = .ok (.bipush (-4), 2)) ∧ (decode cX7_front 11 = .ok (.istore_n 2, 1)) ∧ (decode cX7_front 12 = .ok (.iconst 0, 1)) ∧ (decode cX7_front 13 = .ok (.istore_n 3, 1)) ∧ (decode cX7_front 14 = .ok (.iconst 0, 1)) ∧ (decode cX7_front 15 = .ok (.istore 4, 2)) ∧ (decode cX7_front 17 = .ok (.iload 4, 2)) ∧ (decode cX7_front 19 = .ok (.aload_n 0, 1)) ∧ (decode cX7_front 20 = .ok (.getfield 19, 3)) ∧ (decode cX7_front 23 = .ok (.getfield 97, 3)) ∧ (decode cX7_front 26 = .ok (.if_icmp .ge 78, 3)) := by decide +kernel
theorem dX7_front_0 : decode cX7_front 0 = .ok (.iload_n 1, 1) := dg_b84.1
theorem dX7_front_1 : decode cX7_front 1 = .ok (.invokestatic 244, 3) := dg_b84.2.1
theorem dX7_front_4 : decode cX7_front 4 = .ok (.ifCond .ne 5, 3) := dg_b84.2.2.1
theorem dX7_front_7 : decode cX7_front 7 = .ok (.iconst (-1), 1) := dg_b84.2.2.2.1
theorem dX7_front_8 : decode cX7_front 8 = .ok (.ireturn, 1) := dg_b84.2.2.2.2.1
theorem dX7_front_9 : decode cX7_front 9 = .ok (.bipush (-4), 2) := dg_b84.2.2.2.2.2.1
theorem dX7_front_11 : decode cX7_front 11 = .ok (.istore_n 2, 1) := dg_b84.2.2.2.2.2.2.1
theorem dX7_front_12 : decode cX7_front 12 = .ok (.iconst 0, 1) := dg_b84.2.2.2.2.2.2.2.1
theorem dX7_front_13 : decode cX7_front 13 = .ok (.istore_n 3, 1) := dg_b84.2.2.2.2.2.2.2.2.1
theorem dX7_front_14 : decode cX7_front 14 = .ok (.iconst 0, 1) := dg_b84.2.2.2.2.2.2.2.2.2.1
theorem dX7_front_15 : decode cX7_front 15 = .ok (.istore 4, 2) := dg_b84.2.2.2.2.2.2.2.2.2.2.1
theorem dX7_front_17 : decode cX7_front 17 = .ok (.iload 4, 2) := dg_b84.2.2.2.2.2.2.2.2.2.2.2.1
theorem dX7_front_19 : decode cX7_front 19 = .ok (.aload_n 0, 1) := dg_b84.2.2.2.2.2.2.2.2.2.2.2.2.1
theorem dX7_front_20 : decode cX7_front 20 = .ok (.getfield 19, 3) := dg_b84.2.2.2.2.2.2.2.2.2.2.2.2.2.1
theorem dX7_front_23 : decode cX7_front 23 = .ok (.getfield 97, 3) := dg_b84.2.2.2.2.2.2.2.2.2.2.2.2.2.2.1
theorem dX7_front_26 : decode cX7_front 26 = .ok (.if_icmp .ge 78, 3) := dg_b84.2.2.2.2.2.2.2.2.2.2.2.2.2.2.2
theorem dg_b85 : (decode cX7_front 29 = .ok (.aload_n 0, 1)) ∧ (decode cX7_front 30 = .ok (.getfield 26, 3)) ∧ (decode cX7_front 33 = .ok (.aload_n 0, 1)) ∧ (decode cX7_front 34 = .ok (.getfield 19, 3)) ∧ (decode cX7_front 37 = .ok (.invokevirtual 206, 3)) ∧ (decode cX7_front 40 = .ok (.aload_n 0, 1)) ∧ (decode cX7_front 41 = .ok (.getfield 26, 3)) ∧ (decode cX7_front 44 = .ok (.getfield 212, 3)) ∧ (decode cX7_front 47 = .ok (.iload 4, 2)) ∧ (decode cX7_front 49 = .ok (.putfield 100, 3)) ∧ (decode cX7_front 52 = .ok (.aload_n 0, 1)) ∧ (decode cX7_front 53 = .ok (.getfield 26, 3)) ∧ (decode cX7_front 56 = .ok (.invokevirtual 209, 3)) ∧ (decode cX7_front 59 = .ok (.aload_n 0, 1)) ∧ (decode cX7_front 60 = .ok (.getfield 26, 3)) ∧ (decode cX7_front 63 = .ok (.getfield 212, 3)) := by decide +kernel
theorem dX7_front_29 : decode cX7_front 29 = .ok (.aload_n 0, 1) := dg_b85.1
theorem dX7_front_30 : decode cX7_front 30 = .ok (.getfield 26, 3) := dg_b85.2.1
theorem dX7_front_33 : decode cX7_front 33 = .ok (.aload_n 0, 1) := dg_b85.2.2.1
theorem dX7_front_34 : decode cX7_front 34 = .ok (.getfield 19, 3) := dg_b85.2.2.2.1
theorem dX7_front_37 : decode cX7_front 37 = .ok (.invokevirtual 206, 3) := dg_b85.2.2.2.2.1
theorem dX7_front_40 : decode cX7_front 40 = .ok (.aload_n 0, 1) := dg_b85.2.2.2.2.2.1
theorem dX7_front_41 : decode cX7_front 41 = .ok (.getfield 26, 3) := dg_b85.2.2.2.2.2.2.1
theorem dX7_front_44 : decode cX7_front 44 = .ok (.getfield 212, 3) := dg_b85.2.2.2.2.2.2.2.1
theorem dX7_front_47 : decode cX7_front 47 = .ok (.iload 4, 2) := dg_b85.2.2.2.2.2.2.2.2.1
theorem dX7_front_49 : decode cX7_front 49 = .ok (.putfield 100, 3) := dg_b85.2.2.2.2.2.2.2.2.2.1
theorem dX7_front_52 : decode cX7_front 52 = .ok (.aload_n 0, 1) := dg_b85.2.2.2.2.2.2.2.2.2.2.1
theorem dX7_front_53 : decode cX7_front 53 = .ok (.getfield 26, 3) := dg_b85.2.2.2.2.2.2.2.2.2.2.2.1
theorem dX7_front_56 : decode cX7_front 56 = .ok (.invokevirtual 209, 3) := dg_b85.2.2.2.2.2.2.2.2.2.2.2.2.1
theorem dX7_front_59 : decode cX7_front 59 = .ok (.aload_n 0, 1) := dg_b85.2.2.2.2.2.2.2.2.2.2.2.2.2.1
theorem dX7_front_60 : decode cX7_front 60 = .ok (.getfield 26, 3) := dg_b85.2.2.2.2.2.2.2.2.2.2.2.2.2.2.1
theorem dX7_front_63 : decode cX7_front 63 = .ok (.getfield 212, 3) := dg_b85.2.2.2.2.2.2.2.2.2.2.2.2.2.2.2
theorem dg_b86 : (decode cX7_front 66 = .ok (.getfield 112, 3)) ∧ (decode cX7_front 69 = .ok (.getfield 127, 3)) ∧ (decode cX7_front 72 = .ok (.istore 5, 2)) ∧ (decode cX7_front 74 = .ok (.iload_n 2, 1)) ∧ (decode cX7_front 75 = .ok (.bipush (-4), 2)) ∧ (decode cX7_front 77 = .ok (.if_icmp .eq 15, 3)) ∧ (decode cX7_front 80 = .ok (.iload 5, 2)) ∧ (decode cX7_front 82 = .ok (.invokestatic 247, 3)) ∧ (decode cX7_front 85 = .ok (.iload_n 3, 1)) ∧ (decode cX7_front 86 = .ok (.invokestatic 247, 3)) ∧ (decode cX7_front 89 = .ok (.if_icmp .ge 9, 3)) ∧ (decode cX7_front 92 = .ok (.iload 4, 2)) ∧ (decode cX7_front 94 = .ok (.istore_n 2, 1)) ∧ (decode cX7_front 95 = .ok (.iload 5, 2)) ∧ (decode cX7_front 97 = .ok (.istore_n 3, 1)) ∧ (decode cX7_front 98 = .ok (.iinc 4 1, 3)) := by decide +kernel
theorem dX7_front_66 : decode cX7_front 66 = .ok (.getfield 112, 3) := dg_b86.1
theorem dX7_front_69 : decode cX7_front 69 = .ok (.getfield 127, 3) := dg_b86.2.1
theorem dX7_front_72 : decode cX7_front 72 = .ok (.istore 5, 2) := dg_b86.2.2.1
theorem dX7_front_74 : decode cX7_front 74 = .ok (.iload_n 2, 1) := dg_b86.2.2.2.1
theorem dX7_front_75 : decode cX7_front 75 = .ok (.bipush (-4), 2) := dg_b86.2.2.2.2.1
theorem dX7_front_77 : decode cX7_front 77 = .ok (.if_icmp .eq 15, 3) := dg_b86.2.2.2.2.2.1
theorem dX7_front_80 : decode cX7_front 80 = .ok (.iload 5, 2) := dg_b86.2.2.2.2.2.2.1
theorem dX7_front_82 : decode cX7_front 82 = .ok (.invokestatic 247, 3) := dg_b86.2.2.2.2.2.2.2.1
theorem dX7_front_85 : decode cX7_front 85 = .ok (.iload_n 3, 1) := dg_b86.2.2.2.2.2.2.2.2.1
theorem dX7_front_86 : decode cX7_front 86 = .ok (.invokestatic 247, 3) := dg_b86.2.2.2.2.2.2.2.2.2.1
theorem dX7_front_89 : decode cX7_front 89 = .ok (.if_icmp .ge 9, 3) := dg_b86.2.2.2.2.2.2.2.2.2.2.1
theorem dX7_front_92 : decode cX7_front 92 = .ok (.iload 4, 2) := dg_b86.2.2.2.2.2.2.2.2.2.2.2.1
theorem dX7_front_94 : decode cX7_front 94 = .ok (.istore_n 2, 1) := dg_b86.2.2.2.2.2.2.2.2.2.2.2.2.1
theorem dX7_front_95 : decode cX7_front 95 = .ok (.iload 5, 2) := dg_b86.2.2.2.2.2.2.2.2.2.2.2.2.2.1
theorem dX7_front_97 : decode cX7_front 97 = .ok (.istore_n 3, 1) := dg_b86.2.2.2.2.2.2.2.2.2.2.2.2.2.2.1
theorem dX7_front_98 : decode cX7_front 98 = .ok (.iinc 4 1, 3) := dg_b86.2.2.2.2.2.2.2.2.2.2.2.2.2.2.2
theorem dg_b87 : (decode cX7_front 101 = .ok (.goto (-84), 3)) ∧ (decode cX7_front 104 = .ok (.iload_n 1, 1)) ∧ (decode cX7_front 105 = .ok (.ifCond .eq 9, 3)) ∧ (decode cX7_front 108 = .ok (.iload_n 2, 1)) ∧ (decode cX7_front 109 = .ok (.bipush (-4), 2)) ∧ (decode cX7_front 111 = .ok (.if_icmp .ne 7, 3)) ∧ (decode cX7_front 114 = .ok (.iload_n 2, 1)) ∧ (decode cX7_front 115 = .ok (.goto 8, 3)) ∧ (decode cX7_front 118 = .ok (.sipush 1000, 3)) ∧ (decode cX7_front 121 = .ok (.iload_n 3, 1)) ∧ (decode cX7_front 122 = .ok (.iadd, 1)) ∧ (decode cX7_front 123 = .ok (.ireturn, 1)) := by decide +kernel
theorem dX7_front_101 : decode cX7_front 101 = .ok (.goto (-84), 3) := dg_b87.1
theorem dX7_front_104 : decode cX7_front 104 = .ok (.iload_n 1, 1) := dg_b87.2.1
theorem dX7_front_105 : decode cX7_front 105 = .ok (.ifCond .eq 9, 3) := dg_b87.2.2.1
theorem dX7_front_108 : decode cX7_front 108 = .ok (.iload_n 2, 1) := dg_b87.2.2.2.1
theorem dX7_front_109 : decode cX7_front 109 = .ok (.bipush (-4), 2) := dg_b87.2.2.2.2.1
theorem dX7_front_111 : decode cX7_front 111 = .ok (.if_icmp .ne 7, 3) := dg_b87.2.2.2.2.2.1
theorem dX7_front_114 : decode cX7_front 114 = .ok (.iload_n 2, 1) := dg_b87.2.2.2.2.2.2.1
theorem dX7_front_115 : decode cX7_front 115 = .ok (.goto 8, 3) := dg_b87.2.2.2.2.2.2.2.1
theorem dX7_front_118 : decode cX7_front 118 = .ok (.sipush 1000, 3) := dg_b87.2.2.2.2.2.2.2.2.1
theorem dX7_front_121 : decode cX7_front 121 = .ok (.iload_n 3, 1) := dg_b87.2.2.2.2.2.2.2.2.2.1
theorem dX7_front_122 : decode cX7_front 122 = .ok (.iadd, 1) := dg_b87.2.2.2.2.2.2.2.2.2.2.1
theorem dX7_front_123 : decode cX7_front 123 = .ok (.ireturn, 1) := dg_b87.2.2.2.2.2.2.2.2.2.2.2
theorem dg_b88 : (decode cX7_lessons 0 = .ok (.iload_n 1, 1)) ∧ (decode cX7_lessons 1 = .ok (.invokestatic 244, 3)) ∧ (decode cX7_lessons 4 = .ok (.ifCond .ne 5, 3)) ∧ (decode cX7_lessons 7 = .ok (.iconst (-1), 1)) ∧ (decode cX7_lessons 8 = .ok (.ireturn, 1)) ∧ (decode cX7_lessons 9 = .ok (.bipush (-4), 2)) ∧ (decode cX7_lessons 11 = .ok (.istore_n 2, 1)) ∧ (decode cX7_lessons 12 = .ok (.bipush (-4), 2)) ∧ (decode cX7_lessons 14 = .ok (.istore_n 3, 1)) ∧ (decode cX7_lessons 15 = .ok (.iconst 0, 1)) ∧ (decode cX7_lessons 16 = .ok (.istore 4, 2)) ∧ (decode cX7_lessons 18 = .ok (.iload 4, 2)) ∧ (decode cX7_lessons 20 = .ok (.iconst 1, 1)) ∧ (decode cX7_lessons 21 = .ok (.aload_n 0, 1)) ∧ (decode cX7_lessons 22 = .ok (.getfield 19, 3)) ∧ (decode cX7_lessons 25 = .ok (.getfield 94, 3)) := by decide +kernel
theorem dX7_lessons_0 : decode cX7_lessons 0 = .ok (.iload_n 1, 1) := dg_b88.1
theorem dX7_lessons_1 : decode cX7_lessons 1 = .ok (.invokestatic 244, 3) := dg_b88.2.1
theorem dX7_lessons_4 : decode cX7_lessons 4 = .ok (.ifCond .ne 5, 3) := dg_b88.2.2.1
theorem dX7_lessons_7 : decode cX7_lessons 7 = .ok (.iconst (-1), 1) := dg_b88.2.2.2.1
theorem dX7_lessons_8 : decode cX7_lessons 8 = .ok (.ireturn, 1) := dg_b88.2.2.2.2.1
theorem dX7_lessons_9 : decode cX7_lessons 9 = .ok (.bipush (-4), 2) := dg_b88.2.2.2.2.2.1
theorem dX7_lessons_11 : decode cX7_lessons 11 = .ok (.istore_n 2, 1) := dg_b88.2.2.2.2.2.2.1
theorem dX7_lessons_12 : decode cX7_lessons 12 = .ok (.bipush (-4), 2) := dg_b88.2.2.2.2.2.2.2.1
theorem dX7_lessons_14 : decode cX7_lessons 14 = .ok (.istore_n 3, 1) := dg_b88.2.2.2.2.2.2.2.2.1
theorem dX7_lessons_15 : decode cX7_lessons 15 = .ok (.iconst 0, 1) := dg_b88.2.2.2.2.2.2.2.2.2.1
theorem dX7_lessons_16 : decode cX7_lessons 16 = .ok (.istore 4, 2) := dg_b88.2.2.2.2.2.2.2.2.2.2.1
theorem dX7_lessons_18 : decode cX7_lessons 18 = .ok (.iload 4, 2) := dg_b88.2.2.2.2.2.2.2.2.2.2.2.1
theorem dX7_lessons_20 : decode cX7_lessons 20 = .ok (.iconst 1, 1) := dg_b88.2.2.2.2.2.2.2.2.2.2.2.2.1
theorem dX7_lessons_21 : decode cX7_lessons 21 = .ok (.aload_n 0, 1) := dg_b88.2.2.2.2.2.2.2.2.2.2.2.2.2.1
theorem dX7_lessons_22 : decode cX7_lessons 22 = .ok (.getfield 19, 3) := dg_b88.2.2.2.2.2.2.2.2.2.2.2.2.2.2.1
theorem dX7_lessons_25 : decode cX7_lessons 25 = .ok (.getfield 94, 3) := dg_b88.2.2.2.2.2.2.2.2.2.2.2.2.2.2.2
theorem dg_b89 : (decode cX7_lessons 28 = .ok (.ishl, 1)) ∧ (decode cX7_lessons 29 = .ok (.if_icmp .ge 76, 3)) ∧ (decode cX7_lessons 32 = .ok (.iload 4, 2)) ∧ (decode cX7_lessons 34 = .ok (.invokestatic 252, 3)) ∧ (decode cX7_lessons 37 = .ok (.istore 5, 2)) ∧ (decode cX7_lessons 39 = .ok (.iload_n 2, 1)) ∧ (decode cX7_lessons 40 = .ok (.bipush (-4), 2)) ∧ (decode cX7_lessons 42 = .ok (.if_icmp .eq 9, 3)) ∧ (decode cX7_lessons 45 = .ok (.iload 5, 2)) ∧ (decode cX7_lessons 47 = .ok (.iload_n 2, 1)) ∧ (decode cX7_lessons 48 = .ok (.if_icmp .ge 7, 3)) ∧ (decode cX7_lessons 51 = .ok (.iconst 1, 1)) ∧ (decode cX7_lessons 52 = .ok (.goto 4, 3)) ∧ (decode cX7_lessons 55 = .ok (.iconst 0, 1)) ∧ (decode cX7_lessons 56 = .ok (.istore 6, 2)) ∧ (decode cX7_lessons 58 = .ok (.iload 4, 2)) := by decide +kernel
theorem dX7_lessons_28 : decode cX7_lessons 28 = .ok (.ishl, 1) := dg_b89.1
theorem dX7_lessons_29 : decode cX7_lessons 29 = .ok (.if_icmp .ge 76, 3) := dg_b89.2.1
theorem dX7_lessons_32 : decode cX7_lessons 32 = .ok (.iload 4, 2) := dg_b89.2.2.1
theorem dX7_lessons_34 : decode cX7_lessons 34 = .ok (.invokestatic 252, 3) := dg_b89.2.2.2.1
theorem dX7_lessons_37 : decode cX7_lessons 37 = .ok (.istore 5, 2) := dg_b89.2.2.2.2.1
theorem dX7_lessons_39 : decode cX7_lessons 39 = .ok (.iload_n 2, 1) := dg_b89.2.2.2.2.2.1
theorem dX7_lessons_40 : decode cX7_lessons 40 = .ok (.bipush (-4), 2) := dg_b89.2.2.2.2.2.2.1
theorem dX7_lessons_42 : decode cX7_lessons 42 = .ok (.if_icmp .eq 9, 3) := dg_b89.2.2.2.2.2.2.2.1
theorem dX7_lessons_45 : decode cX7_lessons 45 = .ok (.iload 5, 2) := dg_b89.2.2.2.2.2.2.2.2.1
theorem dX7_lessons_47 : decode cX7_lessons 47 = .ok (.iload_n 2, 1) := dg_b89.2.2.2.2.2.2.2.2.2.1
theorem dX7_lessons_48 : decode cX7_lessons 48 = .ok (.if_icmp .ge 7, 3) := dg_b89.2.2.2.2.2.2.2.2.2.2.1
theorem dX7_lessons_51 : decode cX7_lessons 51 = .ok (.iconst 1, 1) := dg_b89.2.2.2.2.2.2.2.2.2.2.2.1
theorem dX7_lessons_52 : decode cX7_lessons 52 = .ok (.goto 4, 3) := dg_b89.2.2.2.2.2.2.2.2.2.2.2.2.1
theorem dX7_lessons_55 : decode cX7_lessons 55 = .ok (.iconst 0, 1) := dg_b89.2.2.2.2.2.2.2.2.2.2.2.2.2.1
theorem dX7_lessons_56 : decode cX7_lessons 56 = .ok (.istore 6, 2) := dg_b89.2.2.2.2.2.2.2.2.2.2.2.2.2.2.1
theorem dX7_lessons_58 : decode cX7_lessons 58 = .ok (.iload 4, 2) := dg_b89.2.2.2.2.2.2.2.2.2.2.2.2.2.2.2
theorem dg_b90 : (decode cX7_lessons 60 = .ok (.aload_n 0, 1)) ∧ (decode cX7_lessons 61 = .ok (.getfield 19, 3)) ∧ (decode cX7_lessons 64 = .ok (.getfield 187, 3)) ∧ (decode cX7_lessons 67 = .ok (.iand, 1)) ∧ (decode cX7_lessons 68 = .ok (.ifCond .ne 31, 3)) ∧ (decode cX7_lessons 71 = .ok (.iload 6, 2)) ∧ (decode cX7_lessons 73 = .ok (.ifCond .eq 26, 3)) ∧ (decode cX7_lessons 76 = .ok (.aload_n 0, 1)) ∧ (decode cX7_lessons 77 = .ok (.aload_n 0, 1)) ∧ (decode cX7_lessons 78 = .ok (.getfield 19, 3)) ∧ (decode cX7_lessons 81 = .ok (.getfield 187, 3)) ∧ (decode cX7_lessons 84 = .ok (.iload 4, 2)) ∧ (decode cX7_lessons 86 = .ok (.ior, 1)) ∧ (decode cX7_lessons 87 = .ok (.invokevirtual 257, 3)) ∧ (decode cX7_lessons 90 = .ok (.ifCond .eq 9, 3)) ∧ (decode cX7_lessons 93 = .ok (.iload 5, 2)) := by decide +kernel
theorem dX7_lessons_60 : decode cX7_lessons 60 = .ok (.aload_n 0, 1) := dg_b90.1
theorem dX7_lessons_61 : decode cX7_lessons 61 = .ok (.getfield 19, 3) := dg_b90.2.1
theorem dX7_lessons_64 : decode cX7_lessons 64 = .ok (.getfield 187, 3) := dg_b90.2.2.1
theorem dX7_lessons_67 : decode cX7_lessons 67 = .ok (.iand, 1) := dg_b90.2.2.2.1
theorem dX7_lessons_68 : decode cX7_lessons 68 = .ok (.ifCond .ne 31, 3) := dg_b90.2.2.2.2.1
theorem dX7_lessons_71 : decode cX7_lessons 71 = .ok (.iload 6, 2) := dg_b90.2.2.2.2.2.1
theorem dX7_lessons_73 : decode cX7_lessons 73 = .ok (.ifCond .eq 26, 3) := dg_b90.2.2.2.2.2.2.1
theorem dX7_lessons_76 : decode cX7_lessons 76 = .ok (.aload_n 0, 1) := dg_b90.2.2.2.2.2.2.2.1
theorem dX7_lessons_77 : decode cX7_lessons 77 = .ok (.aload_n 0, 1) := dg_b90.2.2.2.2.2.2.2.2.1
theorem dX7_lessons_78 : decode cX7_lessons 78 = .ok (.getfield 19, 3) := dg_b90.2.2.2.2.2.2.2.2.2.1
theorem dX7_lessons_81 : decode cX7_lessons 81 = .ok (.getfield 187, 3) := dg_b90.2.2.2.2.2.2.2.2.2.2.1
theorem dX7_lessons_84 : decode cX7_lessons 84 = .ok (.iload 4, 2) := dg_b90.2.2.2.2.2.2.2.2.2.2.2.1
theorem dX7_lessons_86 : decode cX7_lessons 86 = .ok (.ior, 1) := dg_b90.2.2.2.2.2.2.2.2.2.2.2.2.1
theorem dX7_lessons_87 : decode cX7_lessons 87 = .ok (.invokevirtual 257, 3) := dg_b90.2.2.2.2.2.2.2.2.2.2.2.2.2.1
theorem dX7_lessons_90 : decode cX7_lessons 90 = .ok (.ifCond .eq 9, 3) := dg_b90.2.2.2.2.2.2.2.2.2.2.2.2.2.2.1
theorem dX7_lessons_93 : decode cX7_lessons 93 = .ok (.iload 5, 2) := dg_b90.2.2.2.2.2.2.2.2.2.2.2.2.2.2.2
theorem dg_b91 : (decode cX7_lessons 95 = .ok (.istore_n 2, 1)) ∧ (decode cX7_lessons 96 = .ok (.iload 4, 2)) ∧ (decode cX7_lessons 98 = .ok (.istore_n 3, 1)) ∧ (decode cX7_lessons 99 = .ok (.iinc 4 1, 3)) ∧ (decode cX7_lessons 102 = .ok (.goto (-84), 3)) ∧ (decode cX7_lessons 105 = .ok (.iload_n 1, 1)) ∧ (decode cX7_lessons 106 = .ok (.ifCond .ne 7, 3)) ∧ (decode cX7_lessons 109 = .ok (.iload_n 2, 1)) ∧ (decode cX7_lessons 110 = .ok (.goto 4, 3)) ∧ (decode cX7_lessons 113 = .ok (.iload_n 3, 1)) ∧ (decode cX7_lessons 114 = .ok (.ireturn, 1)) := by decide +kernel
theorem dX7_lessons_95 : decode cX7_lessons 95 = .ok (.istore_n 2, 1) := dg_b91.1
theorem dX7_lessons_96 : decode cX7_lessons 96 = .ok (.iload 4, 2) := dg_b91.2.1
theorem dX7_lessons_98 : decode cX7_lessons 98 = .ok (.istore_n 3, 1) := dg_b91.2.2.1
theorem dX7_lessons_99 : decode cX7_lessons 99 = .ok (.iinc 4 1, 3) := dg_b91.2.2.2.1
theorem dX7_lessons_102 : decode cX7_lessons 102 = .ok (.goto (-84), 3) := dg_b91.2.2.2.2.1
theorem dX7_lessons_105 : decode cX7_lessons 105 = .ok (.iload_n 1, 1) := dg_b91.2.2.2.2.2.1
theorem dX7_lessons_106 : decode cX7_lessons 106 = .ok (.ifCond .ne 7, 3) := dg_b91.2.2.2.2.2.2.1
theorem dX7_lessons_109 : decode cX7_lessons 109 = .ok (.iload_n 2, 1) := dg_b91.2.2.2.2.2.2.2.1
theorem dX7_lessons_110 : decode cX7_lessons 110 = .ok (.goto 4, 3) := dg_b91.2.2.2.2.2.2.2.2.1
theorem dX7_lessons_113 : decode cX7_lessons 113 = .ok (.iload_n 3, 1) := dg_b91.2.2.2.2.2.2.2.2.2.1
theorem dX7_lessons_114 : decode cX7_lessons 114 = .ok (.ireturn, 1) := dg_b91.2.2.2.2.2.2.2.2.2.2
theorem dg_b92 : (decode cX7_isOnTheWayKnowing 0 = .ok (.aload_n 0, 1)) ∧ (decode cX7_isOnTheWayKnowing 1 = .ok (.getfield 26, 3)) ∧ (decode cX7_isOnTheWayKnowing 4 = .ok (.aload_n 0, 1)) ∧ (decode cX7_isOnTheWayKnowing 5 = .ok (.getfield 19, 3)) ∧ (decode cX7_isOnTheWayKnowing 8 = .ok (.invokevirtual 206, 3)) ∧ (decode cX7_isOnTheWayKnowing 11 = .ok (.aload_n 0, 1)) ∧ (decode cX7_isOnTheWayKnowing 12 = .ok (.getfield 26, 3)) ∧ (decode cX7_isOnTheWayKnowing 15 = .ok (.getfield 212, 3)) ∧ (decode cX7_isOnTheWayKnowing 18 = .ok (.iload_n 1, 1)) ∧ (decode cX7_isOnTheWayKnowing 19 = .ok (.putfield 187, 3)) ∧ (decode cX7_isOnTheWayKnowing 22 = .ok (.aload_n 0, 1)) ∧ (decode cX7_isOnTheWayKnowing 23 = .ok (.getfield 26, 3)) ∧ (decode cX7_isOnTheWayKnowing 26 = .ok (.invokevirtual 209, 3)) ∧ (decode cX7_isOnTheWayKnowing 29 = .ok (.aload_n 0, 1)) ∧ (decode cX7_isOnTheWayKnowing 30 = .ok (.getfield 26, 3)) ∧ (decode cX7_isOnTheWayKnowing 33 = .ok (.getfield 212, 3)) := by decide +kernel
theorem dX7_isOnTheWayKnowing_0 : decode cX7_isOnTheWayKnowing 0 = .ok (.aload_n 0, 1) := dg_b92.1
theorem dX7_isOnTheWayKnowing_1 : decode cX7_isOnTheWayKnowing 1 = .ok (.getfield 26, 3) := dg_b92.2.1
theorem dX7_isOnTheWayKnowing_4 : decode cX7_isOnTheWayKnowing 4 = .ok (.aload_n 0, 1) := dg_b92.2.2.1
theorem dX7_isOnTheWayKnowing_5 : decode cX7_isOnTheWayKnowing 5 = .ok (.getfield 19, 3) := dg_b92.2.2.2.1
theorem dX7_isOnTheWayKnowing_8 : decode cX7_isOnTheWayKnowing 8 = .ok (.invokevirtual 206, 3) := dg_b92.2.2.2.2.1
theorem dX7_isOnTheWayKnowing_11 : decode cX7_isOnTheWayKnowing 11 = .ok (.aload_n 0, 1) := dg_b92.2.2.2.2.2.1
theorem dX7_isOnTheWayKnowing_12 : decode cX7_isOnTheWayKnowing 12 = .ok (.getfield 26, 3) := dg_b92.2.2.2.2.2.2.1
theorem dX7_isOnTheWayKnowing_15 : decode cX7_isOnTheWayKnowing 15 = .ok (.getfield 212, 3) := dg_b92.2.2.2.2.2.2.2.1
theorem dX7_isOnTheWayKnowing_18 : decode cX7_isOnTheWayKnowing 18 = .ok (.iload_n 1, 1) := dg_b92.2.2.2.2.2.2.2.2.1
theorem dX7_isOnTheWayKnowing_19 : decode cX7_isOnTheWayKnowing 19 = .ok (.putfield 187, 3) := dg_b92.2.2.2.2.2.2.2.2.2.1
theorem dX7_isOnTheWayKnowing_22 : decode cX7_isOnTheWayKnowing 22 = .ok (.aload_n 0, 1) := dg_b92.2.2.2.2.2.2.2.2.2.2.1
theorem dX7_isOnTheWayKnowing_23 : decode cX7_isOnTheWayKnowing 23 = .ok (.getfield 26, 3) := dg_b92.2.2.2.2.2.2.2.2.2.2.2.1
theorem dX7_isOnTheWayKnowing_26 : decode cX7_isOnTheWayKnowing 26 = .ok (.invokevirtual 209, 3) := dg_b92.2.2.2.2.2.2.2.2.2.2.2.2.1
theorem dX7_isOnTheWayKnowing_29 : decode cX7_isOnTheWayKnowing 29 = .ok (.aload_n 0, 1) := dg_b92.2.2.2.2.2.2.2.2.2.2.2.2.2.1
theorem dX7_isOnTheWayKnowing_30 : decode cX7_isOnTheWayKnowing 30 = .ok (.getfield 26, 3) := dg_b92.2.2.2.2.2.2.2.2.2.2.2.2.2.2.1
theorem dX7_isOnTheWayKnowing_33 : decode cX7_isOnTheWayKnowing 33 = .ok (.getfield 212, 3) := dg_b92.2.2.2.2.2.2.2.2.2.2.2.2.2.2.2
theorem dg_b93 : (decode cX7_isOnTheWayKnowing 36 = .ok (.aload_n 0, 1)) ∧ (decode cX7_isOnTheWayKnowing 37 = .ok (.getfield 26, 3)) ∧ (decode cX7_isOnTheWayKnowing 40 = .ok (.getfield 212, 3)) ∧ (decode cX7_isOnTheWayKnowing 43 = .ok (.getfield 112, 3)) ∧ (decode cX7_isOnTheWayKnowing 46 = .ok (.invokevirtual 260, 3)) ∧ (decode cX7_isOnTheWayKnowing 49 = .ok (.ireturn, 1)) := by decide +kernel
theorem dX7_isOnTheWayKnowing_36 : decode cX7_isOnTheWayKnowing 36 = .ok (.aload_n 0, 1) := dg_b93.1
theorem dX7_isOnTheWayKnowing_37 : decode cX7_isOnTheWayKnowing 37 = .ok (.getfield 26, 3) := dg_b93.2.1
theorem dX7_isOnTheWayKnowing_40 : decode cX7_isOnTheWayKnowing 40 = .ok (.getfield 212, 3) := dg_b93.2.2.1
theorem dX7_isOnTheWayKnowing_43 : decode cX7_isOnTheWayKnowing 43 = .ok (.getfield 112, 3) := dg_b93.2.2.2.1
theorem dX7_isOnTheWayKnowing_46 : decode cX7_isOnTheWayKnowing 46 = .ok (.invokevirtual 260, 3) := dg_b93.2.2.2.2.1
theorem dX7_isOnTheWayKnowing_49 : decode cX7_isOnTheWayKnowing 49 = .ok (.ireturn, 1) := dg_b93.2.2.2.2.2
theorem dg_b94 : (decode cX7_thirst 0 = .ok (.iconst 0, 1)) ∧ (decode cX7_thirst 1 = .ok (.istore_n 1, 1)) ∧ (decode cX7_thirst 2 = .ok (.iload_n 1, 1)) ∧ (decode cX7_thirst 3 = .ok (.bipush 40, 2)) ∧ (decode cX7_thirst 5 = .ok (.if_icmp .gt 55, 3)) ∧ (decode cX7_thirst 8 = .ok (.aload_n 0, 1)) ∧ (decode cX7_thirst 9 = .ok (.getfield 26, 3)) ∧ (decode cX7_thirst 12 = .ok (.aload_n 0, 1)) ∧ (decode cX7_thirst 13 = .ok (.getfield 19, 3)) ∧ (decode cX7_thirst 16 = .ok (.invokevirtual 206, 3)) ∧ (decode cX7_thirst 19 = .ok (.aload_n 0, 1)) ∧ (decode cX7_thirst 20 = .ok (.getfield 26, 3)) ∧ (decode cX7_thirst 23 = .ok (.getfield 212, 3)) ∧ (decode cX7_thirst 26 = .ok (.getfield 112, 3)) ∧ (decode cX7_thirst 29 = .ok (.iload_n 1, 1)) ∧ (decode cX7_thirst 30 = .ok (.putfield 115, 3)) := by decide +kernel
theorem dX7_thirst_0 : decode cX7_thirst 0 = .ok (.iconst 0, 1) := dg_b94.1
theorem dX7_thirst_1 : decode cX7_thirst 1 = .ok (.istore_n 1, 1) := dg_b94.2.1
theorem dX7_thirst_2 : decode cX7_thirst 2 = .ok (.iload_n 1, 1) := dg_b94.2.2.1
theorem dX7_thirst_3 : decode cX7_thirst 3 = .ok (.bipush 40, 2) := dg_b94.2.2.2.1
theorem dX7_thirst_5 : decode cX7_thirst 5 = .ok (.if_icmp .gt 55, 3) := dg_b94.2.2.2.2.1
theorem dX7_thirst_8 : decode cX7_thirst 8 = .ok (.aload_n 0, 1) := dg_b94.2.2.2.2.2.1
theorem dX7_thirst_9 : decode cX7_thirst 9 = .ok (.getfield 26, 3) := dg_b94.2.2.2.2.2.2.1
theorem dX7_thirst_12 : decode cX7_thirst 12 = .ok (.aload_n 0, 1) := dg_b94.2.2.2.2.2.2.2.1
theorem dX7_thirst_13 : decode cX7_thirst 13 = .ok (.getfield 19, 3) := dg_b94.2.2.2.2.2.2.2.2.1
theorem dX7_thirst_16 : decode cX7_thirst 16 = .ok (.invokevirtual 206, 3) := dg_b94.2.2.2.2.2.2.2.2.2.1
theorem dX7_thirst_19 : decode cX7_thirst 19 = .ok (.aload_n 0, 1) := dg_b94.2.2.2.2.2.2.2.2.2.2.1
theorem dX7_thirst_20 : decode cX7_thirst 20 = .ok (.getfield 26, 3) := dg_b94.2.2.2.2.2.2.2.2.2.2.2.1
theorem dX7_thirst_23 : decode cX7_thirst 23 = .ok (.getfield 212, 3) := dg_b94.2.2.2.2.2.2.2.2.2.2.2.2.1
theorem dX7_thirst_26 : decode cX7_thirst 26 = .ok (.getfield 112, 3) := dg_b94.2.2.2.2.2.2.2.2.2.2.2.2.2.1
theorem dX7_thirst_29 : decode cX7_thirst 29 = .ok (.iload_n 1, 1) := dg_b94.2.2.2.2.2.2.2.2.2.2.2.2.2.2.1
theorem dX7_thirst_30 : decode cX7_thirst 30 = .ok (.putfield 115, 3) := dg_b94.2.2.2.2.2.2.2.2.2.2.2.2.2.2.2
theorem dg_b95 : (decode cX7_thirst 33 = .ok (.aload_n 0, 1)) ∧ (decode cX7_thirst 34 = .ok (.getfield 26, 3)) ∧ (decode cX7_thirst 37 = .ok (.invokevirtual 209, 3)) ∧ (decode cX7_thirst 40 = .ok (.aload_n 0, 1)) ∧ (decode cX7_thirst 41 = .ok (.getfield 26, 3)) ∧ (decode cX7_thirst 44 = .ok (.getfield 218, 3)) ∧ (decode cX7_thirst 47 = .ok (.bipush (-4), 2)) ∧ (decode cX7_thirst 49 = .ok (.if_icmp .ne 5, 3)) ∧ (decode cX7_thirst 52 = .ok (.iload_n 1, 1)) ∧ (decode cX7_thirst 53 = .ok (.ireturn, 1)) ∧ (decode cX7_thirst 54 = .ok (.iinc 1 1, 3)) ∧ (decode cX7_thirst 57 = .ok (.goto (-55), 3)) ∧ (decode cX7_thirst 60 = .ok (.bipush (-4), 2)) ∧ (decode cX7_thirst 62 = .ok (.ireturn, 1)) := by decide +kernel
theorem dX7_thirst_33 : decode cX7_thirst 33 = .ok (.aload_n 0, 1) := dg_b95.1
theorem dX7_thirst_34 : decode cX7_thirst 34 = .ok (.getfield 26, 3) := dg_b95.2.1
theorem dX7_thirst_37 : decode cX7_thirst 37 = .ok (.invokevirtual 209, 3) := dg_b95.2.2.1
theorem dX7_thirst_40 : decode cX7_thirst 40 = .ok (.aload_n 0, 1) := dg_b95.2.2.2.1
theorem dX7_thirst_41 : decode cX7_thirst 41 = .ok (.getfield 26, 3) := dg_b95.2.2.2.2.1
theorem dX7_thirst_44 : decode cX7_thirst 44 = .ok (.getfield 218, 3) := dg_b95.2.2.2.2.2.1
theorem dX7_thirst_47 : decode cX7_thirst 47 = .ok (.bipush (-4), 2) := dg_b95.2.2.2.2.2.2.1
theorem dX7_thirst_49 : decode cX7_thirst 49 = .ok (.if_icmp .ne 5, 3) := dg_b95.2.2.2.2.2.2.2.1
theorem dX7_thirst_52 : decode cX7_thirst 52 = .ok (.iload_n 1, 1) := dg_b95.2.2.2.2.2.2.2.2.1
theorem dX7_thirst_53 : decode cX7_thirst 53 = .ok (.ireturn, 1) := dg_b95.2.2.2.2.2.2.2.2.2.1
theorem dX7_thirst_54 : decode cX7_thirst 54 = .ok (.iinc 1 1, 3) := dg_b95.2.2.2.2.2.2.2.2.2.2.1
theorem dX7_thirst_57 : decode cX7_thirst 57 = .ok (.goto (-55), 3) := dg_b95.2.2.2.2.2.2.2.2.2.2.2.1
theorem dX7_thirst_60 : decode cX7_thirst 60 = .ok (.bipush (-4), 2) := dg_b95.2.2.2.2.2.2.2.2.2.2.2.2.1
theorem dX7_thirst_62 : decode cX7_thirst 62 = .ok (.ireturn, 1) := dg_b95.2.2.2.2.2.2.2.2.2.2.2.2.2
theorem dg_b96 : (decode cX7_weather 0 = .ok (.aload_n 0, 1)) ∧ (decode cX7_weather 1 = .ok (.aload_n 0, 1)) ∧ (decode cX7_weather 2 = .ok (.getfield 19, 3)) ∧ (decode cX7_weather 5 = .ok (.getfield 118, 3)) ∧ (decode cX7_weather 8 = .ok (.invokevirtual 263, 3)) ∧ (decode cX7_weather 11 = .ok (.ifCond .eq 5, 3)) ∧ (decode cX7_weather 14 = .ok (.iconst 0, 1)) ∧ (decode cX7_weather 15 = .ok (.ireturn, 1)) ∧ (decode cX7_weather 16 = .ok (.iconst 0, 1)) ∧ (decode cX7_weather 17 = .ok (.istore_n 1, 1)) ∧ (decode cX7_weather 18 = .ok (.iconst 0, 1)) ∧ (decode cX7_weather 19 = .ok (.istore_n 2, 1)) ∧ (decode cX7_weather 20 = .ok (.iload_n 2, 1)) ∧ (decode cX7_weather 21 = .ok (.bipush 10, 2)) ∧ (decode cX7_weather 23 = .ok (.if_icmp .ge 30, 3)) ∧ (decode cX7_weather 26 = .ok (.iload_n 1, 1)) := by decide +kernel
theorem dX7_weather_0 : decode cX7_weather 0 = .ok (.aload_n 0, 1) := dg_b96.1
theorem dX7_weather_1 : decode cX7_weather 1 = .ok (.aload_n 0, 1) := dg_b96.2.1
theorem dX7_weather_2 : decode cX7_weather 2 = .ok (.getfield 19, 3) := dg_b96.2.2.1
theorem dX7_weather_5 : decode cX7_weather 5 = .ok (.getfield 118, 3) := dg_b96.2.2.2.1
theorem dX7_weather_8 : decode cX7_weather 8 = .ok (.invokevirtual 263, 3) := dg_b96.2.2.2.2.1
theorem dX7_weather_11 : decode cX7_weather 11 = .ok (.ifCond .eq 5, 3) := dg_b96.2.2.2.2.2.1
theorem dX7_weather_14 : decode cX7_weather 14 = .ok (.iconst 0, 1) := dg_b96.2.2.2.2.2.2.1
theorem dX7_weather_15 : decode cX7_weather 15 = .ok (.ireturn, 1) := dg_b96.2.2.2.2.2.2.2.1
theorem dX7_weather_16 : decode cX7_weather 16 = .ok (.iconst 0, 1) := dg_b96.2.2.2.2.2.2.2.2.1
theorem dX7_weather_17 : decode cX7_weather 17 = .ok (.istore_n 1, 1) := dg_b96.2.2.2.2.2.2.2.2.2.1
theorem dX7_weather_18 : decode cX7_weather 18 = .ok (.iconst 0, 1) := dg_b96.2.2.2.2.2.2.2.2.2.2.1
theorem dX7_weather_19 : decode cX7_weather 19 = .ok (.istore_n 2, 1) := dg_b96.2.2.2.2.2.2.2.2.2.2.2.1
theorem dX7_weather_20 : decode cX7_weather 20 = .ok (.iload_n 2, 1) := dg_b96.2.2.2.2.2.2.2.2.2.2.2.2.1
theorem dX7_weather_21 : decode cX7_weather 21 = .ok (.bipush 10, 2) := dg_b96.2.2.2.2.2.2.2.2.2.2.2.2.2.1
theorem dX7_weather_23 : decode cX7_weather 23 = .ok (.if_icmp .ge 30, 3) := dg_b96.2.2.2.2.2.2.2.2.2.2.2.2.2.2.1
theorem dX7_weather_26 : decode cX7_weather 26 = .ok (.iload_n 1, 1) := dg_b96.2.2.2.2.2.2.2.2.2.2.2.2.2.2.2
theorem dg_b97 : (decode cX7_weather 27 = .ok (.iload_n 2, 1)) ∧ (decode cX7_weather 28 = .ok (.aload_n 0, 1)) ∧ (decode cX7_weather 29 = .ok (.aload_n 0, 1)) ∧ (decode cX7_weather 30 = .ok (.getfield 19, 3)) ∧ (decode cX7_weather 33 = .ok (.getfield 118, 3)) ∧ (decode cX7_weather 36 = .ok (.iconst 1, 1)) ∧ (decode cX7_weather 37 = .ok (.iload_n 2, 1)) ∧ (decode cX7_weather 38 = .ok (.ishl, 1)) ∧ (decode cX7_weather 39 = .ok (.ixor, 1)) ∧ (decode cX7_weather 40 = .ok (.invokevirtual 263, 3)) ∧ (decode cX7_weather 43 = .ok (.invokestatic 183, 3)) ∧ (decode cX7_weather 46 = .ok (.istore_n 1, 1)) ∧ (decode cX7_weather 47 = .ok (.iinc 2 1, 3)) ∧ (decode cX7_weather 50 = .ok (.goto (-30), 3)) ∧ (decode cX7_weather 53 = .ok (.iload_n 1, 1)) ∧ (decode cX7_weather 54 = .ok (.ireturn, 1)) := by decide +kernel
theorem dX7_weather_27 : decode cX7_weather 27 = .ok (.iload_n 2, 1) := dg_b97.1
theorem dX7_weather_28 : decode cX7_weather 28 = .ok (.aload_n 0, 1) := dg_b97.2.1
theorem dX7_weather_29 : decode cX7_weather 29 = .ok (.aload_n 0, 1) := dg_b97.2.2.1
theorem dX7_weather_30 : decode cX7_weather 30 = .ok (.getfield 19, 3) := dg_b97.2.2.2.1
theorem dX7_weather_33 : decode cX7_weather 33 = .ok (.getfield 118, 3) := dg_b97.2.2.2.2.1
theorem dX7_weather_36 : decode cX7_weather 36 = .ok (.iconst 1, 1) := dg_b97.2.2.2.2.2.1
theorem dX7_weather_37 : decode cX7_weather 37 = .ok (.iload_n 2, 1) := dg_b97.2.2.2.2.2.2.1
theorem dX7_weather_38 : decode cX7_weather 38 = .ok (.ishl, 1) := dg_b97.2.2.2.2.2.2.2.1
theorem dX7_weather_39 : decode cX7_weather 39 = .ok (.ixor, 1) := dg_b97.2.2.2.2.2.2.2.2.1
theorem dX7_weather_40 : decode cX7_weather 40 = .ok (.invokevirtual 263, 3) := dg_b97.2.2.2.2.2.2.2.2.2.1
theorem dX7_weather_43 : decode cX7_weather 43 = .ok (.invokestatic 183, 3) := dg_b97.2.2.2.2.2.2.2.2.2.2.1
theorem dX7_weather_46 : decode cX7_weather 46 = .ok (.istore_n 1, 1) := dg_b97.2.2.2.2.2.2.2.2.2.2.2.1
theorem dX7_weather_47 : decode cX7_weather 47 = .ok (.iinc 2 1, 3) := dg_b97.2.2.2.2.2.2.2.2.2.2.2.2.1
theorem dX7_weather_50 : decode cX7_weather 50 = .ok (.goto (-30), 3) := dg_b97.2.2.2.2.2.2.2.2.2.2.2.2.2.1
theorem dX7_weather_53 : decode cX7_weather 53 = .ok (.iload_n 1, 1) := dg_b97.2.2.2.2.2.2.2.2.2.2.2.2.2.2.1
theorem dX7_weather_54 : decode cX7_weather 54 = .ok (.ireturn, 1) := dg_b97.2.2.2.2.2.2.2.2.2.2.2.2.2.2.2
theorem dg_b98 : (decode cX7_isAtWellUnder 0 = .ok (.aload_n 0, 1)) ∧ (decode cX7_isAtWellUnder 1 = .ok (.getfield 26, 3)) ∧ (decode cX7_isAtWellUnder 4 = .ok (.aload_n 0, 1)) ∧ (decode cX7_isAtWellUnder 5 = .ok (.getfield 19, 3)) ∧ (decode cX7_isAtWellUnder 8 = .ok (.invokevirtual 206, 3)) ∧ (decode cX7_isAtWellUnder 11 = .ok (.aload_n 0, 1)) ∧ (decode cX7_isAtWellUnder 12 = .ok (.getfield 26, 3)) ∧ (decode cX7_isAtWellUnder 15 = .ok (.getfield 212, 3)) ∧ (decode cX7_isAtWellUnder 18 = .ok (.iload_n 1, 1)) ∧ (decode cX7_isAtWellUnder 19 = .ok (.putfield 118, 3)) ∧ (decode cX7_isAtWellUnder 22 = .ok (.aload_n 0, 1)) ∧ (decode cX7_isAtWellUnder 23 = .ok (.getfield 26, 3)) ∧ (decode cX7_isAtWellUnder 26 = .ok (.invokevirtual 209, 3)) ∧ (decode cX7_isAtWellUnder 29 = .ok (.aload_n 0, 1)) ∧ (decode cX7_isAtWellUnder 30 = .ok (.getfield 26, 3)) ∧ (decode cX7_isAtWellUnder 33 = .ok (.getfield 212, 3)) := by decide +kernel
theorem dX7_isAtWellUnder_0 : decode cX7_isAtWellUnder 0 = .ok (.aload_n 0, 1) := dg_b98.1
theorem dX7_isAtWellUnder_1 : decode cX7_isAtWellUnder 1 = .ok (.getfield 26, 3) := dg_b98.2.1
theorem dX7_isAtWellUnder_4 : decode cX7_isAtWellUnder 4 = .ok (.aload_n 0, 1) := dg_b98.2.2.1
theorem dX7_isAtWellUnder_5 : decode cX7_isAtWellUnder 5 = .ok (.getfield 19, 3) := dg_b98.2.2.2.1
theorem dX7_isAtWellUnder_8 : decode cX7_isAtWellUnder 8 = .ok (.invokevirtual 206, 3) := dg_b98.2.2.2.2.1
theorem dX7_isAtWellUnder_11 : decode cX7_isAtWellUnder 11 = .ok (.aload_n 0, 1) := dg_b98.2.2.2.2.2.1
theorem dX7_isAtWellUnder_12 : decode cX7_isAtWellUnder 12 = .ok (.getfield 26, 3) := dg_b98.2.2.2.2.2.2.1
theorem dX7_isAtWellUnder_15 : decode cX7_isAtWellUnder 15 = .ok (.getfield 212, 3) := dg_b98.2.2.2.2.2.2.2.1
theorem dX7_isAtWellUnder_18 : decode cX7_isAtWellUnder 18 = .ok (.iload_n 1, 1) := dg_b98.2.2.2.2.2.2.2.2.1
theorem dX7_isAtWellUnder_19 : decode cX7_isAtWellUnder 19 = .ok (.putfield 118, 3) := dg_b98.2.2.2.2.2.2.2.2.2.1
theorem dX7_isAtWellUnder_22 : decode cX7_isAtWellUnder 22 = .ok (.aload_n 0, 1) := dg_b98.2.2.2.2.2.2.2.2.2.2.1
theorem dX7_isAtWellUnder_23 : decode cX7_isAtWellUnder 23 = .ok (.getfield 26, 3) := dg_b98.2.2.2.2.2.2.2.2.2.2.2.1
theorem dX7_isAtWellUnder_26 : decode cX7_isAtWellUnder 26 = .ok (.invokevirtual 209, 3) := dg_b98.2.2.2.2.2.2.2.2.2.2.2.2.1
theorem dX7_isAtWellUnder_29 : decode cX7_isAtWellUnder 29 = .ok (.aload_n 0, 1) := dg_b98.2.2.2.2.2.2.2.2.2.2.2.2.2.1
theorem dX7_isAtWellUnder_30 : decode cX7_isAtWellUnder 30 = .ok (.getfield 26, 3) := dg_b98.2.2.2.2.2.2.2.2.2.2.2.2.2.2.1
theorem dX7_isAtWellUnder_33 : decode cX7_isAtWellUnder 33 = .ok (.getfield 212, 3) := dg_b98.2.2.2.2.2.2.2.2.2.2.2.2.2.2.2
theorem dg_b99 : (decode cX7_isAtWellUnder 36 = .ok (.aload_n 0, 1)) ∧ (decode cX7_isAtWellUnder 37 = .ok (.getfield 26, 3)) ∧ (decode cX7_isAtWellUnder 40 = .ok (.getfield 212, 3)) ∧ (decode cX7_isAtWellUnder 43 = .ok (.getfield 112, 3)) ∧ (decode cX7_isAtWellUnder 46 = .ok (.invokevirtual 130, 3)) ∧ (decode cX7_isAtWellUnder 49 = .ok (.ireturn, 1)) := by decide +kernel
theorem dX7_isAtWellUnder_36 : decode cX7_isAtWellUnder 36 = .ok (.aload_n 0, 1) := dg_b99.1
theorem dX7_isAtWellUnder_37 : decode cX7_isAtWellUnder 37 = .ok (.getfield 26, 3) := dg_b99.2.1
theorem dX7_isAtWellUnder_40 : decode cX7_isAtWellUnder 40 = .ok (.getfield 212, 3) := dg_b99.2.2.1
theorem dX7_isAtWellUnder_43 : decode cX7_isAtWellUnder 43 = .ok (.getfield 112, 3) := dg_b99.2.2.2.1
theorem dX7_isAtWellUnder_46 : decode cX7_isAtWellUnder 46 = .ok (.invokevirtual 130, 3) := dg_b99.2.2.2.2.1
theorem dX7_isAtWellUnder_49 : decode cX7_isAtWellUnder 49 = .ok (.ireturn, 1) := dg_b99.2.2.2.2.2
theorem dg_b100 : (decode cX7_luck 0 = .ok (.iload_n 1, 1)) ∧ (decode cX7_luck 1 = .ok (.ifCond .lt 16, 3)) ∧ (decode cX7_luck 4 = .ok (.iload_n 1, 1)) ∧ (decode cX7_luck 5 = .ok (.bipush 10, 2)) ∧ (decode cX7_luck 7 = .ok (.if_icmp .gt 10, 3)) ∧ (decode cX7_luck 10 = .ok (.iload_n 2, 1)) ∧ (decode cX7_luck 11 = .ok (.invokestatic 244, 3)) ∧ (decode cX7_luck 14 = .ok (.ifCond .ne 7, 3)) ∧ (decode cX7_luck 17 = .ok (.ldc2_w 266, 3)) ∧ (decode cX7_luck 20 = .ok (.lreturn, 1)) ∧ (decode cX7_luck 21 = .ok (.aload_n 0, 1)) ∧ (decode cX7_luck 22 = .ok (.getfield 40, 3)) ∧ (decode cX7_luck 25 = .ok (.aload_n 0, 1)) ∧ (decode cX7_luck 26 = .ok (.getfield 40, 3)) ∧ (decode cX7_luck 29 = .ok (.aload_n 0, 1)) ∧ (decode cX7_luck 30 = .ok (.getfield 19, 3)) := by decide +kernel
theorem dX7_luck_0 : decode cX7_luck 0 = .ok (.iload_n 1, 1) := dg_b100.1
theorem dX7_luck_1 : decode cX7_luck 1 = .ok (.ifCond .lt 16, 3) := dg_b100.2.1
theorem dX7_luck_4 : decode cX7_luck 4 = .ok (.iload_n 1, 1) := dg_b100.2.2.1
theorem dX7_luck_5 : decode cX7_luck 5 = .ok (.bipush 10, 2) := dg_b100.2.2.2.1
theorem dX7_luck_7 : decode cX7_luck 7 = .ok (.if_icmp .gt 10, 3) := dg_b100.2.2.2.2.1
theorem dX7_luck_10 : decode cX7_luck 10 = .ok (.iload_n 2, 1) := dg_b100.2.2.2.2.2.1
theorem dX7_luck_11 : decode cX7_luck 11 = .ok (.invokestatic 244, 3) := dg_b100.2.2.2.2.2.2.1
theorem dX7_luck_14 : decode cX7_luck 14 = .ok (.ifCond .ne 7, 3) := dg_b100.2.2.2.2.2.2.2.1
theorem dX7_luck_17 : decode cX7_luck 17 = .ok (.ldc2_w 266, 3) := dg_b100.2.2.2.2.2.2.2.2.1
theorem dX7_luck_20 : decode cX7_luck 20 = .ok (.lreturn, 1) := dg_b100.2.2.2.2.2.2.2.2.2.1
theorem dX7_luck_21 : decode cX7_luck 21 = .ok (.aload_n 0, 1) := dg_b100.2.2.2.2.2.2.2.2.2.2.1
theorem dX7_luck_22 : decode cX7_luck 22 = .ok (.getfield 40, 3) := dg_b100.2.2.2.2.2.2.2.2.2.2.2.1
theorem dX7_luck_25 : decode cX7_luck 25 = .ok (.aload_n 0, 1) := dg_b100.2.2.2.2.2.2.2.2.2.2.2.2.1
theorem dX7_luck_26 : decode cX7_luck 26 = .ok (.getfield 40, 3) := dg_b100.2.2.2.2.2.2.2.2.2.2.2.2.2.1
theorem dX7_luck_29 : decode cX7_luck 29 = .ok (.aload_n 0, 1) := dg_b100.2.2.2.2.2.2.2.2.2.2.2.2.2.2.1
theorem dX7_luck_30 : decode cX7_luck 30 = .ok (.getfield 19, 3) := dg_b100.2.2.2.2.2.2.2.2.2.2.2.2.2.2.2
theorem dg_b101 : (decode cX7_luck 33 = .ok (.iload_n 1, 1)) ∧ (decode cX7_luck 34 = .ok (.iconst 0, 1)) ∧ (decode cX7_luck 35 = .ok (.invokevirtual 268, 3)) ∧ (decode cX7_luck 38 = .ok (.aload_n 0, 1)) ∧ (decode cX7_luck 39 = .ok (.getfield 19, 3)) ∧ (decode cX7_luck 42 = .ok (.getfield 138, 3)) ∧ (decode cX7_luck 45 = .ok (.iload_n 2, 1)) ∧ (decode cX7_luck 46 = .ok (.invokevirtual 272, 3)) ∧ (decode cX7_luck 49 = .ok (.lreturn, 1)) := by decide +kernel
theorem dX7_luck_33 : decode cX7_luck 33 = .ok (.iload_n 1, 1) := dg_b101.1
theorem dX7_luck_34 : decode cX7_luck 34 = .ok (.iconst 0, 1) := dg_b101.2.1
theorem dX7_luck_35 : decode cX7_luck 35 = .ok (.invokevirtual 268, 3) := dg_b101.2.2.1
theorem dX7_luck_38 : decode cX7_luck 38 = .ok (.aload_n 0, 1) := dg_b101.2.2.2.1
theorem dX7_luck_39 : decode cX7_luck 39 = .ok (.getfield 19, 3) := dg_b101.2.2.2.2.1
theorem dX7_luck_42 : decode cX7_luck 42 = .ok (.getfield 138, 3) := dg_b101.2.2.2.2.2.1
theorem dX7_luck_45 : decode cX7_luck 45 = .ok (.iload_n 2, 1) := dg_b101.2.2.2.2.2.2.1
theorem dX7_luck_46 : decode cX7_luck 46 = .ok (.invokevirtual 272, 3) := dg_b101.2.2.2.2.2.2.2.1
theorem dX7_luck_49 : decode cX7_luck 49 = .ok (.lreturn, 1) := dg_b101.2.2.2.2.2.2.2.2
theorem dg_b102 : (decode cX7_mean 0 = .ok (.iload_n 1, 1)) ∧ (decode cX7_mean 1 = .ok (.ifCond .lt 16, 3)) ∧ (decode cX7_mean 4 = .ok (.iload_n 1, 1)) ∧ (decode cX7_mean 5 = .ok (.bipush 10, 2)) ∧ (decode cX7_mean 7 = .ok (.if_icmp .gt 10, 3)) ∧ (decode cX7_mean 10 = .ok (.iload_n 2, 1)) ∧ (decode cX7_mean 11 = .ok (.invokestatic 244, 3)) ∧ (decode cX7_mean 14 = .ok (.ifCond .ne 7, 3)) ∧ (decode cX7_mean 17 = .ok (.ldc2_w 266, 3)) ∧ (decode cX7_mean 20 = .ok (.lreturn, 1)) ∧ (decode cX7_mean 21 = .ok (.aload_n 0, 1)) ∧ (decode cX7_mean 22 = .ok (.getfield 40, 3)) ∧ (decode cX7_mean 25 = .ok (.aload_n 0, 1)) ∧ (decode cX7_mean 26 = .ok (.getfield 40, 3)) ∧ (decode cX7_mean 29 = .ok (.aload_n 0, 1)) ∧ (decode cX7_mean 30 = .ok (.getfield 19, 3)) := by decide +kernel
theorem dX7_mean_0 : decode cX7_mean 0 = .ok (.iload_n 1, 1) := dg_b102.1
theorem dX7_mean_1 : decode cX7_mean 1 = .ok (.ifCond .lt 16, 3) := dg_b102.2.1
theorem dX7_mean_4 : decode cX7_mean 4 = .ok (.iload_n 1, 1) := dg_b102.2.2.1
theorem dX7_mean_5 : decode cX7_mean 5 = .ok (.bipush 10, 2) := dg_b102.2.2.2.1
theorem dX7_mean_7 : decode cX7_mean 7 = .ok (.if_icmp .gt 10, 3) := dg_b102.2.2.2.2.1
theorem dX7_mean_10 : decode cX7_mean 10 = .ok (.iload_n 2, 1) := dg_b102.2.2.2.2.2.1
theorem dX7_mean_11 : decode cX7_mean 11 = .ok (.invokestatic 244, 3) := dg_b102.2.2.2.2.2.2.1
theorem dX7_mean_14 : decode cX7_mean 14 = .ok (.ifCond .ne 7, 3) := dg_b102.2.2.2.2.2.2.2.1
theorem dX7_mean_17 : decode cX7_mean 17 = .ok (.ldc2_w 266, 3) := dg_b102.2.2.2.2.2.2.2.2.1
theorem dX7_mean_20 : decode cX7_mean 20 = .ok (.lreturn, 1) := dg_b102.2.2.2.2.2.2.2.2.2.1
theorem dX7_mean_21 : decode cX7_mean 21 = .ok (.aload_n 0, 1) := dg_b102.2.2.2.2.2.2.2.2.2.2.1
theorem dX7_mean_22 : decode cX7_mean 22 = .ok (.getfield 40, 3) := dg_b102.2.2.2.2.2.2.2.2.2.2.2.1
theorem dX7_mean_25 : decode cX7_mean 25 = .ok (.aload_n 0, 1) := dg_b102.2.2.2.2.2.2.2.2.2.2.2.2.1
theorem dX7_mean_26 : decode cX7_mean 26 = .ok (.getfield 40, 3) := dg_b102.2.2.2.2.2.2.2.2.2.2.2.2.2.1
theorem dX7_mean_29 : decode cX7_mean 29 = .ok (.aload_n 0, 1) := dg_b102.2.2.2.2.2.2.2.2.2.2.2.2.2.2.1
theorem dX7_mean_30 : decode cX7_mean 30 = .ok (.getfield 19, 3) := dg_b102.2.2.2.2.2.2.2.2.2.2.2.2.2.2.2
theorem dg_b103 : (decode cX7_mean 33 = .ok (.iload_n 1, 1)) ∧ (decode cX7_mean 34 = .ok (.iconst 1, 1)) ∧ (decode cX7_mean 35 = .ok (.invokevirtual 268, 3)) ∧ (decode cX7_mean 38 = .ok (.aload_n 0, 1)) ∧ (decode cX7_mean 39 = .ok (.getfield 19, 3)) ∧ (decode cX7_mean 42 = .ok (.getfield 138, 3)) ∧ (decode cX7_mean 45 = .ok (.iload_n 2, 1)) ∧ (decode cX7_mean 46 = .ok (.invokevirtual 272, 3)) ∧ (decode cX7_mean 49 = .ok (.lreturn, 1)) := by decide +kernel
theorem dX7_mean_33 : decode cX7_mean 33 = .ok (.iload_n 1, 1) := dg_b103.1
theorem dX7_mean_34 : decode cX7_mean 34 = .ok (.iconst 1, 1) := dg_b103.2.1
theorem dX7_mean_35 : decode cX7_mean 35 = .ok (.invokevirtual 268, 3) := dg_b103.2.2.1
theorem dX7_mean_38 : decode cX7_mean 38 = .ok (.aload_n 0, 1) := dg_b103.2.2.2.1
theorem dX7_mean_39 : decode cX7_mean 39 = .ok (.getfield 19, 3) := dg_b103.2.2.2.2.1
theorem dX7_mean_42 : decode cX7_mean 42 = .ok (.getfield 138, 3) := dg_b103.2.2.2.2.2.1
theorem dX7_mean_45 : decode cX7_mean 45 = .ok (.iload_n 2, 1) := dg_b103.2.2.2.2.2.2.1
theorem dX7_mean_46 : decode cX7_mean 46 = .ok (.invokevirtual 272, 3) := dg_b103.2.2.2.2.2.2.2.1
theorem dX7_mean_49 : decode cX7_mean 49 = .ok (.lreturn, 1) := dg_b103.2.2.2.2.2.2.2.2
theorem dg_b104 : (decode cX7_see 0 = .ok (.iload_n 1, 1)) ∧ (decode cX7_see 1 = .ok (.ifCond .lt 21, 3)) ∧ (decode cX7_see 4 = .ok (.iload_n 1, 1)) ∧ (decode cX7_see 5 = .ok (.bipush 8, 2)) ∧ (decode cX7_see 7 = .ok (.if_icmp .gt 15, 3)) ∧ (decode cX7_see 10 = .ok (.iload_n 2, 1)) ∧ (decode cX7_see 11 = .ok (.bipush (-99), 2)) ∧ (decode cX7_see 13 = .ok (.if_icmp .lt 9, 3)) ∧ (decode cX7_see 16 = .ok (.iload_n 2, 1)) ∧ (decode cX7_see 17 = .ok (.bipush 99, 2)) ∧ (decode cX7_see 19 = .ok (.if_icmp .le 5, 3)) ∧ (decode cX7_see 22 = .ok (.iconst (-1), 1)) ∧ (decode cX7_see 23 = .ok (.ireturn, 1)) ∧ (decode cX7_see 24 = .ok (.aload_n 0, 1)) ∧ (decode cX7_see 25 = .ok (.getfield 19, 3)) ∧ (decode cX7_see 28 = .ok (.getfield 276, 3)) := by decide +kernel
theorem dX7_see_0 : decode cX7_see 0 = .ok (.iload_n 1, 1) := dg_b104.1
theorem dX7_see_1 : decode cX7_see 1 = .ok (.ifCond .lt 21, 3) := dg_b104.2.1
theorem dX7_see_4 : decode cX7_see 4 = .ok (.iload_n 1, 1) := dg_b104.2.2.1
theorem dX7_see_5 : decode cX7_see 5 = .ok (.bipush 8, 2) := dg_b104.2.2.2.1
theorem dX7_see_7 : decode cX7_see 7 = .ok (.if_icmp .gt 15, 3) := dg_b104.2.2.2.2.1
theorem dX7_see_10 : decode cX7_see 10 = .ok (.iload_n 2, 1) := dg_b104.2.2.2.2.2.1
theorem dX7_see_11 : decode cX7_see 11 = .ok (.bipush (-99), 2) := dg_b104.2.2.2.2.2.2.1
theorem dX7_see_13 : decode cX7_see 13 = .ok (.if_icmp .lt 9, 3) := dg_b104.2.2.2.2.2.2.2.1
theorem dX7_see_16 : decode cX7_see 16 = .ok (.iload_n 2, 1) := dg_b104.2.2.2.2.2.2.2.2.1
theorem dX7_see_17 : decode cX7_see 17 = .ok (.bipush 99, 2) := dg_b104.2.2.2.2.2.2.2.2.2.1
theorem dX7_see_19 : decode cX7_see 19 = .ok (.if_icmp .le 5, 3) := dg_b104.2.2.2.2.2.2.2.2.2.2.1
theorem dX7_see_22 : decode cX7_see 22 = .ok (.iconst (-1), 1) := dg_b104.2.2.2.2.2.2.2.2.2.2.2.1
theorem dX7_see_23 : decode cX7_see 23 = .ok (.ireturn, 1) := dg_b104.2.2.2.2.2.2.2.2.2.2.2.2.1
theorem dX7_see_24 : decode cX7_see 24 = .ok (.aload_n 0, 1) := dg_b104.2.2.2.2.2.2.2.2.2.2.2.2.2.1
theorem dX7_see_25 : decode cX7_see 25 = .ok (.getfield 19, 3) := dg_b104.2.2.2.2.2.2.2.2.2.2.2.2.2.2.1
theorem dX7_see_28 : decode cX7_see 28 = .ok (.getfield 276, 3) := dg_b104.2.2.2.2.2.2.2.2.2.2.2.2.2.2.2
theorem dg_b105 : (decode cX7_see 31 = .ok (.bipush 6, 2)) ∧ (decode cX7_see 33 = .ok (.if_icmp .lt 6, 3)) ∧ (decode cX7_see 36 = .ok (.bipush (-3), 2)) ∧ (decode cX7_see 38 = .ok (.ireturn, 1)) ∧ (decode cX7_see 39 = .ok (.aload_n 0, 1)) ∧ (decode cX7_see 40 = .ok (.getfield 19, 3)) ∧ (decode cX7_see 43 = .ok (.getfield 279, 3)) ∧ (decode cX7_see 46 = .ok (.aload_n 0, 1)) ∧ (decode cX7_see 47 = .ok (.getfield 19, 3)) ∧ (decode cX7_see 50 = .ok (.getfield 276, 3)) ∧ (decode cX7_see 53 = .ok (.iload_n 1, 1)) ∧ (decode cX7_see 54 = .ok (.iastore, 1)) ∧ (decode cX7_see 55 = .ok (.aload_n 0, 1)) ∧ (decode cX7_see 56 = .ok (.getfield 19, 3)) ∧ (decode cX7_see 59 = .ok (.getfield 282, 3)) ∧ (decode cX7_see 62 = .ok (.aload_n 0, 1)) := by decide +kernel
theorem dX7_see_31 : decode cX7_see 31 = .ok (.bipush 6, 2) := dg_b105.1
theorem dX7_see_33 : decode cX7_see 33 = .ok (.if_icmp .lt 6, 3) := dg_b105.2.1
theorem dX7_see_36 : decode cX7_see 36 = .ok (.bipush (-3), 2) := dg_b105.2.2.1
theorem dX7_see_38 : decode cX7_see 38 = .ok (.ireturn, 1) := dg_b105.2.2.2.1
theorem dX7_see_39 : decode cX7_see 39 = .ok (.aload_n 0, 1) := dg_b105.2.2.2.2.1
theorem dX7_see_40 : decode cX7_see 40 = .ok (.getfield 19, 3) := dg_b105.2.2.2.2.2.1
theorem dX7_see_43 : decode cX7_see 43 = .ok (.getfield 279, 3) := dg_b105.2.2.2.2.2.2.1
theorem dX7_see_46 : decode cX7_see 46 = .ok (.aload_n 0, 1) := dg_b105.2.2.2.2.2.2.2.1
theorem dX7_see_47 : decode cX7_see 47 = .ok (.getfield 19, 3) := dg_b105.2.2.2.2.2.2.2.2.1
theorem dX7_see_50 : decode cX7_see 50 = .ok (.getfield 276, 3) := dg_b105.2.2.2.2.2.2.2.2.2.1
theorem dX7_see_53 : decode cX7_see 53 = .ok (.iload_n 1, 1) := dg_b105.2.2.2.2.2.2.2.2.2.2.1
theorem dX7_see_54 : decode cX7_see 54 = .ok (.iastore, 1) := dg_b105.2.2.2.2.2.2.2.2.2.2.2.1
theorem dX7_see_55 : decode cX7_see 55 = .ok (.aload_n 0, 1) := dg_b105.2.2.2.2.2.2.2.2.2.2.2.2.1
theorem dX7_see_56 : decode cX7_see 56 = .ok (.getfield 19, 3) := dg_b105.2.2.2.2.2.2.2.2.2.2.2.2.2.1
theorem dX7_see_59 : decode cX7_see 59 = .ok (.getfield 282, 3) := dg_b105.2.2.2.2.2.2.2.2.2.2.2.2.2.2.1
theorem dX7_see_62 : decode cX7_see 62 = .ok (.aload_n 0, 1) := dg_b105.2.2.2.2.2.2.2.2.2.2.2.2.2.2.2
theorem dg_b106 : (decode cX7_see 63 = .ok (.getfield 19, 3)) ∧ (decode cX7_see 66 = .ok (.getfield 276, 3)) ∧ (decode cX7_see 69 = .ok (.iload_n 2, 1)) ∧ (decode cX7_see 70 = .ok (.iastore, 1)) ∧ (decode cX7_see 71 = .ok (.aload_n 0, 1)) ∧ (decode cX7_see 72 = .ok (.getfield 19, 3)) ∧ (decode cX7_see 75 = .ok (.dup, 1)) ∧ (decode cX7_see 76 = .ok (.getfield 276, 3)) ∧ (decode cX7_see 79 = .ok (.iconst 1, 1)) ∧ (decode cX7_see 80 = .ok (.iadd, 1)) ∧ (decode cX7_see 81 = .ok (.putfield 276, 3)) ∧ (decode cX7_see 84 = .ok (.aload_n 0, 1)) ∧ (decode cX7_see 85 = .ok (.getfield 19, 3)) ∧ (decode cX7_see 88 = .ok (.getfield 276, 3)) ∧ (decode cX7_see 91 = .ok (.ireturn, 1)) := by decide +kernel
theorem dX7_see_63 : decode cX7_see 63 = .ok (.getfield 19, 3) := dg_b106.1
theorem dX7_see_66 : decode cX7_see 66 = .ok (.getfield 276, 3) := dg_b106.2.1
theorem dX7_see_69 : decode cX7_see 69 = .ok (.iload_n 2, 1) := dg_b106.2.2.1
theorem dX7_see_70 : decode cX7_see 70 = .ok (.iastore, 1) := dg_b106.2.2.2.1
theorem dX7_see_71 : decode cX7_see 71 = .ok (.aload_n 0, 1) := dg_b106.2.2.2.2.1
theorem dX7_see_72 : decode cX7_see 72 = .ok (.getfield 19, 3) := dg_b106.2.2.2.2.2.1
theorem dX7_see_75 : decode cX7_see 75 = .ok (.dup, 1) := dg_b106.2.2.2.2.2.2.1
theorem dX7_see_76 : decode cX7_see 76 = .ok (.getfield 276, 3) := dg_b106.2.2.2.2.2.2.2.1
theorem dX7_see_79 : decode cX7_see 79 = .ok (.iconst 1, 1) := dg_b106.2.2.2.2.2.2.2.2.1
theorem dX7_see_80 : decode cX7_see 80 = .ok (.iadd, 1) := dg_b106.2.2.2.2.2.2.2.2.2.1
theorem dX7_see_81 : decode cX7_see 81 = .ok (.putfield 276, 3) := dg_b106.2.2.2.2.2.2.2.2.2.2.1
theorem dX7_see_84 : decode cX7_see 84 = .ok (.aload_n 0, 1) := dg_b106.2.2.2.2.2.2.2.2.2.2.2.1
theorem dX7_see_85 : decode cX7_see 85 = .ok (.getfield 19, 3) := dg_b106.2.2.2.2.2.2.2.2.2.2.2.2.1
theorem dX7_see_88 : decode cX7_see 88 = .ok (.getfield 276, 3) := dg_b106.2.2.2.2.2.2.2.2.2.2.2.2.2.1
theorem dX7_see_91 : decode cX7_see 91 = .ok (.ireturn, 1) := dg_b106.2.2.2.2.2.2.2.2.2.2.2.2.2.2
theorem dg_b107 : (decode cX7_forget 0 = .ok (.iload_n 1, 1)) ∧ (decode cX7_forget 1 = .ok (.ifCond .lt 14, 3)) ∧ (decode cX7_forget 4 = .ok (.iload_n 1, 1)) ∧ (decode cX7_forget 5 = .ok (.aload_n 0, 1)) ∧ (decode cX7_forget 6 = .ok (.getfield 19, 3)) ∧ (decode cX7_forget 9 = .ok (.getfield 276, 3)) ∧ (decode cX7_forget 12 = .ok (.if_icmp .le 5, 3)) ∧ (decode cX7_forget 15 = .ok (.iconst (-1), 1)) ∧ (decode cX7_forget 16 = .ok (.ireturn, 1)) ∧ (decode cX7_forget 17 = .ok (.aload_n 0, 1)) ∧ (decode cX7_forget 18 = .ok (.getfield 19, 3)) ∧ (decode cX7_forget 21 = .ok (.getfield 276, 3)) ∧ (decode cX7_forget 24 = .ok (.istore_n 2, 1)) ∧ (decode cX7_forget 25 = .ok (.aload_n 0, 1)) ∧ (decode cX7_forget 26 = .ok (.getfield 19, 3)) ∧ (decode cX7_forget 29 = .ok (.iload_n 1, 1)) := by decide +kernel
theorem dX7_forget_0 : decode cX7_forget 0 = .ok (.iload_n 1, 1) := dg_b107.1
theorem dX7_forget_1 : decode cX7_forget 1 = .ok (.ifCond .lt 14, 3) := dg_b107.2.1
theorem dX7_forget_4 : decode cX7_forget 4 = .ok (.iload_n 1, 1) := dg_b107.2.2.1
theorem dX7_forget_5 : decode cX7_forget 5 = .ok (.aload_n 0, 1) := dg_b107.2.2.2.1
theorem dX7_forget_6 : decode cX7_forget 6 = .ok (.getfield 19, 3) := dg_b107.2.2.2.2.1
theorem dX7_forget_9 : decode cX7_forget 9 = .ok (.getfield 276, 3) := dg_b107.2.2.2.2.2.1
theorem dX7_forget_12 : decode cX7_forget 12 = .ok (.if_icmp .le 5, 3) := dg_b107.2.2.2.2.2.2.1
theorem dX7_forget_15 : decode cX7_forget 15 = .ok (.iconst (-1), 1) := dg_b107.2.2.2.2.2.2.2.1
theorem dX7_forget_16 : decode cX7_forget 16 = .ok (.ireturn, 1) := dg_b107.2.2.2.2.2.2.2.2.1
theorem dX7_forget_17 : decode cX7_forget 17 = .ok (.aload_n 0, 1) := dg_b107.2.2.2.2.2.2.2.2.2.1
theorem dX7_forget_18 : decode cX7_forget 18 = .ok (.getfield 19, 3) := dg_b107.2.2.2.2.2.2.2.2.2.2.1
theorem dX7_forget_21 : decode cX7_forget 21 = .ok (.getfield 276, 3) := dg_b107.2.2.2.2.2.2.2.2.2.2.2.1
theorem dX7_forget_24 : decode cX7_forget 24 = .ok (.istore_n 2, 1) := dg_b107.2.2.2.2.2.2.2.2.2.2.2.2.1
theorem dX7_forget_25 : decode cX7_forget 25 = .ok (.aload_n 0, 1) := dg_b107.2.2.2.2.2.2.2.2.2.2.2.2.2.1
theorem dX7_forget_26 : decode cX7_forget 26 = .ok (.getfield 19, 3) := dg_b107.2.2.2.2.2.2.2.2.2.2.2.2.2.2.1
theorem dX7_forget_29 : decode cX7_forget 29 = .ok (.iload_n 1, 1) := dg_b107.2.2.2.2.2.2.2.2.2.2.2.2.2.2.2
theorem dg_b108 : (decode cX7_forget 30 = .ok (.putfield 276, 3)) ∧ (decode cX7_forget 33 = .ok (.iload_n 2, 1)) ∧ (decode cX7_forget 34 = .ok (.ireturn, 1)) := by decide +kernel
theorem dX7_forget_30 : decode cX7_forget 30 = .ok (.putfield 276, 3) := dg_b108.1
theorem dX7_forget_33 : decode cX7_forget 33 = .ok (.iload_n 2, 1) := dg_b108.2.1
theorem dX7_forget_34 : decode cX7_forget 34 = .ok (.ireturn, 1) := dg_b108.2.2
theorem dg_b109 : (decode cX7_aims 0 = .ok (.aload_n 0, 1)) ∧ (decode cX7_aims 1 = .ok (.getfield 19, 3)) ∧ (decode cX7_aims 4 = .ok (.iload_n 1, 1)) ∧ (decode cX7_aims 5 = .ok (.invokevirtual 163, 3)) ∧ (decode cX7_aims 8 = .ok (.ifCond .ne 5, 3)) ∧ (decode cX7_aims 11 = .ok (.iconst (-1), 1)) ∧ (decode cX7_aims 12 = .ok (.ireturn, 1)) ∧ (decode cX7_aims 13 = .ok (.iconst 0, 1)) ∧ (decode cX7_aims 14 = .ok (.istore_n 2, 1)) ∧ (decode cX7_aims 15 = .ok (.iconst 0, 1)) ∧ (decode cX7_aims 16 = .ok (.istore_n 3, 1)) ∧ (decode cX7_aims 17 = .ok (.iload_n 3, 1)) ∧ (decode cX7_aims 18 = .ok (.bipush 7, 2)) ∧ (decode cX7_aims 20 = .ok (.if_icmp .ge 57, 3)) ∧ (decode cX7_aims 23 = .ok (.aload_n 0, 1)) ∧ (decode cX7_aims 24 = .ok (.getfield 19, 3)) := by decide +kernel
theorem dX7_aims_0 : decode cX7_aims 0 = .ok (.aload_n 0, 1) := dg_b109.1
theorem dX7_aims_1 : decode cX7_aims 1 = .ok (.getfield 19, 3) := dg_b109.2.1
theorem dX7_aims_4 : decode cX7_aims 4 = .ok (.iload_n 1, 1) := dg_b109.2.2.1
theorem dX7_aims_5 : decode cX7_aims 5 = .ok (.invokevirtual 163, 3) := dg_b109.2.2.2.1
theorem dX7_aims_8 : decode cX7_aims 8 = .ok (.ifCond .ne 5, 3) := dg_b109.2.2.2.2.1
theorem dX7_aims_11 : decode cX7_aims 11 = .ok (.iconst (-1), 1) := dg_b109.2.2.2.2.2.1
theorem dX7_aims_12 : decode cX7_aims 12 = .ok (.ireturn, 1) := dg_b109.2.2.2.2.2.2.1
theorem dX7_aims_13 : decode cX7_aims 13 = .ok (.iconst 0, 1) := dg_b109.2.2.2.2.2.2.2.1
theorem dX7_aims_14 : decode cX7_aims 14 = .ok (.istore_n 2, 1) := dg_b109.2.2.2.2.2.2.2.2.1
theorem dX7_aims_15 : decode cX7_aims 15 = .ok (.iconst 0, 1) := dg_b109.2.2.2.2.2.2.2.2.2.1
theorem dX7_aims_16 : decode cX7_aims 16 = .ok (.istore_n 3, 1) := dg_b109.2.2.2.2.2.2.2.2.2.2.1
theorem dX7_aims_17 : decode cX7_aims 17 = .ok (.iload_n 3, 1) := dg_b109.2.2.2.2.2.2.2.2.2.2.2.1
theorem dX7_aims_18 : decode cX7_aims 18 = .ok (.bipush 7, 2) := dg_b109.2.2.2.2.2.2.2.2.2.2.2.2.1
theorem dX7_aims_20 : decode cX7_aims 20 = .ok (.if_icmp .ge 57, 3) := dg_b109.2.2.2.2.2.2.2.2.2.2.2.2.2.1
theorem dX7_aims_23 : decode cX7_aims 23 = .ok (.aload_n 0, 1) := dg_b109.2.2.2.2.2.2.2.2.2.2.2.2.2.2.1
theorem dX7_aims_24 : decode cX7_aims 24 = .ok (.getfield 19, 3) := dg_b109.2.2.2.2.2.2.2.2.2.2.2.2.2.2.2
theorem dg_b110 : (decode cX7_aims 27 = .ok (.iload_n 3, 1)) ∧ (decode cX7_aims 28 = .ok (.invokevirtual 190, 3)) ∧ (decode cX7_aims 31 = .ok (.ifCond .eq 40, 3)) ∧ (decode cX7_aims 34 = .ok (.aload_n 0, 1)) ∧ (decode cX7_aims 35 = .ok (.getfield 26, 3)) ∧ (decode cX7_aims 38 = .ok (.aload_n 0, 1)) ∧ (decode cX7_aims 39 = .ok (.getfield 19, 3)) ∧ (decode cX7_aims 42 = .ok (.invokevirtual 206, 3)) ∧ (decode cX7_aims 45 = .ok (.aload_n 0, 1)) ∧ (decode cX7_aims 46 = .ok (.getfield 26, 3)) ∧ (decode cX7_aims 49 = .ok (.getfield 212, 3)) ∧ (decode cX7_aims 52 = .ok (.getfield 166, 3)) ∧ (decode cX7_aims 55 = .ok (.iload_n 1, 1)) ∧ (decode cX7_aims 56 = .ok (.iload_n 3, 1)) ∧ (decode cX7_aims 57 = .ok (.iastore, 1)) ∧ (decode cX7_aims 58 = .ok (.iload_n 2, 1)) := by decide +kernel
theorem dX7_aims_27 : decode cX7_aims 27 = .ok (.iload_n 3, 1) := dg_b110.1
theorem dX7_aims_28 : decode cX7_aims 28 = .ok (.invokevirtual 190, 3) := dg_b110.2.1
theorem dX7_aims_31 : decode cX7_aims 31 = .ok (.ifCond .eq 40, 3) := dg_b110.2.2.1
theorem dX7_aims_34 : decode cX7_aims 34 = .ok (.aload_n 0, 1) := dg_b110.2.2.2.1
theorem dX7_aims_35 : decode cX7_aims 35 = .ok (.getfield 26, 3) := dg_b110.2.2.2.2.1
theorem dX7_aims_38 : decode cX7_aims 38 = .ok (.aload_n 0, 1) := dg_b110.2.2.2.2.2.1
theorem dX7_aims_39 : decode cX7_aims 39 = .ok (.getfield 19, 3) := dg_b110.2.2.2.2.2.2.1
theorem dX7_aims_42 : decode cX7_aims 42 = .ok (.invokevirtual 206, 3) := dg_b110.2.2.2.2.2.2.2.1
theorem dX7_aims_45 : decode cX7_aims 45 = .ok (.aload_n 0, 1) := dg_b110.2.2.2.2.2.2.2.2.1
theorem dX7_aims_46 : decode cX7_aims 46 = .ok (.getfield 26, 3) := dg_b110.2.2.2.2.2.2.2.2.2.1
theorem dX7_aims_49 : decode cX7_aims 49 = .ok (.getfield 212, 3) := dg_b110.2.2.2.2.2.2.2.2.2.2.1
theorem dX7_aims_52 : decode cX7_aims 52 = .ok (.getfield 166, 3) := dg_b110.2.2.2.2.2.2.2.2.2.2.2.1
theorem dX7_aims_55 : decode cX7_aims 55 = .ok (.iload_n 1, 1) := dg_b110.2.2.2.2.2.2.2.2.2.2.2.2.1
theorem dX7_aims_56 : decode cX7_aims 56 = .ok (.iload_n 3, 1) := dg_b110.2.2.2.2.2.2.2.2.2.2.2.2.2.1
theorem dX7_aims_57 : decode cX7_aims 57 = .ok (.iastore, 1) := dg_b110.2.2.2.2.2.2.2.2.2.2.2.2.2.2.1
theorem dX7_aims_58 : decode cX7_aims 58 = .ok (.iload_n 2, 1) := dg_b110.2.2.2.2.2.2.2.2.2.2.2.2.2.2.2
theorem dg_b111 : (decode cX7_aims 59 = .ok (.iload_n 3, 1)) ∧ (decode cX7_aims 60 = .ok (.aload_n 0, 1)) ∧ (decode cX7_aims 61 = .ok (.getfield 26, 3)) ∧ (decode cX7_aims 64 = .ok (.invokevirtual 285, 3)) ∧ (decode cX7_aims 67 = .ok (.invokestatic 183, 3)) ∧ (decode cX7_aims 70 = .ok (.istore_n 2, 1)) ∧ (decode cX7_aims 71 = .ok (.iinc 3 1, 3)) ∧ (decode cX7_aims 74 = .ok (.goto (-57), 3)) ∧ (decode cX7_aims 77 = .ok (.iload_n 2, 1)) ∧ (decode cX7_aims 78 = .ok (.ireturn, 1)) := by decide +kernel
theorem dX7_aims_59 : decode cX7_aims 59 = .ok (.iload_n 3, 1) := dg_b111.1
theorem dX7_aims_60 : decode cX7_aims 60 = .ok (.aload_n 0, 1) := dg_b111.2.1
theorem dX7_aims_61 : decode cX7_aims 61 = .ok (.getfield 26, 3) := dg_b111.2.2.1
theorem dX7_aims_64 : decode cX7_aims 64 = .ok (.invokevirtual 285, 3) := dg_b111.2.2.2.1
theorem dX7_aims_67 : decode cX7_aims 67 = .ok (.invokestatic 183, 3) := dg_b111.2.2.2.2.1
theorem dX7_aims_70 : decode cX7_aims 70 = .ok (.istore_n 2, 1) := dg_b111.2.2.2.2.2.1
theorem dX7_aims_71 : decode cX7_aims 71 = .ok (.iinc 3 1, 3) := dg_b111.2.2.2.2.2.2.1
theorem dX7_aims_74 : decode cX7_aims 74 = .ok (.goto (-57), 3) := dg_b111.2.2.2.2.2.2.2.1
theorem dX7_aims_77 : decode cX7_aims 77 = .ok (.iload_n 2, 1) := dg_b111.2.2.2.2.2.2.2.2.1
theorem dX7_aims_78 : decode cX7_aims 78 = .ok (.ireturn, 1) := dg_b111.2.2.2.2.2.2.2.2.2
theorem dg_b112 : (decode cX7_whose 0 = .ok (.iconst 0, 1)) ∧ (decode cX7_whose 1 = .ok (.istore_n 1, 1)) ∧ (decode cX7_whose 2 = .ok (.iconst 0, 1)) ∧ (decode cX7_whose 3 = .ok (.istore_n 2, 1)) ∧ (decode cX7_whose 4 = .ok (.iload_n 2, 1)) ∧ (decode cX7_whose 5 = .ok (.aload_n 0, 1)) ∧ (decode cX7_whose 6 = .ok (.getfield 19, 3)) ∧ (decode cX7_whose 9 = .ok (.getfield 97, 3)) ∧ (decode cX7_whose 12 = .ok (.if_icmp .ge 44, 3)) ∧ (decode cX7_whose 15 = .ok (.aload_n 0, 1)) ∧ (decode cX7_whose 16 = .ok (.getfield 26, 3)) ∧ (decode cX7_whose 19 = .ok (.aload_n 0, 1)) ∧ (decode cX7_whose 20 = .ok (.getfield 19, 3)) ∧ (decode cX7_whose 23 = .ok (.invokevirtual 206, 3)) ∧ (decode cX7_whose 26 = .ok (.aload_n 0, 1)) ∧ (decode cX7_whose 27 = .ok (.getfield 26, 3)) := by decide +kernel
theorem dX7_whose_0 : decode cX7_whose 0 = .ok (.iconst 0, 1) := dg_b112.1
theorem dX7_whose_1 : decode cX7_whose 1 = .ok (.istore_n 1, 1) := dg_b112.2.1
theorem dX7_whose_2 : decode cX7_whose 2 = .ok (.iconst 0, 1) := dg_b112.2.2.1
theorem dX7_whose_3 : decode cX7_whose 3 = .ok (.istore_n 2, 1) := dg_b112.2.2.2.1
theorem dX7_whose_4 : decode cX7_whose 4 = .ok (.iload_n 2, 1) := dg_b112.2.2.2.2.1
theorem dX7_whose_5 : decode cX7_whose 5 = .ok (.aload_n 0, 1) := dg_b112.2.2.2.2.2.1
theorem dX7_whose_6 : decode cX7_whose 6 = .ok (.getfield 19, 3) := dg_b112.2.2.2.2.2.2.1
theorem dX7_whose_9 : decode cX7_whose 9 = .ok (.getfield 97, 3) := dg_b112.2.2.2.2.2.2.2.1
theorem dX7_whose_12 : decode cX7_whose 12 = .ok (.if_icmp .ge 44, 3) := dg_b112.2.2.2.2.2.2.2.2.1
theorem dX7_whose_15 : decode cX7_whose 15 = .ok (.aload_n 0, 1) := dg_b112.2.2.2.2.2.2.2.2.2.1
theorem dX7_whose_16 : decode cX7_whose 16 = .ok (.getfield 26, 3) := dg_b112.2.2.2.2.2.2.2.2.2.2.1
theorem dX7_whose_19 : decode cX7_whose 19 = .ok (.aload_n 0, 1) := dg_b112.2.2.2.2.2.2.2.2.2.2.2.1
theorem dX7_whose_20 : decode cX7_whose 20 = .ok (.getfield 19, 3) := dg_b112.2.2.2.2.2.2.2.2.2.2.2.2.1
theorem dX7_whose_23 : decode cX7_whose 23 = .ok (.invokevirtual 206, 3) := dg_b112.2.2.2.2.2.2.2.2.2.2.2.2.2.1
theorem dX7_whose_26 : decode cX7_whose 26 = .ok (.aload_n 0, 1) := dg_b112.2.2.2.2.2.2.2.2.2.2.2.2.2.2.1
theorem dX7_whose_27 : decode cX7_whose 27 = .ok (.getfield 26, 3) := dg_b112.2.2.2.2.2.2.2.2.2.2.2.2.2.2.2
theorem dg_b113 : (decode cX7_whose 30 = .ok (.getfield 212, 3)) ∧ (decode cX7_whose 33 = .ok (.iload_n 2, 1)) ∧ (decode cX7_whose 34 = .ok (.putfield 100, 3)) ∧ (decode cX7_whose 37 = .ok (.iload_n 1, 1)) ∧ (decode cX7_whose 38 = .ok (.iload_n 2, 1)) ∧ (decode cX7_whose 39 = .ok (.aload_n 0, 1)) ∧ (decode cX7_whose 40 = .ok (.getfield 26, 3)) ∧ (decode cX7_whose 43 = .ok (.invokevirtual 285, 3)) ∧ (decode cX7_whose 46 = .ok (.invokestatic 183, 3)) ∧ (decode cX7_whose 49 = .ok (.istore_n 1, 1)) ∧ (decode cX7_whose 50 = .ok (.iinc 2 1, 3)) ∧ (decode cX7_whose 53 = .ok (.goto (-49), 3)) ∧ (decode cX7_whose 56 = .ok (.iload_n 1, 1)) ∧ (decode cX7_whose 57 = .ok (.ireturn, 1)) := by decide +kernel
theorem dX7_whose_30 : decode cX7_whose 30 = .ok (.getfield 212, 3) := dg_b113.1
theorem dX7_whose_33 : decode cX7_whose 33 = .ok (.iload_n 2, 1) := dg_b113.2.1
theorem dX7_whose_34 : decode cX7_whose 34 = .ok (.putfield 100, 3) := dg_b113.2.2.1
theorem dX7_whose_37 : decode cX7_whose 37 = .ok (.iload_n 1, 1) := dg_b113.2.2.2.1
theorem dX7_whose_38 : decode cX7_whose 38 = .ok (.iload_n 2, 1) := dg_b113.2.2.2.2.1
theorem dX7_whose_39 : decode cX7_whose 39 = .ok (.aload_n 0, 1) := dg_b113.2.2.2.2.2.1
theorem dX7_whose_40 : decode cX7_whose 40 = .ok (.getfield 26, 3) := dg_b113.2.2.2.2.2.2.1
theorem dX7_whose_43 : decode cX7_whose 43 = .ok (.invokevirtual 285, 3) := dg_b113.2.2.2.2.2.2.2.1
theorem dX7_whose_46 : decode cX7_whose 46 = .ok (.invokestatic 183, 3) := dg_b113.2.2.2.2.2.2.2.2.1
theorem dX7_whose_49 : decode cX7_whose 49 = .ok (.istore_n 1, 1) := dg_b113.2.2.2.2.2.2.2.2.2.1
theorem dX7_whose_50 : decode cX7_whose 50 = .ok (.iinc 2 1, 3) := dg_b113.2.2.2.2.2.2.2.2.2.2.1
theorem dX7_whose_53 : decode cX7_whose 53 = .ok (.goto (-49), 3) := dg_b113.2.2.2.2.2.2.2.2.2.2.2.1
theorem dX7_whose_56 : decode cX7_whose 56 = .ok (.iload_n 1, 1) := dg_b113.2.2.2.2.2.2.2.2.2.2.2.2.1
theorem dX7_whose_57 : decode cX7_whose 57 = .ok (.ireturn, 1) := dg_b113.2.2.2.2.2.2.2.2.2.2.2.2.2
theorem dg_b114 : (decode cX7_fits 0 = .ok (.iload_n 1, 1)) ∧ (decode cX7_fits 1 = .ok (.invokestatic 244, 3)) ∧ (decode cX7_fits 4 = .ok (.ifCond .ne 5, 3)) ∧ (decode cX7_fits 7 = .ok (.iconst (-1), 1)) ∧ (decode cX7_fits 8 = .ok (.ireturn, 1)) ∧ (decode cX7_fits 9 = .ok (.iconst 0, 1)) ∧ (decode cX7_fits 10 = .ok (.istore_n 2, 1)) ∧ (decode cX7_fits 11 = .ok (.bipush (-4), 2)) ∧ (decode cX7_fits 13 = .ok (.istore_n 3, 1)) ∧ (decode cX7_fits 14 = .ok (.iconst 0, 1)) ∧ (decode cX7_fits 15 = .ok (.istore 4, 2)) ∧ (decode cX7_fits 17 = .ok (.iload 4, 2)) ∧ (decode cX7_fits 19 = .ok (.iconst 1, 1)) ∧ (decode cX7_fits 20 = .ok (.aload_n 0, 1)) := by decide +kernel
theorem dX7_fits_0 : decode cX7_fits 0 = .ok (.iload_n 1, 1) := dg_b114.1
theorem dX7_fits_1 : decode cX7_fits 1 = .ok (.invokestatic 244, 3) := dg_b114.2.1
theorem dX7_fits_4 : decode cX7_fits 4 = .ok (.ifCond .ne 5, 3) := dg_b114.2.2.1
theorem dX7_fits_7 : decode cX7_fits 7 = .ok (.iconst (-1), 1) := dg_b114.2.2.2.1
theorem dX7_fits_8 : decode cX7_fits 8 = .ok (.ireturn, 1) := dg_b114.2.2.2.2.1
theorem dX7_fits_9 : decode cX7_fits 9 = .ok (.iconst 0, 1) := dg_b114.2.2.2.2.2.1
theorem dX7_fits_10 : decode cX7_fits 10 = .ok (.istore_n 2, 1) := dg_b114.2.2.2.2.2.2.1
theorem dX7_fits_11 : decode cX7_fits 11 = .ok (.bipush (-4), 2) := dg_b114.2.2.2.2.2.2.2.1
theorem dX7_fits_13 : decode cX7_fits 13 = .ok (.istore_n 3, 1) := dg_b114.2.2.2.2.2.2.2.2.1
theorem dX7_fits_14 : decode cX7_fits 14 = .ok (.iconst 0, 1) := dg_b114.2.2.2.2.2.2.2.2.2.1
theorem dX7_fits_15 : decode cX7_fits 15 = .ok (.istore 4, 2) := dg_b114.2.2.2.2.2.2.2.2.2.2.1
theorem dX7_fits_17 : decode cX7_fits 17 = .ok (.iload 4, 2) := dg_b114.2.2.2.2.2.2.2.2.2.2.2.1
theorem dX7_fits_19 : decode cX7_fits 19 = .ok (.iconst 1, 1) := dg_b114.2.2.2.2.2.2.2.2.2.2.2.2.1
theorem dX7_fits_20 : decode cX7_fits 20 = .ok (.aload_n 0, 1) := dg_b114.2.2.2.2.2.2.2.2.2.2.2.2.2
