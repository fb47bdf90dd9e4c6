theorem dg_e0 : (decode cX8_see 50 = .ok (.aload_n 0, 1)) ∧ (decode cX8_see 51 = .ok (.getfield 7, 3)) ∧ (decode cX8_see 54 = .ok (.bipush 41, 2)) ∧ (decode cX8_see 56 = .ok (.iaload, 1)) ∧ (decode cX8_see 57 = .ok (.imul, 1)) ∧ (decode cX8_see 58 = .ok (.iadd, 1)) ∧ (decode cX8_see 59 = .ok (.iload_n 1, 1)) ∧ (decode cX8_see 60 = .ok (.iastore, 1)) ∧ (decode cX8_see 61 = .ok (.aload_n 0, 1)) ∧ (decode cX8_see 62 = .ok (.getfield 7, 3)) ∧ (decode cX8_see 65 = .ok (.bipush 42, 2)) ∧ (decode cX8_see 67 = .ok (.iconst 2, 1)) ∧ (decode cX8_see 68 = .ok (.aload_n 0, 1)) ∧ (decode cX8_see 69 = .ok (.getfield 7, 3)) ∧ (decode cX8_see 72 = .ok (.bipush 41, 2)) ∧ (decode cX8_see 74 = .ok (.iaload, 1)) := by decide +kernel
theorem dX8_see_50 : decode cX8_see 50 = .ok (.aload_n 0, 1) := dg_e0.1
theorem dX8_see_51 : decode cX8_see 51 = .ok (.getfield 7, 3) := dg_e0.2.1
theorem dX8_see_54 : decode cX8_see 54 = .ok (.bipush 41, 2) := dg_e0.2.2.1
theorem dX8_see_56 : decode cX8_see 56 = .ok (.iaload, 1) := dg_e0.2.2.2.1
theorem dX8_see_57 : decode cX8_see 57 = .ok (.imul, 1) := dg_e0.2.2.2.2.1
theorem dX8_see_58 : decode cX8_see 58 = .ok (.iadd, 1) := dg_e0.2.2.2.2.2.1
theorem dX8_see_59 : decode cX8_see 59 = .ok (.iload_n 1, 1) := dg_e0.2.2.2.2.2.2.1
theorem dX8_see_60 : decode cX8_see 60 = .ok (.iastore, 1) := dg_e0.2.2.2.2.2.2.2.1
theorem dX8_see_61 : decode cX8_see 61 = .ok (.aload_n 0, 1) := dg_e0.2.2.2.2.2.2.2.2.1
theorem dX8_see_62 : decode cX8_see 62 = .ok (.getfield 7, 3) := dg_e0.2.2.2.2.2.2.2.2.2.1
theorem dX8_see_65 : decode cX8_see 65 = .ok (.bipush 42, 2) := dg_e0.2.2.2.2.2.2.2.2.2.2.1
theorem dX8_see_67 : decode cX8_see 67 = .ok (.iconst 2, 1) := dg_e0.2.2.2.2.2.2.2.2.2.2.2.1
theorem dX8_see_68 : decode cX8_see 68 = .ok (.aload_n 0, 1) := dg_e0.2.2.2.2.2.2.2.2.2.2.2.2.1
theorem dX8_see_69 : decode cX8_see 69 = .ok (.getfield 7, 3) := dg_e0.2.2.2.2.2.2.2.2.2.2.2.2.2.1
theorem dX8_see_72 : decode cX8_see 72 = .ok (.bipush 41, 2) := dg_e0.2.2.2.2.2.2.2.2.2.2.2.2.2.2.1
theorem dX8_see_74 : decode cX8_see 74 = .ok (.iaload, 1) := dg_e0.2.2.2.2.2.2.2.2.2.2.2.2.2.2.2
theorem dg_e1 : (decode cX8_see 75 = .ok (.imul, 1)) ∧ (decode cX8_see 76 = .ok (.iadd, 1)) ∧ (decode cX8_see 77 = .ok (.iconst 1, 1)) ∧ (decode cX8_see 78 = .ok (.iadd, 1)) ∧ (decode cX8_see 79 = .ok (.iload_n 2, 1)) ∧ (decode cX8_see 80 = .ok (.iastore, 1)) ∧ (decode cX8_see 81 = .ok (.aload_n 0, 1)) ∧ (decode cX8_see 82 = .ok (.getfield 7, 3)) ∧ (decode cX8_see 85 = .ok (.bipush 41, 2)) ∧ (decode cX8_see 87 = .ok (.dup2, 1)) ∧ (decode cX8_see 88 = .ok (.iaload, 1)) ∧ (decode cX8_see 89 = .ok (.iconst 1, 1)) ∧ (decode cX8_see 90 = .ok (.iadd, 1)) ∧ (decode cX8_see 91 = .ok (.iastore, 1)) ∧ (decode cX8_see 92 = .ok (.aload_n 0, 1)) ∧ (decode cX8_see 93 = .ok (.getfield 7, 3)) := by decide +kernel
theorem dX8_see_75 : decode cX8_see 75 = .ok (.imul, 1) := dg_e1.1
theorem dX8_see_76 : decode cX8_see 76 = .ok (.iadd, 1) := dg_e1.2.1
theorem dX8_see_77 : decode cX8_see 77 = .ok (.iconst 1, 1) := dg_e1.2.2.1
theorem dX8_see_78 : decode cX8_see 78 = .ok (.iadd, 1) := dg_e1.2.2.2.1
theorem dX8_see_79 : decode cX8_see 79 = .ok (.iload_n 2, 1) := dg_e1.2.2.2.2.1
theorem dX8_see_80 : decode cX8_see 80 = .ok (.iastore, 1) := dg_e1.2.2.2.2.2.1
theorem dX8_see_81 : decode cX8_see 81 = .ok (.aload_n 0, 1) := dg_e1.2.2.2.2.2.2.1
theorem dX8_see_82 : decode cX8_see 82 = .ok (.getfield 7, 3) := dg_e1.2.2.2.2.2.2.2.1
theorem dX8_see_85 : decode cX8_see 85 = .ok (.bipush 41, 2) := dg_e1.2.2.2.2.2.2.2.2.1
theorem dX8_see_87 : decode cX8_see 87 = .ok (.dup2, 1) := dg_e1.2.2.2.2.2.2.2.2.2.1
theorem dX8_see_88 : decode cX8_see 88 = .ok (.iaload, 1) := dg_e1.2.2.2.2.2.2.2.2.2.2.1
theorem dX8_see_89 : decode cX8_see 89 = .ok (.iconst 1, 1) := dg_e1.2.2.2.2.2.2.2.2.2.2.2.1
theorem dX8_see_90 : decode cX8_see 90 = .ok (.iadd, 1) := dg_e1.2.2.2.2.2.2.2.2.2.2.2.2.1
theorem dX8_see_91 : decode cX8_see 91 = .ok (.iastore, 1) := dg_e1.2.2.2.2.2.2.2.2.2.2.2.2.2.1
theorem dX8_see_92 : decode cX8_see 92 = .ok (.aload_n 0, 1) := dg_e1.2.2.2.2.2.2.2.2.2.2.2.2.2.2.1
theorem dX8_see_93 : decode cX8_see 93 = .ok (.getfield 7, 3) := dg_e1.2.2.2.2.2.2.2.2.2.2.2.2.2.2.2
theorem dg_e2 : (decode cX8_see 96 = .ok (.bipush 41, 2)) ∧ (decode cX8_see 98 = .ok (.iaload, 1)) ∧ (decode cX8_see 99 = .ok (.ireturn, 1)) := by decide +kernel
theorem dX8_see_96 : decode cX8_see 96 = .ok (.bipush 41, 2) := dg_e2.1
theorem dX8_see_98 : decode cX8_see 98 = .ok (.iaload, 1) := dg_e2.2.1
theorem dX8_see_99 : decode cX8_see 99 = .ok (.ireturn, 1) := dg_e2.2.2
theorem dg_e3 : (decode cX8_forget 0 = .ok (.iload_n 1, 1)) ∧ (decode cX8_forget 1 = .ok (.i2l, 1)) ∧ (decode cX8_forget 2 = .ok (.lconst 0, 1)) ∧ (decode cX8_forget 3 = .ok (.aload_n 0, 1)) ∧ (decode cX8_forget 4 = .ok (.getfield 7, 3)) ∧ (decode cX8_forget 7 = .ok (.bipush 41, 2)) ∧ (decode cX8_forget 9 = .ok (.iaload, 1)) ∧ (decode cX8_forget 10 = .ok (.i2l, 1)) ∧ (decode cX8_forget 11 = .ok (.invokestatic 68, 3)) ∧ (decode cX8_forget 14 = .ok (.ifCond .eq 13, 3)) ∧ (decode cX8_forget 17 = .ok (.aload_n 0, 1)) ∧ (decode cX8_forget 18 = .ok (.bipush 41, 2)) ∧ (decode cX8_forget 20 = .ok (.iload_n 1, 1)) ∧ (decode cX8_forget 21 = .ok (.invokevirtual 212, 3)) ∧ (decode cX8_forget 24 = .ok (.goto 4, 3)) ∧ (decode cX8_forget 27 = .ok (.iconst (-1), 1)) := by decide +kernel
theorem dX8_forget_0 : decode cX8_forget 0 = .ok (.iload_n 1, 1) := dg_e3.1
theorem dX8_forget_1 : decode cX8_forget 1 = .ok (.i2l, 1) := dg_e3.2.1
theorem dX8_forget_2 : decode cX8_forget 2 = .ok (.lconst 0, 1) := dg_e3.2.2.1
theorem dX8_forget_3 : decode cX8_forget 3 = .ok (.aload_n 0, 1) := dg_e3.2.2.2.1
theorem dX8_forget_4 : decode cX8_forget 4 = .ok (.getfield 7, 3) := dg_e3.2.2.2.2.1
theorem dX8_forget_7 : decode cX8_forget 7 = .ok (.bipush 41, 2) := dg_e3.2.2.2.2.2.1
theorem dX8_forget_9 : decode cX8_forget 9 = .ok (.iaload, 1) := dg_e3.2.2.2.2.2.2.1
theorem dX8_forget_10 : decode cX8_forget 10 = .ok (.i2l, 1) := dg_e3.2.2.2.2.2.2.2.1
theorem dX8_forget_11 : decode cX8_forget 11 = .ok (.invokestatic 68, 3) := dg_e3.2.2.2.2.2.2.2.2.1
theorem dX8_forget_14 : decode cX8_forget 14 = .ok (.ifCond .eq 13, 3) := dg_e3.2.2.2.2.2.2.2.2.2.1
theorem dX8_forget_17 : decode cX8_forget 17 = .ok (.aload_n 0, 1) := dg_e3.2.2.2.2.2.2.2.2.2.2.1
theorem dX8_forget_18 : decode cX8_forget 18 = .ok (.bipush 41, 2) := dg_e3.2.2.2.2.2.2.2.2.2.2.2.1
theorem dX8_forget_20 : decode cX8_forget 20 = .ok (.iload_n 1, 1) := dg_e3.2.2.2.2.2.2.2.2.2.2.2.2.1
theorem dX8_forget_21 : decode cX8_forget 21 = .ok (.invokevirtual 212, 3) := dg_e3.2.2.2.2.2.2.2.2.2.2.2.2.2.1
theorem dX8_forget_24 : decode cX8_forget 24 = .ok (.goto 4, 3) := dg_e3.2.2.2.2.2.2.2.2.2.2.2.2.2.2.1
theorem dX8_forget_27 : decode cX8_forget 27 = .ok (.iconst (-1), 1) := dg_e3.2.2.2.2.2.2.2.2.2.2.2.2.2.2.2
theorem dX8_forget_28 : decode cX8_forget 28 = .ok (.ireturn, 1) := by decide +kernel
theorem dg_e4 : (decode cX8_isSo 0 = .ok (.iconst 1, 1)) ∧ (decode cX8_isSo 1 = .ok (.istore_n 1, 1)) ∧ (decode cX8_isSo 2 = .ok (.iconst 0, 1)) ∧ (decode cX8_isSo 3 = .ok (.istore_n 2, 1)) ∧ (decode cX8_isSo 4 = .ok (.iload_n 2, 1)) ∧ (decode cX8_isSo 5 = .ok (.bipush 8, 2)) ∧ (decode cX8_isSo 7 = .ok (.if_icmp .gt 101, 3)) ∧ (decode cX8_isSo 10 = .ok (.iconst 0, 1)) ∧ (decode cX8_isSo 11 = .ok (.istore_n 3, 1)) ∧ (decode cX8_isSo 12 = .ok (.iload_n 3, 1)) ∧ (decode cX8_isSo 13 = .ok (.aload_n 0, 1)) ∧ (decode cX8_isSo 14 = .ok (.getfield 7, 3)) ∧ (decode cX8_isSo 17 = .ok (.bipush 41, 2)) ∧ (decode cX8_isSo 19 = .ok (.iaload, 1)) ∧ (decode cX8_isSo 20 = .ok (.if_icmp .ge 57, 3)) ∧ (decode cX8_isSo 23 = .ok (.iload_n 1, 1)) := by decide +kernel
theorem dX8_isSo_0 : decode cX8_isSo 0 = .ok (.iconst 1, 1) := dg_e4.1
theorem dX8_isSo_1 : decode cX8_isSo 1 = .ok (.istore_n 1, 1) := dg_e4.2.1
theorem dX8_isSo_2 : decode cX8_isSo 2 = .ok (.iconst 0, 1) := dg_e4.2.2.1
theorem dX8_isSo_3 : decode cX8_isSo 3 = .ok (.istore_n 2, 1) := dg_e4.2.2.2.1
theorem dX8_isSo_4 : decode cX8_isSo 4 = .ok (.iload_n 2, 1) := dg_e4.2.2.2.2.1
theorem dX8_isSo_5 : decode cX8_isSo 5 = .ok (.bipush 8, 2) := dg_e4.2.2.2.2.2.1
theorem dX8_isSo_7 : decode cX8_isSo 7 = .ok (.if_icmp .gt 101, 3) := dg_e4.2.2.2.2.2.2.1
theorem dX8_isSo_10 : decode cX8_isSo 10 = .ok (.iconst 0, 1) := dg_e4.2.2.2.2.2.2.2.1
theorem dX8_isSo_11 : decode cX8_isSo 11 = .ok (.istore_n 3, 1) := dg_e4.2.2.2.2.2.2.2.2.1
theorem dX8_isSo_12 : decode cX8_isSo 12 = .ok (.iload_n 3, 1) := dg_e4.2.2.2.2.2.2.2.2.2.1
theorem dX8_isSo_13 : decode cX8_isSo 13 = .ok (.aload_n 0, 1) := dg_e4.2.2.2.2.2.2.2.2.2.2.1
theorem dX8_isSo_14 : decode cX8_isSo 14 = .ok (.getfield 7, 3) := dg_e4.2.2.2.2.2.2.2.2.2.2.2.1
theorem dX8_isSo_17 : decode cX8_isSo 17 = .ok (.bipush 41, 2) := dg_e4.2.2.2.2.2.2.2.2.2.2.2.2.1
theorem dX8_isSo_19 : decode cX8_isSo 19 = .ok (.iaload, 1) := dg_e4.2.2.2.2.2.2.2.2.2.2.2.2.2.1
theorem dX8_isSo_20 : decode cX8_isSo 20 = .ok (.if_icmp .ge 57, 3) := dg_e4.2.2.2.2.2.2.2.2.2.2.2.2.2.2.1
theorem dX8_isSo_23 : decode cX8_isSo 23 = .ok (.iload_n 1, 1) := dg_e4.2.2.2.2.2.2.2.2.2.2.2.2.2.2.2
theorem dg_e5 : (decode cX8_isSo 24 = .ok (.ifCond .eq 45, 3)) ∧ (decode cX8_isSo 27 = .ok (.aload_n 0, 1)) ∧ (decode cX8_isSo 28 = .ok (.getfield 7, 3)) ∧ (decode cX8_isSo 31 = .ok (.bipush 42, 2)) ∧ (decode cX8_isSo 33 = .ok (.iconst 2, 1)) ∧ (decode cX8_isSo 34 = .ok (.iload_n 3, 1)) ∧ (decode cX8_isSo 35 = .ok (.imul, 1)) ∧ (decode cX8_isSo 36 = .ok (.iadd, 1)) ∧ (decode cX8_isSo 37 = .ok (.iaload, 1)) ∧ (decode cX8_isSo 38 = .ok (.iload_n 2, 1)) ∧ (decode cX8_isSo 39 = .ok (.if_icmp .ne 26, 3)) ∧ (decode cX8_isSo 42 = .ok (.aload_n 0, 1)) ∧ (decode cX8_isSo 43 = .ok (.getfield 13, 3)) ∧ (decode cX8_isSo 46 = .ok (.bipush 31, 2)) ∧ (decode cX8_isSo 48 = .ok (.iaload, 1)) ∧ (decode cX8_isSo 49 = .ok (.aload_n 0, 1)) := by decide +kernel
theorem dX8_isSo_24 : decode cX8_isSo 24 = .ok (.ifCond .eq 45, 3) := dg_e5.1
theorem dX8_isSo_27 : decode cX8_isSo 27 = .ok (.aload_n 0, 1) := dg_e5.2.1
theorem dX8_isSo_28 : decode cX8_isSo 28 = .ok (.getfield 7, 3) := dg_e5.2.2.1
theorem dX8_isSo_31 : decode cX8_isSo 31 = .ok (.bipush 42, 2) := dg_e5.2.2.2.1
theorem dX8_isSo_33 : decode cX8_isSo 33 = .ok (.iconst 2, 1) := dg_e5.2.2.2.2.1
theorem dX8_isSo_34 : decode cX8_isSo 34 = .ok (.iload_n 3, 1) := dg_e5.2.2.2.2.2.1
theorem dX8_isSo_35 : decode cX8_isSo 35 = .ok (.imul, 1) := dg_e5.2.2.2.2.2.2.1
theorem dX8_isSo_36 : decode cX8_isSo 36 = .ok (.iadd, 1) := dg_e5.2.2.2.2.2.2.2.1
theorem dX8_isSo_37 : decode cX8_isSo 37 = .ok (.iaload, 1) := dg_e5.2.2.2.2.2.2.2.2.1
theorem dX8_isSo_38 : decode cX8_isSo 38 = .ok (.iload_n 2, 1) := dg_e5.2.2.2.2.2.2.2.2.2.1
theorem dX8_isSo_39 : decode cX8_isSo 39 = .ok (.if_icmp .ne 26, 3) := dg_e5.2.2.2.2.2.2.2.2.2.2.1
theorem dX8_isSo_42 : decode cX8_isSo 42 = .ok (.aload_n 0, 1) := dg_e5.2.2.2.2.2.2.2.2.2.2.2.1
theorem dX8_isSo_43 : decode cX8_isSo 43 = .ok (.getfield 13, 3) := dg_e5.2.2.2.2.2.2.2.2.2.2.2.2.1
theorem dX8_isSo_46 : decode cX8_isSo 46 = .ok (.bipush 31, 2) := dg_e5.2.2.2.2.2.2.2.2.2.2.2.2.2.1
theorem dX8_isSo_48 : decode cX8_isSo 48 = .ok (.iaload, 1) := dg_e5.2.2.2.2.2.2.2.2.2.2.2.2.2.2.1
theorem dX8_isSo_49 : decode cX8_isSo 49 = .ok (.aload_n 0, 1) := dg_e5.2.2.2.2.2.2.2.2.2.2.2.2.2.2.2
theorem dg_e6 : (decode cX8_isSo 50 = .ok (.getfield 7, 3)) ∧ (decode cX8_isSo 53 = .ok (.bipush 42, 2)) ∧ (decode cX8_isSo 55 = .ok (.iconst 2, 1)) ∧ (decode cX8_isSo 56 = .ok (.iload_n 3, 1)) ∧ (decode cX8_isSo 57 = .ok (.imul, 1)) ∧ (decode cX8_isSo 58 = .ok (.iadd, 1)) ∧ (decode cX8_isSo 59 = .ok (.iconst 1, 1)) ∧ (decode cX8_isSo 60 = .ok (.iadd, 1)) ∧ (decode cX8_isSo 61 = .ok (.iaload, 1)) ∧ (decode cX8_isSo 62 = .ok (.if_icmp .ne 7, 3)) ∧ (decode cX8_isSo 65 = .ok (.iconst 1, 1)) ∧ (decode cX8_isSo 66 = .ok (.goto 4, 3)) ∧ (decode cX8_isSo 69 = .ok (.iconst 0, 1)) ∧ (decode cX8_isSo 70 = .ok (.istore_n 1, 1)) ∧ (decode cX8_isSo 71 = .ok (.iinc 3 1, 3)) ∧ (decode cX8_isSo 74 = .ok (.goto (-62), 3)) := by decide +kernel
theorem dX8_isSo_50 : decode cX8_isSo 50 = .ok (.getfield 7, 3) := dg_e6.1
theorem dX8_isSo_53 : decode cX8_isSo 53 = .ok (.bipush 42, 2) := dg_e6.2.1
theorem dX8_isSo_55 : decode cX8_isSo 55 = .ok (.iconst 2, 1) := dg_e6.2.2.1
theorem dX8_isSo_56 : decode cX8_isSo 56 = .ok (.iload_n 3, 1) := dg_e6.2.2.2.1
theorem dX8_isSo_57 : decode cX8_isSo 57 = .ok (.imul, 1) := dg_e6.2.2.2.2.1
theorem dX8_isSo_58 : decode cX8_isSo 58 = .ok (.iadd, 1) := dg_e6.2.2.2.2.2.1
theorem dX8_isSo_59 : decode cX8_isSo 59 = .ok (.iconst 1, 1) := dg_e6.2.2.2.2.2.2.1
theorem dX8_isSo_60 : decode cX8_isSo 60 = .ok (.iadd, 1) := dg_e6.2.2.2.2.2.2.2.1
theorem dX8_isSo_61 : decode cX8_isSo 61 = .ok (.iaload, 1) := dg_e6.2.2.2.2.2.2.2.2.1
theorem dX8_isSo_62 : decode cX8_isSo 62 = .ok (.if_icmp .ne 7, 3) := dg_e6.2.2.2.2.2.2.2.2.2.1
theorem dX8_isSo_65 : decode cX8_isSo 65 = .ok (.iconst 1, 1) := dg_e6.2.2.2.2.2.2.2.2.2.2.1
theorem dX8_isSo_66 : decode cX8_isSo 66 = .ok (.goto 4, 3) := dg_e6.2.2.2.2.2.2.2.2.2.2.2.1
theorem dX8_isSo_69 : decode cX8_isSo 69 = .ok (.iconst 0, 1) := dg_e6.2.2.2.2.2.2.2.2.2.2.2.2.1
theorem dX8_isSo_70 : decode cX8_isSo 70 = .ok (.istore_n 1, 1) := dg_e6.2.2.2.2.2.2.2.2.2.2.2.2.2.1
theorem dX8_isSo_71 : decode cX8_isSo 71 = .ok (.iinc 3 1, 3) := dg_e6.2.2.2.2.2.2.2.2.2.2.2.2.2.2.1
theorem dX8_isSo_74 : decode cX8_isSo 74 = .ok (.goto (-62), 3) := dg_e6.2.2.2.2.2.2.2.2.2.2.2.2.2.2.2
theorem dg_e7 : (decode cX8_isSo 77 = .ok (.iload_n 2, 1)) ∧ (decode cX8_isSo 78 = .ok (.aload_n 0, 1)) ∧ (decode cX8_isSo 79 = .ok (.getfield 13, 3)) ∧ (decode cX8_isSo 82 = .ok (.bipush 32, 2)) ∧ (decode cX8_isSo 84 = .ok (.iaload, 1)) ∧ (decode cX8_isSo 85 = .ok (.if_icmp .ge 17, 3)) ∧ (decode cX8_isSo 88 = .ok (.aload_n 0, 1)) ∧ (decode cX8_isSo 89 = .ok (.aload_n 0, 1)) ∧ (decode cX8_isSo 90 = .ok (.getfield 13, 3)) ∧ (decode cX8_isSo 93 = .ok (.bipush 33, 2)) ∧ (decode cX8_isSo 95 = .ok (.iload_n 2, 1)) ∧ (decode cX8_isSo 96 = .ok (.iadd, 1)) ∧ (decode cX8_isSo 97 = .ok (.iaload, 1)) ∧ (decode cX8_isSo 98 = .ok (.invokevirtual 185, 3)) ∧ (decode cX8_isSo 101 = .ok (.pop, 1)) ∧ (decode cX8_isSo 102 = .ok (.iinc 2 1, 3)) := by decide +kernel
theorem dX8_isSo_77 : decode cX8_isSo 77 = .ok (.iload_n 2, 1) := dg_e7.1
theorem dX8_isSo_78 : decode cX8_isSo 78 = .ok (.aload_n 0, 1) := dg_e7.2.1
theorem dX8_isSo_79 : decode cX8_isSo 79 = .ok (.getfield 13, 3) := dg_e7.2.2.1
theorem dX8_isSo_82 : decode cX8_isSo 82 = .ok (.bipush 32, 2) := dg_e7.2.2.2.1
theorem dX8_isSo_84 : decode cX8_isSo 84 = .ok (.iaload, 1) := dg_e7.2.2.2.2.1
theorem dX8_isSo_85 : decode cX8_isSo 85 = .ok (.if_icmp .ge 17, 3) := dg_e7.2.2.2.2.2.1
theorem dX8_isSo_88 : decode cX8_isSo 88 = .ok (.aload_n 0, 1) := dg_e7.2.2.2.2.2.2.1
theorem dX8_isSo_89 : decode cX8_isSo 89 = .ok (.aload_n 0, 1) := dg_e7.2.2.2.2.2.2.2.1
theorem dX8_isSo_90 : decode cX8_isSo 90 = .ok (.getfield 13, 3) := dg_e7.2.2.2.2.2.2.2.2.1
theorem dX8_isSo_93 : decode cX8_isSo 93 = .ok (.bipush 33, 2) := dg_e7.2.2.2.2.2.2.2.2.2.1
theorem dX8_isSo_95 : decode cX8_isSo 95 = .ok (.iload_n 2, 1) := dg_e7.2.2.2.2.2.2.2.2.2.2.1
theorem dX8_isSo_96 : decode cX8_isSo 96 = .ok (.iadd, 1) := dg_e7.2.2.2.2.2.2.2.2.2.2.2.1
theorem dX8_isSo_97 : decode cX8_isSo 97 = .ok (.iaload, 1) := dg_e7.2.2.2.2.2.2.2.2.2.2.2.2.1
theorem dX8_isSo_98 : decode cX8_isSo 98 = .ok (.invokevirtual 185, 3) := dg_e7.2.2.2.2.2.2.2.2.2.2.2.2.2.1
theorem dX8_isSo_101 : decode cX8_isSo 101 = .ok (.pop, 1) := dg_e7.2.2.2.2.2.2.2.2.2.2.2.2.2.2.1
theorem dX8_isSo_102 : decode cX8_isSo 102 = .ok (.iinc 2 1, 3) := dg_e7.2.2.2.2.2.2.2.2.2.2.2.2.2.2.2
theorem dg_e8 : (decode cX8_isSo 105 = .ok (.goto (-101), 3)) ∧ (decode cX8_isSo 108 = .ok (.iload_n 1, 1)) ∧ (decode cX8_isSo 109 = .ok (.ireturn, 1)) := by decide +kernel
theorem dX8_isSo_105 : decode cX8_isSo 105 = .ok (.goto (-101), 3) := dg_e8.1
theorem dX8_isSo_108 : decode cX8_isSo 108 = .ok (.iload_n 1, 1) := dg_e8.2.1
theorem dX8_isSo_109 : decode cX8_isSo 109 = .ok (.ireturn, 1) := dg_e8.2.2
theorem dg_e9 : (decode cX8_aims 0 = .ok (.iload_n 1, 1)) ∧ (decode cX8_aims 1 = .ok (.i2l, 1)) ∧ (decode cX8_aims 2 = .ok (.lconst 0, 1)) ∧ (decode cX8_aims 3 = .ok (.aload_n 0, 1)) ∧ (decode cX8_aims 4 = .ok (.getfield 7, 3)) ∧ (decode cX8_aims 7 = .ok (.bipush 32, 2)) ∧ (decode cX8_aims 9 = .ok (.iaload, 1)) ∧ (decode cX8_aims 10 = .ok (.iconst 1, 1)) ∧ (decode cX8_aims 11 = .ok (.isub, 1)) ∧ (decode cX8_aims 12 = .ok (.i2l, 1)) ∧ (decode cX8_aims 13 = .ok (.invokestatic 68, 3)) ∧ (decode cX8_aims 16 = .ok (.ifCond .ne 5, 3)) ∧ (decode cX8_aims 19 = .ok (.iconst (-1), 1)) ∧ (decode cX8_aims 20 = .ok (.ireturn, 1)) ∧ (decode cX8_aims 21 = .ok (.iconst 0, 1)) ∧ (decode cX8_aims 22 = .ok (.istore_n 2, 1)) := by decide +kernel
theorem dX8_aims_0 : decode cX8_aims 0 = .ok (.iload_n 1, 1) := dg_e9.1
theorem dX8_aims_1 : decode cX8_aims 1 = .ok (.i2l, 1) := dg_e9.2.1
theorem dX8_aims_2 : decode cX8_aims 2 = .ok (.lconst 0, 1) := dg_e9.2.2.1
theorem dX8_aims_3 : decode cX8_aims 3 = .ok (.aload_n 0, 1) := dg_e9.2.2.2.1
theorem dX8_aims_4 : decode cX8_aims 4 = .ok (.getfield 7, 3) := dg_e9.2.2.2.2.1
theorem dX8_aims_7 : decode cX8_aims 7 = .ok (.bipush 32, 2) := dg_e9.2.2.2.2.2.1
theorem dX8_aims_9 : decode cX8_aims 9 = .ok (.iaload, 1) := dg_e9.2.2.2.2.2.2.1
theorem dX8_aims_10 : decode cX8_aims 10 = .ok (.iconst 1, 1) := dg_e9.2.2.2.2.2.2.2.1
theorem dX8_aims_11 : decode cX8_aims 11 = .ok (.isub, 1) := dg_e9.2.2.2.2.2.2.2.2.1
theorem dX8_aims_12 : decode cX8_aims 12 = .ok (.i2l, 1) := dg_e9.2.2.2.2.2.2.2.2.2.1
theorem dX8_aims_13 : decode cX8_aims 13 = .ok (.invokestatic 68, 3) := dg_e9.2.2.2.2.2.2.2.2.2.2.1
theorem dX8_aims_16 : decode cX8_aims 16 = .ok (.ifCond .ne 5, 3) := dg_e9.2.2.2.2.2.2.2.2.2.2.2.1
theorem dX8_aims_19 : decode cX8_aims 19 = .ok (.iconst (-1), 1) := dg_e9.2.2.2.2.2.2.2.2.2.2.2.2.1
theorem dX8_aims_20 : decode cX8_aims 20 = .ok (.ireturn, 1) := dg_e9.2.2.2.2.2.2.2.2.2.2.2.2.2.1
theorem dX8_aims_21 : decode cX8_aims 21 = .ok (.iconst 0, 1) := dg_e9.2.2.2.2.2.2.2.2.2.2.2.2.2.2.1
theorem dX8_aims_22 : decode cX8_aims 22 = .ok (.istore_n 2, 1) := dg_e9.2.2.2.2.2.2.2.2.2.2.2.2.2.2.2
theorem dg_e10 : (decode cX8_aims 23 = .ok (.iconst 0, 1)) ∧ (decode cX8_aims 24 = .ok (.istore_n 3, 1)) ∧ (decode cX8_aims 25 = .ok (.iload_n 3, 1)) ∧ (decode cX8_aims 26 = .ok (.bipush 7, 2)) ∧ (decode cX8_aims 28 = .ok (.if_icmp .ge 43, 3)) ∧ (decode cX8_aims 31 = .ok (.aload_n 0, 1)) ∧ (decode cX8_aims 32 = .ok (.iload_n 3, 1)) ∧ (decode cX8_aims 33 = .ok (.invokevirtual 218, 3)) ∧ (decode cX8_aims 36 = .ok (.ifCond .eq 29, 3)) ∧ (decode cX8_aims 39 = .ok (.aload_n 0, 1)) ∧ (decode cX8_aims 40 = .ok (.invokevirtual 188, 3)) ∧ (decode cX8_aims 43 = .ok (.aload_n 0, 1)) ∧ (decode cX8_aims 44 = .ok (.getfield 13, 3)) ∧ (decode cX8_aims 47 = .ok (.bipush 33, 2)) ∧ (decode cX8_aims 49 = .ok (.iload_n 1, 1)) ∧ (decode cX8_aims 50 = .ok (.iadd, 1)) := by decide +kernel
theorem dX8_aims_23 : decode cX8_aims 23 = .ok (.iconst 0, 1) := dg_e10.1
theorem dX8_aims_24 : decode cX8_aims 24 = .ok (.istore_n 3, 1) := dg_e10.2.1
theorem dX8_aims_25 : decode cX8_aims 25 = .ok (.iload_n 3, 1) := dg_e10.2.2.1
theorem dX8_aims_26 : decode cX8_aims 26 = .ok (.bipush 7, 2) := dg_e10.2.2.2.1
theorem dX8_aims_28 : decode cX8_aims 28 = .ok (.if_icmp .ge 43, 3) := dg_e10.2.2.2.2.1
theorem dX8_aims_31 : decode cX8_aims 31 = .ok (.aload_n 0, 1) := dg_e10.2.2.2.2.2.1
theorem dX8_aims_32 : decode cX8_aims 32 = .ok (.iload_n 3, 1) := dg_e10.2.2.2.2.2.2.1
theorem dX8_aims_33 : decode cX8_aims 33 = .ok (.invokevirtual 218, 3) := dg_e10.2.2.2.2.2.2.2.1
theorem dX8_aims_36 : decode cX8_aims 36 = .ok (.ifCond .eq 29, 3) := dg_e10.2.2.2.2.2.2.2.2.1
theorem dX8_aims_39 : decode cX8_aims 39 = .ok (.aload_n 0, 1) := dg_e10.2.2.2.2.2.2.2.2.2.1
theorem dX8_aims_40 : decode cX8_aims 40 = .ok (.invokevirtual 188, 3) := dg_e10.2.2.2.2.2.2.2.2.2.2.1
theorem dX8_aims_43 : decode cX8_aims 43 = .ok (.aload_n 0, 1) := dg_e10.2.2.2.2.2.2.2.2.2.2.2.1
theorem dX8_aims_44 : decode cX8_aims 44 = .ok (.getfield 13, 3) := dg_e10.2.2.2.2.2.2.2.2.2.2.2.2.1
theorem dX8_aims_47 : decode cX8_aims 47 = .ok (.bipush 33, 2) := dg_e10.2.2.2.2.2.2.2.2.2.2.2.2.2.1
theorem dX8_aims_49 : decode cX8_aims 49 = .ok (.iload_n 1, 1) := dg_e10.2.2.2.2.2.2.2.2.2.2.2.2.2.2.1
theorem dX8_aims_50 : decode cX8_aims 50 = .ok (.iadd, 1) := dg_e10.2.2.2.2.2.2.2.2.2.2.2.2.2.2.2
theorem dg_e11 : (decode cX8_aims 51 = .ok (.iload_n 3, 1)) ∧ (decode cX8_aims 52 = .ok (.iastore, 1)) ∧ (decode cX8_aims 53 = .ok (.iload_n 2, 1)) ∧ (decode cX8_aims 54 = .ok (.aload_n 0, 1)) ∧ (decode cX8_aims 55 = .ok (.invokevirtual 288, 3)) ∧ (decode cX8_aims 58 = .ok (.invokestatic 194, 3)) ∧ (decode cX8_aims 61 = .ok (.iload_n 3, 1)) ∧ (decode cX8_aims 62 = .ok (.ishl, 1)) ∧ (decode cX8_aims 63 = .ok (.ior, 1)) ∧ (decode cX8_aims 64 = .ok (.istore_n 2, 1)) ∧ (decode cX8_aims 65 = .ok (.iinc 3 1, 3)) ∧ (decode cX8_aims 68 = .ok (.goto (-43), 3)) ∧ (decode cX8_aims 71 = .ok (.iload_n 2, 1)) ∧ (decode cX8_aims 72 = .ok (.ireturn, 1)) := by decide +kernel
theorem dX8_aims_51 : decode cX8_aims 51 = .ok (.iload_n 3, 1) := dg_e11.1
theorem dX8_aims_52 : decode cX8_aims 52 = .ok (.iastore, 1) := dg_e11.2.1
theorem dX8_aims_53 : decode cX8_aims 53 = .ok (.iload_n 2, 1) := dg_e11.2.2.1
theorem dX8_aims_54 : decode cX8_aims 54 = .ok (.aload_n 0, 1) := dg_e11.2.2.2.1
theorem dX8_aims_55 : decode cX8_aims 55 = .ok (.invokevirtual 288, 3) := dg_e11.2.2.2.2.1
theorem dX8_aims_58 : decode cX8_aims 58 = .ok (.invokestatic 194, 3) := dg_e11.2.2.2.2.2.1
theorem dX8_aims_61 : decode cX8_aims 61 = .ok (.iload_n 3, 1) := dg_e11.2.2.2.2.2.2.1
theorem dX8_aims_62 : decode cX8_aims 62 = .ok (.ishl, 1) := dg_e11.2.2.2.2.2.2.2.1
theorem dX8_aims_63 : decode cX8_aims 63 = .ok (.ior, 1) := dg_e11.2.2.2.2.2.2.2.2.1
theorem dX8_aims_64 : decode cX8_aims 64 = .ok (.istore_n 2, 1) := dg_e11.2.2.2.2.2.2.2.2.2.1
theorem dX8_aims_65 : decode cX8_aims 65 = .ok (.iinc 3 1, 3) := dg_e11.2.2.2.2.2.2.2.2.2.2.1
theorem dX8_aims_68 : decode cX8_aims 68 = .ok (.goto (-43), 3) := dg_e11.2.2.2.2.2.2.2.2.2.2.2.1
theorem dX8_aims_71 : decode cX8_aims 71 = .ok (.iload_n 2, 1) := dg_e11.2.2.2.2.2.2.2.2.2.2.2.2.1
theorem dX8_aims_72 : decode cX8_aims 72 = .ok (.ireturn, 1) := dg_e11.2.2.2.2.2.2.2.2.2.2.2.2.2
theorem dg_e12 : (decode cX8_whose 0 = .ok (.iconst 0, 1)) ∧ (decode cX8_whose 1 = .ok (.istore_n 1, 1)) ∧ (decode cX8_whose 2 = .ok (.iconst 0, 1)) ∧ (decode cX8_whose 3 = .ok (.istore_n 2, 1)) ∧ (decode cX8_whose 4 = .ok (.iload_n 2, 1)) ∧ (decode cX8_whose 5 = .ok (.aload_n 0, 1)) ∧ (decode cX8_whose 6 = .ok (.getfield 63, 3)) ∧ (decode cX8_whose 9 = .ok (.if_icmp .ge 33, 3)) ∧ (decode cX8_whose 12 = .ok (.aload_n 0, 1)) ∧ (decode cX8_whose 13 = .ok (.invokevirtual 188, 3)) ∧ (decode cX8_whose 16 = .ok (.aload_n 0, 1)) ∧ (decode cX8_whose 17 = .ok (.getfield 13, 3)) ∧ (decode cX8_whose 20 = .ok (.bipush 23, 2)) ∧ (decode cX8_whose 22 = .ok (.iload_n 2, 1)) ∧ (decode cX8_whose 23 = .ok (.iastore, 1)) ∧ (decode cX8_whose 24 = .ok (.iload_n 1, 1)) := by decide +kernel
theorem dX8_whose_0 : decode cX8_whose 0 = .ok (.iconst 0, 1) := dg_e12.1
theorem dX8_whose_1 : decode cX8_whose 1 = .ok (.istore_n 1, 1) := dg_e12.2.1
theorem dX8_whose_2 : decode cX8_whose 2 = .ok (.iconst 0, 1) := dg_e12.2.2.1
theorem dX8_whose_3 : decode cX8_whose 3 = .ok (.istore_n 2, 1) := dg_e12.2.2.2.1
theorem dX8_whose_4 : decode cX8_whose 4 = .ok (.iload_n 2, 1) := dg_e12.2.2.2.2.1
theorem dX8_whose_5 : decode cX8_whose 5 = .ok (.aload_n 0, 1) := dg_e12.2.2.2.2.2.1
theorem dX8_whose_6 : decode cX8_whose 6 = .ok (.getfield 63, 3) := dg_e12.2.2.2.2.2.2.1
theorem dX8_whose_9 : decode cX8_whose 9 = .ok (.if_icmp .ge 33, 3) := dg_e12.2.2.2.2.2.2.2.1
theorem dX8_whose_12 : decode cX8_whose 12 = .ok (.aload_n 0, 1) := dg_e12.2.2.2.2.2.2.2.2.1
theorem dX8_whose_13 : decode cX8_whose 13 = .ok (.invokevirtual 188, 3) := dg_e12.2.2.2.2.2.2.2.2.2.1
theorem dX8_whose_16 : decode cX8_whose 16 = .ok (.aload_n 0, 1) := dg_e12.2.2.2.2.2.2.2.2.2.2.1
theorem dX8_whose_17 : decode cX8_whose 17 = .ok (.getfield 13, 3) := dg_e12.2.2.2.2.2.2.2.2.2.2.2.1
theorem dX8_whose_20 : decode cX8_whose 20 = .ok (.bipush 23, 2) := dg_e12.2.2.2.2.2.2.2.2.2.2.2.2.1
theorem dX8_whose_22 : decode cX8_whose 22 = .ok (.iload_n 2, 1) := dg_e12.2.2.2.2.2.2.2.2.2.2.2.2.2.1
theorem dX8_whose_23 : decode cX8_whose 23 = .ok (.iastore, 1) := dg_e12.2.2.2.2.2.2.2.2.2.2.2.2.2.2.1
theorem dX8_whose_24 : decode cX8_whose 24 = .ok (.iload_n 1, 1) := dg_e12.2.2.2.2.2.2.2.2.2.2.2.2.2.2.2
theorem dg_e13 : (decode cX8_whose 25 = .ok (.aload_n 0, 1)) ∧ (decode cX8_whose 26 = .ok (.invokevirtual 288, 3)) ∧ (decode cX8_whose 29 = .ok (.invokestatic 194, 3)) ∧ (decode cX8_whose 32 = .ok (.iload_n 2, 1)) ∧ (decode cX8_whose 33 = .ok (.ishl, 1)) ∧ (decode cX8_whose 34 = .ok (.ior, 1)) ∧ (decode cX8_whose 35 = .ok (.istore_n 1, 1)) ∧ (decode cX8_whose 36 = .ok (.iinc 2 1, 3)) ∧ (decode cX8_whose 39 = .ok (.goto (-35), 3)) ∧ (decode cX8_whose 42 = .ok (.iload_n 1, 1)) ∧ (decode cX8_whose 43 = .ok (.ireturn, 1)) := by decide +kernel
theorem dX8_whose_25 : decode cX8_whose 25 = .ok (.aload_n 0, 1) := dg_e13.1
theorem dX8_whose_26 : decode cX8_whose 26 = .ok (.invokevirtual 288, 3) := dg_e13.2.1
theorem dX8_whose_29 : decode cX8_whose 29 = .ok (.invokestatic 194, 3) := dg_e13.2.2.1
theorem dX8_whose_32 : decode cX8_whose 32 = .ok (.iload_n 2, 1) := dg_e13.2.2.2.1
theorem dX8_whose_33 : decode cX8_whose 33 = .ok (.ishl, 1) := dg_e13.2.2.2.2.1
theorem dX8_whose_34 : decode cX8_whose 34 = .ok (.ior, 1) := dg_e13.2.2.2.2.2.1
theorem dX8_whose_35 : decode cX8_whose 35 = .ok (.istore_n 1, 1) := dg_e13.2.2.2.2.2.2.1
theorem dX8_whose_36 : decode cX8_whose 36 = .ok (.iinc 2 1, 3) := dg_e13.2.2.2.2.2.2.2.1
theorem dX8_whose_39 : decode cX8_whose 39 = .ok (.goto (-35), 3) := dg_e13.2.2.2.2.2.2.2.2.1
theorem dX8_whose_42 : decode cX8_whose 42 = .ok (.iload_n 1, 1) := dg_e13.2.2.2.2.2.2.2.2.2.1
theorem dX8_whose_43 : decode cX8_whose 43 = .ok (.ireturn, 1) := dg_e13.2.2.2.2.2.2.2.2.2.2
theorem dg_e14 : (decode cX8_fits 0 = .ok (.iload_n 1, 1)) ∧ (decode cX8_fits 1 = .ok (.invokestatic 246, 3)) ∧ (decode cX8_fits 4 = .ok (.ifCond .ne 5, 3)) ∧ (decode cX8_fits 7 = .ok (.iconst (-1), 1)) ∧ (decode cX8_fits 8 = .ok (.ireturn, 1)) ∧ (decode cX8_fits 9 = .ok (.iconst 0, 1)) ∧ (decode cX8_fits 10 = .ok (.istore_n 2, 1)) ∧ (decode cX8_fits 11 = .ok (.bipush (-4), 2)) ∧ (decode cX8_fits 13 = .ok (.istore_n 3, 1)) ∧ (decode cX8_fits 14 = .ok (.iconst 0, 1)) ∧ (decode cX8_fits 15 = .ok (.istore 4, 2)) ∧ (decode cX8_fits 17 = .ok (.iload 4, 2)) ∧ (decode cX8_fits 19 = .ok (.iconst 1, 1)) ∧ (decode cX8_fits 20 = .ok (.aload_n 0, 1)) ∧ (decode cX8_fits 21 = .ok (.getfield 60, 3)) ∧ (decode cX8_fits 24 = .ok (.ishl, 1)) := by decide +kernel
theorem dX8_fits_0 : decode cX8_fits 0 = .ok (.iload_n 1, 1) := dg_e14.1
theorem dX8_fits_1 : decode cX8_fits 1 = .ok (.invokestatic 246, 3) := dg_e14.2.1
theorem dX8_fits_4 : decode cX8_fits 4 = .ok (.ifCond .ne 5, 3) := dg_e14.2.2.1
theorem dX8_fits_7 : decode cX8_fits 7 = .ok (.iconst (-1), 1) := dg_e14.2.2.2.1
theorem dX8_fits_8 : decode cX8_fits 8 = .ok (.ireturn, 1) := dg_e14.2.2.2.2.1
theorem dX8_fits_9 : decode cX8_fits 9 = .ok (.iconst 0, 1) := dg_e14.2.2.2.2.2.1
theorem dX8_fits_10 : decode cX8_fits 10 = .ok (.istore_n 2, 1) := dg_e14.2.2.2.2.2.2.1
theorem dX8_fits_11 : decode cX8_fits 11 = .ok (.bipush (-4), 2) := dg_e14.2.2.2.2.2.2.2.1
theorem dX8_fits_13 : decode cX8_fits 13 = .ok (.istore_n 3, 1) := dg_e14.2.2.2.2.2.2.2.2.1
theorem dX8_fits_14 : decode cX8_fits 14 = .ok (.iconst 0, 1) := dg_e14.2.2.2.2.2.2.2.2.2.1
theorem dX8_fits_15 : decode cX8_fits 15 = .ok (.istore 4, 2) := dg_e14.2.2.2.2.2.2.2.2.2.2.1
theorem dX8_fits_17 : decode cX8_fits 17 = .ok (.iload 4, 2) := dg_e14.2.2.2.2.2.2.2.2.2.2.2.1
theorem dX8_fits_19 : decode cX8_fits 19 = .ok (.iconst 1, 1) := dg_e14.2.2.2.2.2.2.2.2.2.2.2.2.1
theorem dX8_fits_20 : decode cX8_fits 20 = .ok (.aload_n 0, 1) := dg_e14.2.2.2.2.2.2.2.2.2.2.2.2.2.1
theorem dX8_fits_21 : decode cX8_fits 21 = .ok (.getfield 60, 3) := dg_e14.2.2.2.2.2.2.2.2.2.2.2.2.2.2.1
theorem dX8_fits_24 : decode cX8_fits 24 = .ok (.ishl, 1) := dg_e14.2.2.2.2.2.2.2.2.2.2.2.2.2.2.2
theorem dg_e15 : (decode cX8_fits 25 = .ok (.if_icmp .ge 36, 3)) ∧ (decode cX8_fits 28 = .ok (.aload_n 0, 1)) ∧ (decode cX8_fits 29 = .ok (.iload 4, 2)) ∧ (decode cX8_fits 31 = .ok (.invokevirtual 258, 3)) ∧ (decode cX8_fits 34 = .ok (.aload_n 0, 1)) ∧ (decode cX8_fits 35 = .ok (.invokevirtual 288, 3)) ∧ (decode cX8_fits 38 = .ok (.ifCond .eq 17, 3)) ∧ (decode cX8_fits 41 = .ok (.iload_n 2, 1)) ∧ (decode cX8_fits 42 = .ok (.ifCond .ne 8, 3)) ∧ (decode cX8_fits 45 = .ok (.iload 4, 2)) ∧ (decode cX8_fits 47 = .ok (.goto 4, 3)) ∧ (decode cX8_fits 50 = .ok (.iload_n 3, 1)) ∧ (decode cX8_fits 51 = .ok (.istore_n 3, 1)) ∧ (decode cX8_fits 52 = .ok (.iinc 2 1, 3)) ∧ (decode cX8_fits 55 = .ok (.iinc 4 1, 3)) ∧ (decode cX8_fits 58 = .ok (.goto (-41), 3)) := by decide +kernel
theorem dX8_fits_25 : decode cX8_fits 25 = .ok (.if_icmp .ge 36, 3) := dg_e15.1
theorem dX8_fits_28 : decode cX8_fits 28 = .ok (.aload_n 0, 1) := dg_e15.2.1
theorem dX8_fits_29 : decode cX8_fits 29 = .ok (.iload 4, 2) := dg_e15.2.2.1
theorem dX8_fits_31 : decode cX8_fits 31 = .ok (.invokevirtual 258, 3) := dg_e15.2.2.2.1
theorem dX8_fits_34 : decode cX8_fits 34 = .ok (.aload_n 0, 1) := dg_e15.2.2.2.2.1
theorem dX8_fits_35 : decode cX8_fits 35 = .ok (.invokevirtual 288, 3) := dg_e15.2.2.2.2.2.1
theorem dX8_fits_38 : decode cX8_fits 38 = .ok (.ifCond .eq 17, 3) := dg_e15.2.2.2.2.2.2.1
theorem dX8_fits_41 : decode cX8_fits 41 = .ok (.iload_n 2, 1) := dg_e15.2.2.2.2.2.2.2.1
theorem dX8_fits_42 : decode cX8_fits 42 = .ok (.ifCond .ne 8, 3) := dg_e15.2.2.2.2.2.2.2.2.1
theorem dX8_fits_45 : decode cX8_fits 45 = .ok (.iload 4, 2) := dg_e15.2.2.2.2.2.2.2.2.2.1
theorem dX8_fits_47 : decode cX8_fits 47 = .ok (.goto 4, 3) := dg_e15.2.2.2.2.2.2.2.2.2.2.1
theorem dX8_fits_50 : decode cX8_fits 50 = .ok (.iload_n 3, 1) := dg_e15.2.2.2.2.2.2.2.2.2.2.2.1
theorem dX8_fits_51 : decode cX8_fits 51 = .ok (.istore_n 3, 1) := dg_e15.2.2.2.2.2.2.2.2.2.2.2.2.1
theorem dX8_fits_52 : decode cX8_fits 52 = .ok (.iinc 2 1, 3) := dg_e15.2.2.2.2.2.2.2.2.2.2.2.2.2.1
theorem dX8_fits_55 : decode cX8_fits 55 = .ok (.iinc 4 1, 3) := dg_e15.2.2.2.2.2.2.2.2.2.2.2.2.2.2.1
theorem dX8_fits_58 : decode cX8_fits 58 = .ok (.goto (-41), 3) := dg_e15.2.2.2.2.2.2.2.2.2.2.2.2.2.2.2
theorem dg_e16 : (decode cX8_fits 61 = .ok (.iload_n 1, 1)) ∧ (decode cX8_fits 62 = .ok (.ifCond .ne 7, 3)) ∧ (decode cX8_fits 65 = .ok (.iload_n 2, 1)) ∧ (decode cX8_fits 66 = .ok (.goto 4, 3)) ∧ (decode cX8_fits 69 = .ok (.iload_n 3, 1)) ∧ (decode cX8_fits 70 = .ok (.ireturn, 1)) := by decide +kernel
theorem dX8_fits_61 : decode cX8_fits 61 = .ok (.iload_n 1, 1) := dg_e16.1
theorem dX8_fits_62 : decode cX8_fits 62 = .ok (.ifCond .ne 7, 3) := dg_e16.2.1
theorem dX8_fits_65 : decode cX8_fits 65 = .ok (.iload_n 2, 1) := dg_e16.2.2.1
theorem dX8_fits_66 : decode cX8_fits 66 = .ok (.goto 4, 3) := dg_e16.2.2.2.1
theorem dX8_fits_69 : decode cX8_fits 69 = .ok (.iload_n 3, 1) := dg_e16.2.2.2.2.1
theorem dX8_fits_70 : decode cX8_fits 70 = .ok (.ireturn, 1) := dg_e16.2.2.2.2.2
theorem dg_e17 : (decode cX8_drift 0 = .ok (.iload_n 2, 1)) ∧ (decode cX8_drift 1 = .ok (.i2l, 1)) ∧ (decode cX8_drift 2 = .ok (.lconst 1, 1)) ∧ (decode cX8_drift 3 = .ok (.ldc2_w 291, 3)) ∧ (decode cX8_drift 6 = .ok (.invokestatic 68, 3)) ∧ (decode cX8_drift 9 = .ok (.ifCond .eq 10, 3)) ∧ (decode cX8_drift 12 = .ok (.iload_n 3, 1)) ∧ (decode cX8_drift 13 = .ok (.invokestatic 246, 3)) ∧ (decode cX8_drift 16 = .ok (.ifCond .ne 5, 3)) ∧ (decode cX8_drift 19 = .ok (.iconst (-1), 1)) ∧ (decode cX8_drift 20 = .ok (.ireturn, 1)) ∧ (decode cX8_drift 21 = .ok (.iload_n 1, 1)) ∧ (decode cX8_drift 22 = .ok (.istore 4, 2)) ∧ (decode cX8_drift 24 = .ok (.aload_n 0, 1)) ∧ (decode cX8_drift 25 = .ok (.invokevirtual 188, 3)) ∧ (decode cX8_drift 28 = .ok (.iconst 0, 1)) := by decide +kernel
theorem dX8_drift_0 : decode cX8_drift 0 = .ok (.iload_n 2, 1) := dg_e17.1
theorem dX8_drift_1 : decode cX8_drift 1 = .ok (.i2l, 1) := dg_e17.2.1
theorem dX8_drift_2 : decode cX8_drift 2 = .ok (.lconst 1, 1) := dg_e17.2.2.1
theorem dX8_drift_3 : decode cX8_drift 3 = .ok (.ldc2_w 291, 3) := dg_e17.2.2.2.1
theorem dX8_drift_6 : decode cX8_drift 6 = .ok (.invokestatic 68, 3) := dg_e17.2.2.2.2.1
theorem dX8_drift_9 : decode cX8_drift 9 = .ok (.ifCond .eq 10, 3) := dg_e17.2.2.2.2.2.1
theorem dX8_drift_12 : decode cX8_drift 12 = .ok (.iload_n 3, 1) := dg_e17.2.2.2.2.2.2.1
theorem dX8_drift_13 : decode cX8_drift 13 = .ok (.invokestatic 246, 3) := dg_e17.2.2.2.2.2.2.2.1
theorem dX8_drift_16 : decode cX8_drift 16 = .ok (.ifCond .ne 5, 3) := dg_e17.2.2.2.2.2.2.2.2.1
theorem dX8_drift_19 : decode cX8_drift 19 = .ok (.iconst (-1), 1) := dg_e17.2.2.2.2.2.2.2.2.2.1
theorem dX8_drift_20 : decode cX8_drift 20 = .ok (.ireturn, 1) := dg_e17.2.2.2.2.2.2.2.2.2.2.1
theorem dX8_drift_21 : decode cX8_drift 21 = .ok (.iload_n 1, 1) := dg_e17.2.2.2.2.2.2.2.2.2.2.2.1
theorem dX8_drift_22 : decode cX8_drift 22 = .ok (.istore 4, 2) := dg_e17.2.2.2.2.2.2.2.2.2.2.2.2.1
theorem dX8_drift_24 : decode cX8_drift 24 = .ok (.aload_n 0, 1) := dg_e17.2.2.2.2.2.2.2.2.2.2.2.2.2.1
theorem dX8_drift_25 : decode cX8_drift 25 = .ok (.invokevirtual 188, 3) := dg_e17.2.2.2.2.2.2.2.2.2.2.2.2.2.2.1
theorem dX8_drift_28 : decode cX8_drift 28 = .ok (.iconst 0, 1) := dg_e17.2.2.2.2.2.2.2.2.2.2.2.2.2.2.2
theorem dg_e18 : (decode cX8_drift 29 = .ok (.istore 5, 2)) ∧ (decode cX8_drift 31 = .ok (.iload 5, 2)) ∧ (decode cX8_drift 33 = .ok (.iload_n 2, 1)) ∧ (decode cX8_drift 34 = .ok (.if_icmp .ge 60, 3)) ∧ (decode cX8_drift 37 = .ok (.iload 4, 2)) ∧ (decode cX8_drift 39 = .ok (.ldc_w 293, 3)) ∧ (decode cX8_drift 42 = .ok (.imul, 1)) ∧ (decode cX8_drift 43 = .ok (.sipush 12345, 3)) ∧ (decode cX8_drift 46 = .ok (.iadd, 1)) ∧ (decode cX8_drift 47 = .ok (.istore 4, 2)) ∧ (decode cX8_drift 49 = .ok (.iload 4, 2)) ∧ (decode cX8_drift 51 = .ok (.bipush 16, 2)) ∧ (decode cX8_drift 53 = .ok (.ishr, 1)) ∧ (decode cX8_drift 54 = .ok (.sipush 32767, 3)) ∧ (decode cX8_drift 57 = .ok (.iand, 1)) ∧ (decode cX8_drift 58 = .ok (.bipush 7, 2)) := by decide +kernel
theorem dX8_drift_29 : decode cX8_drift 29 = .ok (.istore 5, 2) := dg_e18.1
theorem dX8_drift_31 : decode cX8_drift 31 = .ok (.iload 5, 2) := dg_e18.2.1
theorem dX8_drift_33 : decode cX8_drift 33 = .ok (.iload_n 2, 1) := dg_e18.2.2.1
theorem dX8_drift_34 : decode cX8_drift 34 = .ok (.if_icmp .ge 60, 3) := dg_e18.2.2.2.1
theorem dX8_drift_37 : decode cX8_drift 37 = .ok (.iload 4, 2) := dg_e18.2.2.2.2.1
theorem dX8_drift_39 : decode cX8_drift 39 = .ok (.ldc_w 293, 3) := dg_e18.2.2.2.2.2.1
theorem dX8_drift_42 : decode cX8_drift 42 = .ok (.imul, 1) := dg_e18.2.2.2.2.2.2.1
theorem dX8_drift_43 : decode cX8_drift 43 = .ok (.sipush 12345, 3) := dg_e18.2.2.2.2.2.2.2.1
theorem dX8_drift_46 : decode cX8_drift 46 = .ok (.iadd, 1) := dg_e18.2.2.2.2.2.2.2.2.1
theorem dX8_drift_47 : decode cX8_drift 47 = .ok (.istore 4, 2) := dg_e18.2.2.2.2.2.2.2.2.2.1
theorem dX8_drift_49 : decode cX8_drift 49 = .ok (.iload 4, 2) := dg_e18.2.2.2.2.2.2.2.2.2.2.1
theorem dX8_drift_51 : decode cX8_drift 51 = .ok (.bipush 16, 2) := dg_e18.2.2.2.2.2.2.2.2.2.2.2.1
theorem dX8_drift_53 : decode cX8_drift 53 = .ok (.ishr, 1) := dg_e18.2.2.2.2.2.2.2.2.2.2.2.2.1
theorem dX8_drift_54 : decode cX8_drift 54 = .ok (.sipush 32767, 3) := dg_e18.2.2.2.2.2.2.2.2.2.2.2.2.2.1
theorem dX8_drift_57 : decode cX8_drift 57 = .ok (.iand, 1) := dg_e18.2.2.2.2.2.2.2.2.2.2.2.2.2.2.1
theorem dX8_drift_58 : decode cX8_drift 58 = .ok (.bipush 7, 2) := dg_e18.2.2.2.2.2.2.2.2.2.2.2.2.2.2.2
theorem dg_e19 : (decode cX8_drift 60 = .ok (.irem, 1)) ∧ (decode cX8_drift 61 = .ok (.istore 6, 2)) ∧ (decode cX8_drift 63 = .ok (.aload_n 0, 1)) ∧ (decode cX8_drift 64 = .ok (.aload_n 0, 1)) ∧ (decode cX8_drift 65 = .ok (.iload 6, 2)) ∧ (decode cX8_drift 67 = .ok (.invokevirtual 218, 3)) ∧ (decode cX8_drift 70 = .ok (.ifCond .eq 8, 3)) ∧ (decode cX8_drift 73 = .ok (.iload 6, 2)) ∧ (decode cX8_drift 75 = .ok (.goto 4, 3)) ∧ (decode cX8_drift 78 = .ok (.iconst 5, 1)) ∧ (decode cX8_drift 79 = .ok (.iload 5, 2)) ∧ (decode cX8_drift 81 = .ok (.bipush 10, 2)) ∧ (decode cX8_drift 83 = .ok (.irem, 1)) ∧ (decode cX8_drift 84 = .ok (.invokevirtual 176, 3)) ∧ (decode cX8_drift 87 = .ok (.pop, 1)) ∧ (decode cX8_drift 88 = .ok (.iinc 5 1, 3)) := by decide +kernel
theorem dX8_drift_60 : decode cX8_drift 60 = .ok (.irem, 1) := dg_e19.1
theorem dX8_drift_61 : decode cX8_drift 61 = .ok (.istore 6, 2) := dg_e19.2.1
theorem dX8_drift_63 : decode cX8_drift 63 = .ok (.aload_n 0, 1) := dg_e19.2.2.1
theorem dX8_drift_64 : decode cX8_drift 64 = .ok (.aload_n 0, 1) := dg_e19.2.2.2.1
theorem dX8_drift_65 : decode cX8_drift 65 = .ok (.iload 6, 2) := dg_e19.2.2.2.2.1
theorem dX8_drift_67 : decode cX8_drift 67 = .ok (.invokevirtual 218, 3) := dg_e19.2.2.2.2.2.1
theorem dX8_drift_70 : decode cX8_drift 70 = .ok (.ifCond .eq 8, 3) := dg_e19.2.2.2.2.2.2.1
theorem dX8_drift_73 : decode cX8_drift 73 = .ok (.iload 6, 2) := dg_e19.2.2.2.2.2.2.2.1
theorem dX8_drift_75 : decode cX8_drift 75 = .ok (.goto 4, 3) := dg_e19.2.2.2.2.2.2.2.2.1
theorem dX8_drift_78 : decode cX8_drift 78 = .ok (.iconst 5, 1) := dg_e19.2.2.2.2.2.2.2.2.2.1
theorem dX8_drift_79 : decode cX8_drift 79 = .ok (.iload 5, 2) := dg_e19.2.2.2.2.2.2.2.2.2.2.1
theorem dX8_drift_81 : decode cX8_drift 81 = .ok (.bipush 10, 2) := dg_e19.2.2.2.2.2.2.2.2.2.2.2.1
theorem dX8_drift_83 : decode cX8_drift 83 = .ok (.irem, 1) := dg_e19.2.2.2.2.2.2.2.2.2.2.2.2.1
theorem dX8_drift_84 : decode cX8_drift 84 = .ok (.invokevirtual 176, 3) := dg_e19.2.2.2.2.2.2.2.2.2.2.2.2.2.1
theorem dX8_drift_87 : decode cX8_drift 87 = .ok (.pop, 1) := dg_e19.2.2.2.2.2.2.2.2.2.2.2.2.2.2.1
theorem dX8_drift_88 : decode cX8_drift 88 = .ok (.iinc 5 1, 3) := dg_e19.2.2.2.2.2.2.2.2.2.2.2.2.2.2.2
theorem dg_e20 : (decode cX8_drift 91 = .ok (.goto (-60), 3)) ∧ (decode cX8_drift 94 = .ok (.iload_n 3, 1)) ∧ (decode cX8_drift 95 = .ok (.ifCond .ne 13, 3)) ∧ (decode cX8_drift 98 = .ok (.aload_n 0, 1)) ∧ (decode cX8_drift 99 = .ok (.getfield 13, 3)) ∧ (decode cX8_drift 102 = .ok (.bipush 30, 2)) ∧ (decode cX8_drift 104 = .ok (.iaload, 1)) ∧ (decode cX8_drift 105 = .ok (.goto 14, 3)) ∧ (decode cX8_drift 108 = .ok (.sipush 1000, 3)) ∧ (decode cX8_drift 111 = .ok (.aload_n 0, 1)) ∧ (decode cX8_drift 112 = .ok (.getfield 13, 3)) ∧ (decode cX8_drift 115 = .ok (.bipush 31, 2)) ∧ (decode cX8_drift 117 = .ok (.iaload, 1)) ∧ (decode cX8_drift 118 = .ok (.iadd, 1)) ∧ (decode cX8_drift 119 = .ok (.ireturn, 1)) := by decide +kernel
theorem dX8_drift_91 : decode cX8_drift 91 = .ok (.goto (-60), 3) := dg_e20.1
theorem dX8_drift_94 : decode cX8_drift 94 = .ok (.iload_n 3, 1) := dg_e20.2.1
theorem dX8_drift_95 : decode cX8_drift 95 = .ok (.ifCond .ne 13, 3) := dg_e20.2.2.1
theorem dX8_drift_98 : decode cX8_drift 98 = .ok (.aload_n 0, 1) := dg_e20.2.2.2.1
theorem dX8_drift_99 : decode cX8_drift 99 = .ok (.getfield 13, 3) := dg_e20.2.2.2.2.1
theorem dX8_drift_102 : decode cX8_drift 102 = .ok (.bipush 30, 2) := dg_e20.2.2.2.2.2.1
theorem dX8_drift_104 : decode cX8_drift 104 = .ok (.iaload, 1) := dg_e20.2.2.2.2.2.2.1
theorem dX8_drift_105 : decode cX8_drift 105 = .ok (.goto 14, 3) := dg_e20.2.2.2.2.2.2.2.1
theorem dX8_drift_108 : decode cX8_drift 108 = .ok (.sipush 1000, 3) := dg_e20.2.2.2.2.2.2.2.2.1
theorem dX8_drift_111 : decode cX8_drift 111 = .ok (.aload_n 0, 1) := dg_e20.2.2.2.2.2.2.2.2.2.1
theorem dX8_drift_112 : decode cX8_drift 112 = .ok (.getfield 13, 3) := dg_e20.2.2.2.2.2.2.2.2.2.2.1
theorem dX8_drift_115 : decode cX8_drift 115 = .ok (.bipush 31, 2) := dg_e20.2.2.2.2.2.2.2.2.2.2.2.1
theorem dX8_drift_117 : decode cX8_drift 117 = .ok (.iaload, 1) := dg_e20.2.2.2.2.2.2.2.2.2.2.2.2.1
theorem dX8_drift_118 : decode cX8_drift 118 = .ok (.iadd, 1) := dg_e20.2.2.2.2.2.2.2.2.2.2.2.2.2.1
theorem dX8_drift_119 : decode cX8_drift 119 = .ok (.ireturn, 1) := dg_e20.2.2.2.2.2.2.2.2.2.2.2.2.2.2
theorem dg_e21 : (decode cX8_copies 0 = .ok (.iconst 0, 1)) ∧ (decode cX8_copies 1 = .ok (.istore_n 3, 1)) ∧ (decode cX8_copies 2 = .ok (.iload_n 3, 1)) ∧ (decode cX8_copies 3 = .ok (.bipush 54, 2)) ∧ (decode cX8_copies 5 = .ok (.if_icmp .ge 25, 3)) ∧ (decode cX8_copies 8 = .ok (.aload_n 0, 1)) ∧ (decode cX8_copies 9 = .ok (.getfield 7, 3)) ∧ (decode cX8_copies 12 = .ok (.iload_n 1, 1)) ∧ (decode cX8_copies 13 = .ok (.iload_n 3, 1)) ∧ (decode cX8_copies 14 = .ok (.iadd, 1)) ∧ (decode cX8_copies 15 = .ok (.aload_n 0, 1)) ∧ (decode cX8_copies 16 = .ok (.getfield 7, 3)) ∧ (decode cX8_copies 19 = .ok (.iload_n 2, 1)) ∧ (decode cX8_copies 20 = .ok (.iload_n 3, 1)) ∧ (decode cX8_copies 21 = .ok (.iadd, 1)) ∧ (decode cX8_copies 22 = .ok (.iaload, 1)) := by decide +kernel
theorem dX8_copies_0 : decode cX8_copies 0 = .ok (.iconst 0, 1) := dg_e21.1
theorem dX8_copies_1 : decode cX8_copies 1 = .ok (.istore_n 3, 1) := dg_e21.2.1
theorem dX8_copies_2 : decode cX8_copies 2 = .ok (.iload_n 3, 1) := dg_e21.2.2.1
theorem dX8_copies_3 : decode cX8_copies 3 = .ok (.bipush 54, 2) := dg_e21.2.2.2.1
theorem dX8_copies_5 : decode cX8_copies 5 = .ok (.if_icmp .ge 25, 3) := dg_e21.2.2.2.2.1
theorem dX8_copies_8 : decode cX8_copies 8 = .ok (.aload_n 0, 1) := dg_e21.2.2.2.2.2.1
theorem dX8_copies_9 : decode cX8_copies 9 = .ok (.getfield 7, 3) := dg_e21.2.2.2.2.2.2.1
theorem dX8_copies_12 : decode cX8_copies 12 = .ok (.iload_n 1, 1) := dg_e21.2.2.2.2.2.2.2.1
theorem dX8_copies_13 : decode cX8_copies 13 = .ok (.iload_n 3, 1) := dg_e21.2.2.2.2.2.2.2.2.1
theorem dX8_copies_14 : decode cX8_copies 14 = .ok (.iadd, 1) := dg_e21.2.2.2.2.2.2.2.2.2.1
theorem dX8_copies_15 : decode cX8_copies 15 = .ok (.aload_n 0, 1) := dg_e21.2.2.2.2.2.2.2.2.2.2.1
theorem dX8_copies_16 : decode cX8_copies 16 = .ok (.getfield 7, 3) := dg_e21.2.2.2.2.2.2.2.2.2.2.2.1
theorem dX8_copies_19 : decode cX8_copies 19 = .ok (.iload_n 2, 1) := dg_e21.2.2.2.2.2.2.2.2.2.2.2.2.1
theorem dX8_copies_20 : decode cX8_copies 20 = .ok (.iload_n 3, 1) := dg_e21.2.2.2.2.2.2.2.2.2.2.2.2.2.1
theorem dX8_copies_21 : decode cX8_copies 21 = .ok (.iadd, 1) := dg_e21.2.2.2.2.2.2.2.2.2.2.2.2.2.2.1
theorem dX8_copies_22 : decode cX8_copies 22 = .ok (.iaload, 1) := dg_e21.2.2.2.2.2.2.2.2.2.2.2.2.2.2.2
theorem dg_e22 : (decode cX8_copies 23 = .ok (.iastore, 1)) ∧ (decode cX8_copies 24 = .ok (.iinc 3 1, 3)) ∧ (decode cX8_copies 27 = .ok (.goto (-25), 3)) ∧ (decode cX8_copies 30 = .ok (.return_, 1)) := by decide +kernel
theorem dX8_copies_23 : decode cX8_copies 23 = .ok (.iastore, 1) := dg_e22.1
theorem dX8_copies_24 : decode cX8_copies 24 = .ok (.iinc 3 1, 3) := dg_e22.2.1
theorem dX8_copies_27 : decode cX8_copies 27 = .ok (.goto (-25), 3) := dg_e22.2.2.1
theorem dX8_copies_30 : decode cX8_copies 30 = .ok (.return_, 1) := dg_e22.2.2.2
theorem dg_e23 : (decode cX8_keep 0 = .ok (.iload_n 1, 1)) ∧ (decode cX8_keep 1 = .ok (.i2l, 1)) ∧ (decode cX8_keep 2 = .ok (.lconst 0, 1)) ∧ (decode cX8_keep 3 = .ok (.lconst 1, 1)) ∧ (decode cX8_keep 4 = .ok (.invokestatic 68, 3)) ∧ (decode cX8_keep 7 = .ok (.ifCond .ne 5, 3)) ∧ (decode cX8_keep 10 = .ok (.iconst (-1), 1)) ∧ (decode cX8_keep 11 = .ok (.ireturn, 1)) ∧ (decode cX8_keep 12 = .ok (.aload_n 0, 1)) ∧ (decode cX8_keep 13 = .ok (.getfield 16, 3)) ∧ (decode cX8_keep 16 = .ok (.iload_n 1, 1)) ∧ (decode cX8_keep 17 = .ok (.baload, 1)) ∧ (decode cX8_keep 18 = .ok (.invokestatic 194, 3)) ∧ (decode cX8_keep 21 = .ok (.istore_n 2, 1)) ∧ (decode cX8_keep 22 = .ok (.aload_n 0, 1)) ∧ (decode cX8_keep 23 = .ok (.getfield 16, 3)) := by decide +kernel
theorem dX8_keep_0 : decode cX8_keep 0 = .ok (.iload_n 1, 1) := dg_e23.1
theorem dX8_keep_1 : decode cX8_keep 1 = .ok (.i2l, 1) := dg_e23.2.1
theorem dX8_keep_2 : decode cX8_keep 2 = .ok (.lconst 0, 1) := dg_e23.2.2.1
theorem dX8_keep_3 : decode cX8_keep 3 = .ok (.lconst 1, 1) := dg_e23.2.2.2.1
theorem dX8_keep_4 : decode cX8_keep 4 = .ok (.invokestatic 68, 3) := dg_e23.2.2.2.2.1
theorem dX8_keep_7 : decode cX8_keep 7 = .ok (.ifCond .ne 5, 3) := dg_e23.2.2.2.2.2.1
theorem dX8_keep_10 : decode cX8_keep 10 = .ok (.iconst (-1), 1) := dg_e23.2.2.2.2.2.2.1
theorem dX8_keep_11 : decode cX8_keep 11 = .ok (.ireturn, 1) := dg_e23.2.2.2.2.2.2.2.1
theorem dX8_keep_12 : decode cX8_keep 12 = .ok (.aload_n 0, 1) := dg_e23.2.2.2.2.2.2.2.2.1
theorem dX8_keep_13 : decode cX8_keep 13 = .ok (.getfield 16, 3) := dg_e23.2.2.2.2.2.2.2.2.2.1
theorem dX8_keep_16 : decode cX8_keep 16 = .ok (.iload_n 1, 1) := dg_e23.2.2.2.2.2.2.2.2.2.2.1
theorem dX8_keep_17 : decode cX8_keep 17 = .ok (.baload, 1) := dg_e23.2.2.2.2.2.2.2.2.2.2.2.1
theorem dX8_keep_18 : decode cX8_keep 18 = .ok (.invokestatic 194, 3) := dg_e23.2.2.2.2.2.2.2.2.2.2.2.2.1
theorem dX8_keep_21 : decode cX8_keep 21 = .ok (.istore_n 2, 1) := dg_e23.2.2.2.2.2.2.2.2.2.2.2.2.2.1
theorem dX8_keep_22 : decode cX8_keep 22 = .ok (.aload_n 0, 1) := dg_e23.2.2.2.2.2.2.2.2.2.2.2.2.2.2.1
theorem dX8_keep_23 : decode cX8_keep 23 = .ok (.getfield 16, 3) := dg_e23.2.2.2.2.2.2.2.2.2.2.2.2.2.2.2
theorem dg_e24 : (decode cX8_keep 26 = .ok (.iload_n 1, 1)) ∧ (decode cX8_keep 27 = .ok (.iconst 1, 1)) ∧ (decode cX8_keep 28 = .ok (.bastore, 1)) ∧ (decode cX8_keep 29 = .ok (.aload_n 0, 1)) ∧ (decode cX8_keep 30 = .ok (.bipush 54, 2)) ∧ (decode cX8_keep 32 = .ok (.iload_n 1, 1)) ∧ (decode cX8_keep 33 = .ok (.iconst 1, 1)) ∧ (decode cX8_keep 34 = .ok (.iadd, 1)) ∧ (decode cX8_keep 35 = .ok (.imul, 1)) ∧ (decode cX8_keep 36 = .ok (.iconst 0, 1)) ∧ (decode cX8_keep 37 = .ok (.invokevirtual 294, 3)) ∧ (decode cX8_keep 40 = .ok (.iload_n 2, 1)) ∧ (decode cX8_keep 41 = .ok (.ireturn, 1)) := by decide +kernel
theorem dX8_keep_26 : decode cX8_keep 26 = .ok (.iload_n 1, 1) := dg_e24.1
theorem dX8_keep_27 : decode cX8_keep 27 = .ok (.iconst 1, 1) := dg_e24.2.1
theorem dX8_keep_28 : decode cX8_keep 28 = .ok (.bastore, 1) := dg_e24.2.2.1
theorem dX8_keep_29 : decode cX8_keep 29 = .ok (.aload_n 0, 1) := dg_e24.2.2.2.1
theorem dX8_keep_30 : decode cX8_keep 30 = .ok (.bipush 54, 2) := dg_e24.2.2.2.2.1
theorem dX8_keep_32 : decode cX8_keep 32 = .ok (.iload_n 1, 1) := dg_e24.2.2.2.2.2.1
theorem dX8_keep_33 : decode cX8_keep 33 = .ok (.iconst 1, 1) := dg_e24.2.2.2.2.2.2.1
theorem dX8_keep_34 : decode cX8_keep 34 = .ok (.iadd, 1) := dg_e24.2.2.2.2.2.2.2.1
theorem dX8_keep_35 : decode cX8_keep 35 = .ok (.imul, 1) := dg_e24.2.2.2.2.2.2.2.2.1
theorem dX8_keep_36 : decode cX8_keep 36 = .ok (.iconst 0, 1) := dg_e24.2.2.2.2.2.2.2.2.2.1
theorem dX8_keep_37 : decode cX8_keep 37 = .ok (.invokevirtual 294, 3) := dg_e24.2.2.2.2.2.2.2.2.2.2.1
theorem dX8_keep_40 : decode cX8_keep 40 = .ok (.iload_n 2, 1) := dg_e24.2.2.2.2.2.2.2.2.2.2.2.1
theorem dX8_keep_41 : decode cX8_keep 41 = .ok (.ireturn, 1) := dg_e24.2.2.2.2.2.2.2.2.2.2.2.2
theorem dg_e25 : (decode cX8_back 0 = .ok (.iload_n 1, 1)) ∧ (decode cX8_back 1 = .ok (.i2l, 1)) ∧ (decode cX8_back 2 = .ok (.lconst 0, 1)) ∧ (decode cX8_back 3 = .ok (.lconst 1, 1)) ∧ (decode cX8_back 4 = .ok (.invokestatic 68, 3)) ∧ (decode cX8_back 7 = .ok (.ifCond .ne 5, 3)) ∧ (decode cX8_back 10 = .ok (.iconst (-1), 1)) ∧ (decode cX8_back 11 = .ok (.ireturn, 1)) ∧ (decode cX8_back 12 = .ok (.aload_n 0, 1)) ∧ (decode cX8_back 13 = .ok (.getfield 16, 3)) ∧ (decode cX8_back 16 = .ok (.iload_n 1, 1)) ∧ (decode cX8_back 17 = .ok (.baload, 1)) ∧ (decode cX8_back 18 = .ok (.ifCond .ne 6, 3)) ∧ (decode cX8_back 21 = .ok (.bipush (-2), 2)) ∧ (decode cX8_back 23 = .ok (.ireturn, 1)) ∧ (decode cX8_back 24 = .ok (.aload_n 0, 1)) := by decide +kernel
theorem dX8_back_0 : decode cX8_back 0 = .ok (.iload_n 1, 1) := dg_e25.1
theorem dX8_back_1 : decode cX8_back 1 = .ok (.i2l, 1) := dg_e25.2.1
theorem dX8_back_2 : decode cX8_back 2 = .ok (.lconst 0, 1) := dg_e25.2.2.1
theorem dX8_back_3 : decode cX8_back 3 = .ok (.lconst 1, 1) := dg_e25.2.2.2.1
theorem dX8_back_4 : decode cX8_back 4 = .ok (.invokestatic 68, 3) := dg_e25.2.2.2.2.1
theorem dX8_back_7 : decode cX8_back 7 = .ok (.ifCond .ne 5, 3) := dg_e25.2.2.2.2.2.1
theorem dX8_back_10 : decode cX8_back 10 = .ok (.iconst (-1), 1) := dg_e25.2.2.2.2.2.2.1
theorem dX8_back_11 : decode cX8_back 11 = .ok (.ireturn, 1) := dg_e25.2.2.2.2.2.2.2.1
theorem dX8_back_12 : decode cX8_back 12 = .ok (.aload_n 0, 1) := dg_e25.2.2.2.2.2.2.2.2.1
theorem dX8_back_13 : decode cX8_back 13 = .ok (.getfield 16, 3) := dg_e25.2.2.2.2.2.2.2.2.2.1
theorem dX8_back_16 : decode cX8_back 16 = .ok (.iload_n 1, 1) := dg_e25.2.2.2.2.2.2.2.2.2.2.1
theorem dX8_back_17 : decode cX8_back 17 = .ok (.baload, 1) := dg_e25.2.2.2.2.2.2.2.2.2.2.2.1
theorem dX8_back_18 : decode cX8_back 18 = .ok (.ifCond .ne 6, 3) := dg_e25.2.2.2.2.2.2.2.2.2.2.2.2.1
theorem dX8_back_21 : decode cX8_back 21 = .ok (.bipush (-2), 2) := dg_e25.2.2.2.2.2.2.2.2.2.2.2.2.2.1
theorem dX8_back_23 : decode cX8_back 23 = .ok (.ireturn, 1) := dg_e25.2.2.2.2.2.2.2.2.2.2.2.2.2.2.1
theorem dX8_back_24 : decode cX8_back 24 = .ok (.aload_n 0, 1) := dg_e25.2.2.2.2.2.2.2.2.2.2.2.2.2.2.2
theorem dg_e26 : (decode cX8_back 25 = .ok (.iconst 0, 1)) ∧ (decode cX8_back 26 = .ok (.bipush 54, 2)) ∧ (decode cX8_back 28 = .ok (.iload_n 1, 1)) ∧ (decode cX8_back 29 = .ok (.iconst 1, 1)) ∧ (decode cX8_back 30 = .ok (.iadd, 1)) ∧ (decode cX8_back 31 = .ok (.imul, 1)) ∧ (decode cX8_back 32 = .ok (.invokevirtual 294, 3)) ∧ (decode cX8_back 35 = .ok (.aload_n 0, 1)) ∧ (decode cX8_back 36 = .ok (.getfield 7, 3)) ∧ (decode cX8_back 39 = .ok (.bipush 29, 2)) ∧ (decode cX8_back 41 = .ok (.iaload, 1)) ∧ (decode cX8_back 42 = .ok (.ireturn, 1)) := by decide +kernel
theorem dX8_back_25 : decode cX8_back 25 = .ok (.iconst 0, 1) := dg_e26.1
theorem dX8_back_26 : decode cX8_back 26 = .ok (.bipush 54, 2) := dg_e26.2.1
theorem dX8_back_28 : decode cX8_back 28 = .ok (.iload_n 1, 1) := dg_e26.2.2.1
theorem dX8_back_29 : decode cX8_back 29 = .ok (.iconst 1, 1) := dg_e26.2.2.2.1
theorem dX8_back_30 : decode cX8_back 30 = .ok (.iadd, 1) := dg_e26.2.2.2.2.1
theorem dX8_back_31 : decode cX8_back 31 = .ok (.imul, 1) := dg_e26.2.2.2.2.2.1
theorem dX8_back_32 : decode cX8_back 32 = .ok (.invokevirtual 294, 3) := dg_e26.2.2.2.2.2.2.1
theorem dX8_back_35 : decode cX8_back 35 = .ok (.aload_n 0, 1) := dg_e26.2.2.2.2.2.2.2.1
theorem dX8_back_36 : decode cX8_back 36 = .ok (.getfield 7, 3) := dg_e26.2.2.2.2.2.2.2.2.1
theorem dX8_back_39 : decode cX8_back 39 = .ok (.bipush 29, 2) := dg_e26.2.2.2.2.2.2.2.2.2.1
theorem dX8_back_41 : decode cX8_back 41 = .ok (.iaload, 1) := dg_e26.2.2.2.2.2.2.2.2.2.2.1
theorem dX8_back_42 : decode cX8_back 42 = .ok (.ireturn, 1) := dg_e26.2.2.2.2.2.2.2.2.2.2.2
theorem dg_e27 : (decode cX8_isSheet 0 = .ok (.iload_n 0, 1)) ∧ (decode cX8_isSheet 1 = .ok (.i2l, 1)) ∧ (decode cX8_isSheet 2 = .ok (.lconst 0, 1)) ∧ (decode cX8_isSheet 3 = .ok (.ldc2_w 198, 3)) ∧ (decode cX8_isSheet 6 = .ok (.invokestatic 68, 3)) ∧ (decode cX8_isSheet 9 = .ok (.ifCond .eq 19, 3)) ∧ (decode cX8_isSheet 12 = .ok (.iload_n 1, 1)) ∧ (decode cX8_isSheet 13 = .ok (.i2l, 1)) ∧ (decode cX8_isSheet 14 = .ok (.lconst 0, 1)) ∧ (decode cX8_isSheet 15 = .ok (.ldc2_w 298, 3)) ∧ (decode cX8_isSheet 18 = .ok (.invokestatic 68, 3)) ∧ (decode cX8_isSheet 21 = .ok (.ifCond .eq 7, 3)) ∧ (decode cX8_isSheet 24 = .ok (.iconst 1, 1)) ∧ (decode cX8_isSheet 25 = .ok (.goto 4, 3)) ∧ (decode cX8_isSheet 28 = .ok (.iconst 0, 1)) ∧ (decode cX8_isSheet 29 = .ok (.ireturn, 1)) := by decide +kernel
theorem dX8_isSheet_0 : decode cX8_isSheet 0 = .ok (.iload_n 0, 1) := dg_e27.1
theorem dX8_isSheet_1 : decode cX8_isSheet 1 = .ok (.i2l, 1) := dg_e27.2.1
theorem dX8_isSheet_2 : decode cX8_isSheet 2 = .ok (.lconst 0, 1) := dg_e27.2.2.1
theorem dX8_isSheet_3 : decode cX8_isSheet 3 = .ok (.ldc2_w 198, 3) := dg_e27.2.2.2.1
theorem dX8_isSheet_6 : decode cX8_isSheet 6 = .ok (.invokestatic 68, 3) := dg_e27.2.2.2.2.1
theorem dX8_isSheet_9 : decode cX8_isSheet 9 = .ok (.ifCond .eq 19, 3) := dg_e27.2.2.2.2.2.1
theorem dX8_isSheet_12 : decode cX8_isSheet 12 = .ok (.iload_n 1, 1) := dg_e27.2.2.2.2.2.2.1
theorem dX8_isSheet_13 : decode cX8_isSheet 13 = .ok (.i2l, 1) := dg_e27.2.2.2.2.2.2.2.1
theorem dX8_isSheet_14 : decode cX8_isSheet 14 = .ok (.lconst 0, 1) := dg_e27.2.2.2.2.2.2.2.2.1
theorem dX8_isSheet_15 : decode cX8_isSheet 15 = .ok (.ldc2_w 298, 3) := dg_e27.2.2.2.2.2.2.2.2.2.1
theorem dX8_isSheet_18 : decode cX8_isSheet 18 = .ok (.invokestatic 68, 3) := dg_e27.2.2.2.2.2.2.2.2.2.2.1
theorem dX8_isSheet_21 : decode cX8_isSheet 21 = .ok (.ifCond .eq 7, 3) := dg_e27.2.2.2.2.2.2.2.2.2.2.2.1
theorem dX8_isSheet_24 : decode cX8_isSheet 24 = .ok (.iconst 1, 1) := dg_e27.2.2.2.2.2.2.2.2.2.2.2.2.1
theorem dX8_isSheet_25 : decode cX8_isSheet 25 = .ok (.goto 4, 3) := dg_e27.2.2.2.2.2.2.2.2.2.2.2.2.2.1
theorem dX8_isSheet_28 : decode cX8_isSheet 28 = .ok (.iconst 0, 1) := dg_e27.2.2.2.2.2.2.2.2.2.2.2.2.2.2.1
theorem dX8_isSheet_29 : decode cX8_isSheet 29 = .ok (.ireturn, 1) := dg_e27.2.2.2.2.2.2.2.2.2.2.2.2.2.2.2
theorem dg_e28 : (decode cX8_sheet 0 = .ok (.iload_n 1, 1)) ∧ (decode cX8_sheet 1 = .ok (.iload_n 2, 1)) ∧ (decode cX8_sheet 2 = .ok (.invokestatic 300, 3)) ∧ (decode cX8_sheet 5 = .ok (.ifCond .eq 9, 3)) ∧ (decode cX8_sheet 8 = .ok (.iload_n 3, 1)) ∧ (decode cX8_sheet 9 = .ok (.bipush 40, 2)) ∧ (decode cX8_sheet 11 = .ok (.if_icmp .le 5, 3)) ∧ (decode cX8_sheet 14 = .ok (.iconst (-1), 1)) ∧ (decode cX8_sheet 15 = .ok (.ireturn, 1)) ∧ (decode cX8_sheet 16 = .ok (.iload_n 3, 1)) ∧ (decode cX8_sheet 17 = .ok (.ifCond .ge 6, 3)) ∧ (decode cX8_sheet 20 = .ok (.bipush (-14), 2)) ∧ (decode cX8_sheet 22 = .ok (.ireturn, 1)) ∧ (decode cX8_sheet 23 = .ok (.aload_n 0, 1)) ∧ (decode cX8_sheet 24 = .ok (.getfield 26, 3)) ∧ (decode cX8_sheet 27 = .ok (.iload_n 1, 1)) := by decide +kernel
theorem dX8_sheet_0 : decode cX8_sheet 0 = .ok (.iload_n 1, 1) := dg_e28.1
theorem dX8_sheet_1 : decode cX8_sheet 1 = .ok (.iload_n 2, 1) := dg_e28.2.1
theorem dX8_sheet_2 : decode cX8_sheet 2 = .ok (.invokestatic 300, 3) := dg_e28.2.2.1
theorem dX8_sheet_5 : decode cX8_sheet 5 = .ok (.ifCond .eq 9, 3) := dg_e28.2.2.2.1
theorem dX8_sheet_8 : decode cX8_sheet 8 = .ok (.iload_n 3, 1) := dg_e28.2.2.2.2.1
theorem dX8_sheet_9 : decode cX8_sheet 9 = .ok (.bipush 40, 2) := dg_e28.2.2.2.2.2.1
theorem dX8_sheet_11 : decode cX8_sheet 11 = .ok (.if_icmp .le 5, 3) := dg_e28.2.2.2.2.2.2.1
theorem dX8_sheet_14 : decode cX8_sheet 14 = .ok (.iconst (-1), 1) := dg_e28.2.2.2.2.2.2.2.1
theorem dX8_sheet_15 : decode cX8_sheet 15 = .ok (.ireturn, 1) := dg_e28.2.2.2.2.2.2.2.2.1
theorem dX8_sheet_16 : decode cX8_sheet 16 = .ok (.iload_n 3, 1) := dg_e28.2.2.2.2.2.2.2.2.2.1
theorem dX8_sheet_17 : decode cX8_sheet 17 = .ok (.ifCond .ge 6, 3) := dg_e28.2.2.2.2.2.2.2.2.2.2.1
theorem dX8_sheet_20 : decode cX8_sheet 20 = .ok (.bipush (-14), 2) := dg_e28.2.2.2.2.2.2.2.2.2.2.2.1
theorem dX8_sheet_22 : decode cX8_sheet 22 = .ok (.ireturn, 1) := dg_e28.2.2.2.2.2.2.2.2.2.2.2.2.1
theorem dX8_sheet_23 : decode cX8_sheet 23 = .ok (.aload_n 0, 1) := dg_e28.2.2.2.2.2.2.2.2.2.2.2.2.2.1
theorem dX8_sheet_24 : decode cX8_sheet 24 = .ok (.getfield 26, 3) := dg_e28.2.2.2.2.2.2.2.2.2.2.2.2.2.2.1
theorem dX8_sheet_27 : decode cX8_sheet 27 = .ok (.iload_n 1, 1) := dg_e28.2.2.2.2.2.2.2.2.2.2.2.2.2.2.2
theorem dg_e29 : (decode cX8_sheet 28 = .ok (.iload_n 2, 1)) ∧ (decode cX8_sheet 29 = .ok (.iastore, 1)) ∧ (decode cX8_sheet 30 = .ok (.aload_n 0, 1)) ∧ (decode cX8_sheet 31 = .ok (.getfield 29, 3)) ∧ (decode cX8_sheet 34 = .ok (.iload_n 1, 1)) ∧ (decode cX8_sheet 35 = .ok (.iload_n 3, 1)) ∧ (decode cX8_sheet 36 = .ok (.iastore, 1)) ∧ (decode cX8_sheet 37 = .ok (.iconst 0, 1)) ∧ (decode cX8_sheet 38 = .ok (.istore 4, 2)) ∧ (decode cX8_sheet 40 = .ok (.iload 4, 2)) ∧ (decode cX8_sheet 42 = .ok (.bipush 40, 2)) ∧ (decode cX8_sheet 44 = .ok (.if_icmp .ge 22, 3)) ∧ (decode cX8_sheet 47 = .ok (.aload_n 0, 1)) ∧ (decode cX8_sheet 48 = .ok (.getfield 32, 3)) ∧ (decode cX8_sheet 51 = .ok (.bipush 40, 2)) ∧ (decode cX8_sheet 53 = .ok (.iload_n 1, 1)) := by decide +kernel
theorem dX8_sheet_28 : decode cX8_sheet 28 = .ok (.iload_n 2, 1) := dg_e29.1
theorem dX8_sheet_29 : decode cX8_sheet 29 = .ok (.iastore, 1) := dg_e29.2.1
theorem dX8_sheet_30 : decode cX8_sheet 30 = .ok (.aload_n 0, 1) := dg_e29.2.2.1
theorem dX8_sheet_31 : decode cX8_sheet 31 = .ok (.getfield 29, 3) := dg_e29.2.2.2.1
theorem dX8_sheet_34 : decode cX8_sheet 34 = .ok (.iload_n 1, 1) := dg_e29.2.2.2.2.1
theorem dX8_sheet_35 : decode cX8_sheet 35 = .ok (.iload_n 3, 1) := dg_e29.2.2.2.2.2.1
theorem dX8_sheet_36 : decode cX8_sheet 36 = .ok (.iastore, 1) := dg_e29.2.2.2.2.2.2.1
theorem dX8_sheet_37 : decode cX8_sheet 37 = .ok (.iconst 0, 1) := dg_e29.2.2.2.2.2.2.2.1
theorem dX8_sheet_38 : decode cX8_sheet 38 = .ok (.istore 4, 2) := dg_e29.2.2.2.2.2.2.2.2.1
theorem dX8_sheet_40 : decode cX8_sheet 40 = .ok (.iload 4, 2) := dg_e29.2.2.2.2.2.2.2.2.2.1
theorem dX8_sheet_42 : decode cX8_sheet 42 = .ok (.bipush 40, 2) := dg_e29.2.2.2.2.2.2.2.2.2.2.1
theorem dX8_sheet_44 : decode cX8_sheet 44 = .ok (.if_icmp .ge 22, 3) := dg_e29.2.2.2.2.2.2.2.2.2.2.2.1
theorem dX8_sheet_47 : decode cX8_sheet 47 = .ok (.aload_n 0, 1) := dg_e29.2.2.2.2.2.2.2.2.2.2.2.2.1
theorem dX8_sheet_48 : decode cX8_sheet 48 = .ok (.getfield 32, 3) := dg_e29.2.2.2.2.2.2.2.2.2.2.2.2.2.1
theorem dX8_sheet_51 : decode cX8_sheet 51 = .ok (.bipush 40, 2) := dg_e29.2.2.2.2.2.2.2.2.2.2.2.2.2.2.1
theorem dX8_sheet_53 : decode cX8_sheet 53 = .ok (.iload_n 1, 1) := dg_e29.2.2.2.2.2.2.2.2.2.2.2.2.2.2.2
theorem dg_e30 : (decode cX8_sheet 54 = .ok (.imul, 1)) ∧ (decode cX8_sheet 55 = .ok (.iload 4, 2)) ∧ (decode cX8_sheet 57 = .ok (.iadd, 1)) ∧ (decode cX8_sheet 58 = .ok (.iconst 0, 1)) ∧ (decode cX8_sheet 59 = .ok (.iastore, 1)) ∧ (decode cX8_sheet 60 = .ok (.iinc 4 1, 3)) ∧ (decode cX8_sheet 63 = .ok (.goto (-23), 3)) ∧ (decode cX8_sheet 66 = .ok (.iconst 1, 1)) ∧ (decode cX8_sheet 67 = .ok (.ireturn, 1)) := by decide +kernel
theorem dX8_sheet_54 : decode cX8_sheet 54 = .ok (.imul, 1) := dg_e30.1
theorem dX8_sheet_55 : decode cX8_sheet 55 = .ok (.iload 4, 2) := dg_e30.2.1
theorem dX8_sheet_57 : decode cX8_sheet 57 = .ok (.iadd, 1) := dg_e30.2.2.1
theorem dX8_sheet_58 : decode cX8_sheet 58 = .ok (.iconst 0, 1) := dg_e30.2.2.2.1
theorem dX8_sheet_59 : decode cX8_sheet 59 = .ok (.iastore, 1) := dg_e30.2.2.2.2.1
theorem dX8_sheet_60 : decode cX8_sheet 60 = .ok (.iinc 4 1, 3) := dg_e30.2.2.2.2.2.1
theorem dX8_sheet_63 : decode cX8_sheet 63 = .ok (.goto (-23), 3) := dg_e30.2.2.2.2.2.2.1
theorem dX8_sheet_66 : decode cX8_sheet 66 = .ok (.iconst 1, 1) := dg_e30.2.2.2.2.2.2.2.1
theorem dX8_sheet_67 : decode cX8_sheet 67 = .ok (.ireturn, 1) := dg_e30.2.2.2.2.2.2.2.2
theorem dg_e31 : (decode cX8_lay 0 = .ok (.iload_n 1, 1)) ∧ (decode cX8_lay 1 = .ok (.iconst 0, 1)) ∧ (decode cX8_lay 2 = .ok (.invokestatic 300, 3)) ∧ (decode cX8_lay 5 = .ok (.ifCond .ne 5, 3)) ∧ (decode cX8_lay 8 = .ok (.iconst (-1), 1)) ∧ (decode cX8_lay 9 = .ok (.ireturn, 1)) ∧ (decode cX8_lay 10 = .ok (.aload_n 0, 1)) ∧ (decode cX8_lay 11 = .ok (.getfield 26, 3)) ∧ (decode cX8_lay 14 = .ok (.iload_n 1, 1)) ∧ (decode cX8_lay 15 = .ok (.iaload, 1)) ∧ (decode cX8_lay 16 = .ok (.bipush (-4), 2)) ∧ (decode cX8_lay 18 = .ok (.if_icmp .ne 6, 3)) ∧ (decode cX8_lay 21 = .ok (.bipush (-11), 2)) ∧ (decode cX8_lay 23 = .ok (.ireturn, 1)) ∧ (decode cX8_lay 24 = .ok (.iload_n 2, 1)) ∧ (decode cX8_lay 25 = .ok (.i2l, 1)) := by decide +kernel
theorem dX8_lay_0 : decode cX8_lay 0 = .ok (.iload_n 1, 1) := dg_e31.1
theorem dX8_lay_1 : decode cX8_lay 1 = .ok (.iconst 0, 1) := dg_e31.2.1
theorem dX8_lay_2 : decode cX8_lay 2 = .ok (.invokestatic 300, 3) := dg_e31.2.2.1
theorem dX8_lay_5 : decode cX8_lay 5 = .ok (.ifCond .ne 5, 3) := dg_e31.2.2.2.1
theorem dX8_lay_8 : decode cX8_lay 8 = .ok (.iconst (-1), 1) := dg_e31.2.2.2.2.1
theorem dX8_lay_9 : decode cX8_lay 9 = .ok (.ireturn, 1) := dg_e31.2.2.2.2.2.1
theorem dX8_lay_10 : decode cX8_lay 10 = .ok (.aload_n 0, 1) := dg_e31.2.2.2.2.2.2.1
theorem dX8_lay_11 : decode cX8_lay 11 = .ok (.getfield 26, 3) := dg_e31.2.2.2.2.2.2.2.1
theorem dX8_lay_14 : decode cX8_lay 14 = .ok (.iload_n 1, 1) := dg_e31.2.2.2.2.2.2.2.2.1
theorem dX8_lay_15 : decode cX8_lay 15 = .ok (.iaload, 1) := dg_e31.2.2.2.2.2.2.2.2.2.1
theorem dX8_lay_16 : decode cX8_lay 16 = .ok (.bipush (-4), 2) := dg_e31.2.2.2.2.2.2.2.2.2.2.1
theorem dX8_lay_18 : decode cX8_lay 18 = .ok (.if_icmp .ne 6, 3) := dg_e31.2.2.2.2.2.2.2.2.2.2.2.1
theorem dX8_lay_21 : decode cX8_lay 21 = .ok (.bipush (-11), 2) := dg_e31.2.2.2.2.2.2.2.2.2.2.2.2.1
theorem dX8_lay_23 : decode cX8_lay 23 = .ok (.ireturn, 1) := dg_e31.2.2.2.2.2.2.2.2.2.2.2.2.2.1
theorem dX8_lay_24 : decode cX8_lay 24 = .ok (.iload_n 2, 1) := dg_e31.2.2.2.2.2.2.2.2.2.2.2.2.2.2.1
theorem dX8_lay_25 : decode cX8_lay 25 = .ok (.i2l, 1) := dg_e31.2.2.2.2.2.2.2.2.2.2.2.2.2.2.2
theorem dg_e32 : (decode cX8_lay 26 = .ok (.lconst 0, 1)) ∧ (decode cX8_lay 27 = .ok (.aload_n 0, 1)) ∧ (decode cX8_lay 28 = .ok (.getfield 29, 3)) ∧ (decode cX8_lay 31 = .ok (.iload_n 1, 1)) ∧ (decode cX8_lay 32 = .ok (.iaload, 1)) ∧ (decode cX8_lay 33 = .ok (.iconst 1, 1)) ∧ (decode cX8_lay 34 = .ok (.isub, 1)) ∧ (decode cX8_lay 35 = .ok (.i2l, 1)) ∧ (decode cX8_lay 36 = .ok (.invokestatic 68, 3)) ∧ (decode cX8_lay 39 = .ok (.ifCond .ne 6, 3)) ∧ (decode cX8_lay 42 = .ok (.bipush (-12), 2)) ∧ (decode cX8_lay 44 = .ok (.ireturn, 1)) ∧ (decode cX8_lay 45 = .ok (.aload_n 0, 1)) ∧ (decode cX8_lay 46 = .ok (.getfield 32, 3)) ∧ (decode cX8_lay 49 = .ok (.bipush 40, 2)) ∧ (decode cX8_lay 51 = .ok (.iload_n 1, 1)) := by decide +kernel
theorem dX8_lay_26 : decode cX8_lay 26 = .ok (.lconst 0, 1) := dg_e32.1
theorem dX8_lay_27 : decode cX8_lay 27 = .ok (.aload_n 0, 1) := dg_e32.2.1
theorem dX8_lay_28 : decode cX8_lay 28 = .ok (.getfield 29, 3) := dg_e32.2.2.1
theorem dX8_lay_31 : decode cX8_lay 31 = .ok (.iload_n 1, 1) := dg_e32.2.2.2.1
theorem dX8_lay_32 : decode cX8_lay 32 = .ok (.iaload, 1) := dg_e32.2.2.2.2.1
theorem dX8_lay_33 : decode cX8_lay 33 = .ok (.iconst 1, 1) := dg_e32.2.2.2.2.2.1
theorem dX8_lay_34 : decode cX8_lay 34 = .ok (.isub, 1) := dg_e32.2.2.2.2.2.2.1
theorem dX8_lay_35 : decode cX8_lay 35 = .ok (.i2l, 1) := dg_e32.2.2.2.2.2.2.2.1
theorem dX8_lay_36 : decode cX8_lay 36 = .ok (.invokestatic 68, 3) := dg_e32.2.2.2.2.2.2.2.2.1
theorem dX8_lay_39 : decode cX8_lay 39 = .ok (.ifCond .ne 6, 3) := dg_e32.2.2.2.2.2.2.2.2.2.1
theorem dX8_lay_42 : decode cX8_lay 42 = .ok (.bipush (-12), 2) := dg_e32.2.2.2.2.2.2.2.2.2.2.1
theorem dX8_lay_44 : decode cX8_lay 44 = .ok (.ireturn, 1) := dg_e32.2.2.2.2.2.2.2.2.2.2.2.1
theorem dX8_lay_45 : decode cX8_lay 45 = .ok (.aload_n 0, 1) := dg_e32.2.2.2.2.2.2.2.2.2.2.2.2.1
theorem dX8_lay_46 : decode cX8_lay 46 = .ok (.getfield 32, 3) := dg_e32.2.2.2.2.2.2.2.2.2.2.2.2.2.1
theorem dX8_lay_49 : decode cX8_lay 49 = .ok (.bipush 40, 2) := dg_e32.2.2.2.2.2.2.2.2.2.2.2.2.2.2.1
theorem dX8_lay_51 : decode cX8_lay 51 = .ok (.iload_n 1, 1) := dg_e32.2.2.2.2.2.2.2.2.2.2.2.2.2.2.2
theorem dg_e33 : (decode cX8_lay 52 = .ok (.imul, 1)) ∧ (decode cX8_lay 53 = .ok (.iload_n 2, 1)) ∧ (decode cX8_lay 54 = .ok (.iadd, 1)) ∧ (decode cX8_lay 55 = .ok (.aload_n 0, 1)) ∧ (decode cX8_lay 56 = .ok (.getfield 26, 3)) ∧ (decode cX8_lay 59 = .ok (.iload_n 1, 1)) ∧ (decode cX8_lay 60 = .ok (.iaload, 1)) ∧ (decode cX8_lay 61 = .ok (.ifCond .ne 8, 3)) ∧ (decode cX8_lay 64 = .ok (.iload_n 3, 1)) ∧ (decode cX8_lay 65 = .ok (.i2b, 1)) ∧ (decode cX8_lay 66 = .ok (.goto 19, 3)) ∧ (decode cX8_lay 69 = .ok (.aload_n 0, 1)) ∧ (decode cX8_lay 70 = .ok (.getfield 26, 3)) ∧ (decode cX8_lay 73 = .ok (.iload_n 1, 1)) ∧ (decode cX8_lay 74 = .ok (.iaload, 1)) ∧ (decode cX8_lay 75 = .ok (.iconst 1, 1)) := by decide +kernel
theorem dX8_lay_52 : decode cX8_lay 52 = .ok (.imul, 1) := dg_e33.1
theorem dX8_lay_53 : decode cX8_lay 53 = .ok (.iload_n 2, 1) := dg_e33.2.1
theorem dX8_lay_54 : decode cX8_lay 54 = .ok (.iadd, 1) := dg_e33.2.2.1
theorem dX8_lay_55 : decode cX8_lay 55 = .ok (.aload_n 0, 1) := dg_e33.2.2.2.1
theorem dX8_lay_56 : decode cX8_lay 56 = .ok (.getfield 26, 3) := dg_e33.2.2.2.2.1
theorem dX8_lay_59 : decode cX8_lay 59 = .ok (.iload_n 1, 1) := dg_e33.2.2.2.2.2.1
theorem dX8_lay_60 : decode cX8_lay 60 = .ok (.iaload, 1) := dg_e33.2.2.2.2.2.2.1
theorem dX8_lay_61 : decode cX8_lay 61 = .ok (.ifCond .ne 8, 3) := dg_e33.2.2.2.2.2.2.2.1
theorem dX8_lay_64 : decode cX8_lay 64 = .ok (.iload_n 3, 1) := dg_e33.2.2.2.2.2.2.2.2.1
theorem dX8_lay_65 : decode cX8_lay 65 = .ok (.i2b, 1) := dg_e33.2.2.2.2.2.2.2.2.2.1
theorem dX8_lay_66 : decode cX8_lay 66 = .ok (.goto 19, 3) := dg_e33.2.2.2.2.2.2.2.2.2.2.1
theorem dX8_lay_69 : decode cX8_lay 69 = .ok (.aload_n 0, 1) := dg_e33.2.2.2.2.2.2.2.2.2.2.2.1
theorem dX8_lay_70 : decode cX8_lay 70 = .ok (.getfield 26, 3) := dg_e33.2.2.2.2.2.2.2.2.2.2.2.2.1
theorem dX8_lay_73 : decode cX8_lay 73 = .ok (.iload_n 1, 1) := dg_e33.2.2.2.2.2.2.2.2.2.2.2.2.2.1
theorem dX8_lay_74 : decode cX8_lay 74 = .ok (.iaload, 1) := dg_e33.2.2.2.2.2.2.2.2.2.2.2.2.2.2.1
theorem dX8_lay_75 : decode cX8_lay 75 = .ok (.iconst 1, 1) := dg_e33.2.2.2.2.2.2.2.2.2.2.2.2.2.2.2
theorem dg_e34 : (decode cX8_lay 76 = .ok (.if_icmp .ne 8, 3)) ∧ (decode cX8_lay 79 = .ok (.iload_n 3, 1)) ∧ (decode cX8_lay 80 = .ok (.i2s, 1)) ∧ (decode cX8_lay 81 = .ok (.goto 4, 3)) ∧ (decode cX8_lay 84 = .ok (.iload_n 3, 1)) ∧ (decode cX8_lay 85 = .ok (.iastore, 1)) ∧ (decode cX8_lay 86 = .ok (.iconst 1, 1)) ∧ (decode cX8_lay 87 = .ok (.ireturn, 1)) := by decide +kernel
theorem dX8_lay_76 : decode cX8_lay 76 = .ok (.if_icmp .ne 8, 3) := dg_e34.1
theorem dX8_lay_79 : decode cX8_lay 79 = .ok (.iload_n 3, 1) := dg_e34.2.1
theorem dX8_lay_80 : decode cX8_lay 80 = .ok (.i2s, 1) := dg_e34.2.2.1
theorem dX8_lay_81 : decode cX8_lay 81 = .ok (.goto 4, 3) := dg_e34.2.2.2.1
theorem dX8_lay_84 : decode cX8_lay 84 = .ok (.iload_n 3, 1) := dg_e34.2.2.2.2.1
theorem dX8_lay_85 : decode cX8_lay 85 = .ok (.iastore, 1) := dg_e34.2.2.2.2.2.1
theorem dX8_lay_86 : decode cX8_lay 86 = .ok (.iconst 1, 1) := dg_e34.2.2.2.2.2.2.1
theorem dX8_lay_87 : decode cX8_lay 87 = .ok (.ireturn, 1) := dg_e34.2.2.2.2.2.2.2
theorem dg_e35 : (decode cX8_read 0 = .ok (.iload_n 1, 1)) ∧ (decode cX8_read 1 = .ok (.iload_n 2, 1)) ∧ (decode cX8_read 2 = .ok (.invokestatic 300, 3)) ∧ (decode cX8_read 5 = .ok (.ifCond .eq 16, 3)) ∧ (decode cX8_read 8 = .ok (.iload 4, 2)) ∧ (decode cX8_read 10 = .ok (.i2l, 1)) ∧ (decode cX8_read 11 = .ok (.lconst 0, 1)) ∧ (decode cX8_read 12 = .ok (.ldc2_w 205, 3)) ∧ (decode cX8_read 15 = .ok (.invokestatic 68, 3)) ∧ (decode cX8_read 18 = .ok (.ifCond .ne 5, 3)) ∧ (decode cX8_read 21 = .ok (.iconst (-1), 1)) ∧ (decode cX8_read 22 = .ok (.ireturn, 1)) ∧ (decode cX8_read 23 = .ok (.iconst 0, 1)) ∧ (decode cX8_read 24 = .ok (.istore 5, 2)) ∧ (decode cX8_read 26 = .ok (.iload 5, 2)) ∧ (decode cX8_read 28 = .ok (.bipush 54, 2)) := by decide +kernel
theorem dX8_read_0 : decode cX8_read 0 = .ok (.iload_n 1, 1) := dg_e35.1
theorem dX8_read_1 : decode cX8_read 1 = .ok (.iload_n 2, 1) := dg_e35.2.1
theorem dX8_read_2 : decode cX8_read 2 = .ok (.invokestatic 300, 3) := dg_e35.2.2.1
theorem dX8_read_5 : decode cX8_read 5 = .ok (.ifCond .eq 16, 3) := dg_e35.2.2.2.1
theorem dX8_read_8 : decode cX8_read 8 = .ok (.iload 4, 2) := dg_e35.2.2.2.2.1
theorem dX8_read_10 : decode cX8_read 10 = .ok (.i2l, 1) := dg_e35.2.2.2.2.2.1
theorem dX8_read_11 : decode cX8_read 11 = .ok (.lconst 0, 1) := dg_e35.2.2.2.2.2.2.1
theorem dX8_read_12 : decode cX8_read 12 = .ok (.ldc2_w 205, 3) := dg_e35.2.2.2.2.2.2.2.1
theorem dX8_read_15 : decode cX8_read 15 = .ok (.invokestatic 68, 3) := dg_e35.2.2.2.2.2.2.2.2.1
theorem dX8_read_18 : decode cX8_read 18 = .ok (.ifCond .ne 5, 3) := dg_e35.2.2.2.2.2.2.2.2.2.1
theorem dX8_read_21 : decode cX8_read 21 = .ok (.iconst (-1), 1) := dg_e35.2.2.2.2.2.2.2.2.2.2.1
theorem dX8_read_22 : decode cX8_read 22 = .ok (.ireturn, 1) := dg_e35.2.2.2.2.2.2.2.2.2.2.2.1
theorem dX8_read_23 : decode cX8_read 23 = .ok (.iconst 0, 1) := dg_e35.2.2.2.2.2.2.2.2.2.2.2.2.1
theorem dX8_read_24 : decode cX8_read 24 = .ok (.istore 5, 2) := dg_e35.2.2.2.2.2.2.2.2.2.2.2.2.2.1
theorem dX8_read_26 : decode cX8_read 26 = .ok (.iload 5, 2) := dg_e35.2.2.2.2.2.2.2.2.2.2.2.2.2.2.1
theorem dX8_read_28 : decode cX8_read 28 = .ok (.bipush 54, 2) := dg_e35.2.2.2.2.2.2.2.2.2.2.2.2.2.2.2
theorem dg_e36 : (decode cX8_read 30 = .ok (.if_icmp .ge 23, 3)) ∧ (decode cX8_read 33 = .ok (.aload_n 0, 1)) ∧ (decode cX8_read 34 = .ok (.getfield 35, 3)) ∧ (decode cX8_read 37 = .ok (.iload 5, 2)) ∧ (decode cX8_read 39 = .ok (.aload_n 0, 1)) ∧ (decode cX8_read 40 = .ok (.getfield 7, 3)) ∧ (decode cX8_read 43 = .ok (.iload 5, 2)) ∧ (decode cX8_read 45 = .ok (.iaload, 1)) ∧ (decode cX8_read 46 = .ok (.iastore, 1)) ∧ (decode cX8_read 47 = .ok (.iinc 5 1, 3)) ∧ (decode cX8_read 50 = .ok (.goto (-24), 3)) ∧ (decode cX8_read 53 = .ok (.iconst 0, 1)) ∧ (decode cX8_read 54 = .ok (.istore 5, 2)) ∧ (decode cX8_read 56 = .ok (.iconst 0, 1)) ∧ (decode cX8_read 57 = .ok (.istore 6, 2)) ∧ (decode cX8_read 59 = .ok (.iconst 0, 1)) := by decide +kernel
theorem dX8_read_30 : decode cX8_read 30 = .ok (.if_icmp .ge 23, 3) := dg_e36.1
theorem dX8_read_33 : decode cX8_read 33 = .ok (.aload_n 0, 1) := dg_e36.2.1
theorem dX8_read_34 : decode cX8_read 34 = .ok (.getfield 35, 3) := dg_e36.2.2.1
theorem dX8_read_37 : decode cX8_read 37 = .ok (.iload 5, 2) := dg_e36.2.2.2.1
theorem dX8_read_39 : decode cX8_read 39 = .ok (.aload_n 0, 1) := dg_e36.2.2.2.2.1
theorem dX8_read_40 : decode cX8_read 40 = .ok (.getfield 7, 3) := dg_e36.2.2.2.2.2.1
theorem dX8_read_43 : decode cX8_read 43 = .ok (.iload 5, 2) := dg_e36.2.2.2.2.2.2.1
theorem dX8_read_45 : decode cX8_read 45 = .ok (.iaload, 1) := dg_e36.2.2.2.2.2.2.2.1
theorem dX8_read_46 : decode cX8_read 46 = .ok (.iastore, 1) := dg_e36.2.2.2.2.2.2.2.2.1
theorem dX8_read_47 : decode cX8_read 47 = .ok (.iinc 5 1, 3) := dg_e36.2.2.2.2.2.2.2.2.2.1
theorem dX8_read_50 : decode cX8_read 50 = .ok (.goto (-24), 3) := dg_e36.2.2.2.2.2.2.2.2.2.2.1
theorem dX8_read_53 : decode cX8_read 53 = .ok (.iconst 0, 1) := dg_e36.2.2.2.2.2.2.2.2.2.2.2.1
theorem dX8_read_54 : decode cX8_read 54 = .ok (.istore 5, 2) := dg_e36.2.2.2.2.2.2.2.2.2.2.2.2.1
theorem dX8_read_56 : decode cX8_read 56 = .ok (.iconst 0, 1) := dg_e36.2.2.2.2.2.2.2.2.2.2.2.2.2.1
theorem dX8_read_57 : decode cX8_read 57 = .ok (.istore 6, 2) := dg_e36.2.2.2.2.2.2.2.2.2.2.2.2.2.2.1
theorem dX8_read_59 : decode cX8_read 59 = .ok (.iconst 0, 1) := dg_e36.2.2.2.2.2.2.2.2.2.2.2.2.2.2.2
theorem dg_e37 : (decode cX8_read 60 = .ok (.istore 7, 2)) ∧ (decode cX8_read 62 = .ok (.iload 7, 2)) ∧ (decode cX8_read 64 = .ok (.iload 4, 2)) ∧ (decode cX8_read 66 = .ok (.if_icmp .ge 143, 3)) ∧ (decode cX8_read 69 = .ok (.iload 5, 2)) ∧ (decode cX8_read 71 = .ok (.ifCond .ne 138, 3)) ∧ (decode cX8_read 74 = .ok (.iload_n 3, 1)) ∧ (decode cX8_read 75 = .ok (.i2l, 1)) ∧ (decode cX8_read 76 = .ok (.iload 7, 2)) ∧ (decode cX8_read 78 = .ok (.i2l, 1)) ∧ (decode cX8_read 79 = .ok (.ladd, 1)) ∧ (decode cX8_read 80 = .ok (.lstore 8, 2)) ∧ (decode cX8_read 82 = .ok (.aload_n 0, 1)) ∧ (decode cX8_read 83 = .ok (.getfield 26, 3)) ∧ (decode cX8_read 86 = .ok (.iload_n 1, 1)) ∧ (decode cX8_read 87 = .ok (.iaload, 1)) := by decide +kernel
theorem dX8_read_60 : decode cX8_read 60 = .ok (.istore 7, 2) := dg_e37.1
theorem dX8_read_62 : decode cX8_read 62 = .ok (.iload 7, 2) := dg_e37.2.1
theorem dX8_read_64 : decode cX8_read 64 = .ok (.iload 4, 2) := dg_e37.2.2.1
theorem dX8_read_66 : decode cX8_read 66 = .ok (.if_icmp .ge 143, 3) := dg_e37.2.2.2.1
theorem dX8_read_69 : decode cX8_read 69 = .ok (.iload 5, 2) := dg_e37.2.2.2.2.1
theorem dX8_read_71 : decode cX8_read 71 = .ok (.ifCond .ne 138, 3) := dg_e37.2.2.2.2.2.1
theorem dX8_read_74 : decode cX8_read 74 = .ok (.iload_n 3, 1) := dg_e37.2.2.2.2.2.2.1
theorem dX8_read_75 : decode cX8_read 75 = .ok (.i2l, 1) := dg_e37.2.2.2.2.2.2.2.1
theorem dX8_read_76 : decode cX8_read 76 = .ok (.iload 7, 2) := dg_e37.2.2.2.2.2.2.2.2.1
theorem dX8_read_78 : decode cX8_read 78 = .ok (.i2l, 1) := dg_e37.2.2.2.2.2.2.2.2.2.1
theorem dX8_read_79 : decode cX8_read 79 = .ok (.ladd, 1) := dg_e37.2.2.2.2.2.2.2.2.2.2.1
theorem dX8_read_80 : decode cX8_read 80 = .ok (.lstore 8, 2) := dg_e37.2.2.2.2.2.2.2.2.2.2.2.1
theorem dX8_read_82 : decode cX8_read 82 = .ok (.aload_n 0, 1) := dg_e37.2.2.2.2.2.2.2.2.2.2.2.2.1
theorem dX8_read_83 : decode cX8_read 83 = .ok (.getfield 26, 3) := dg_e37.2.2.2.2.2.2.2.2.2.2.2.2.2.1
theorem dX8_read_86 : decode cX8_read 86 = .ok (.iload_n 1, 1) := dg_e37.2.2.2.2.2.2.2.2.2.2.2.2.2.2.1
theorem dX8_read_87 : decode cX8_read 87 = .ok (.iaload, 1) := dg_e37.2.2.2.2.2.2.2.2.2.2.2.2.2.2.2
theorem dg_e38 : (decode cX8_read 88 = .ok (.bipush (-4), 2)) ∧ (decode cX8_read 90 = .ok (.if_icmp .ne 7, 3)) ∧ (decode cX8_read 93 = .ok (.iconst 1, 1)) ∧ (decode cX8_read 94 = .ok (.goto 42, 3)) ∧ (decode cX8_read 97 = .ok (.aload_n 0, 1)) ∧ (decode cX8_read 98 = .ok (.getfield 26, 3)) ∧ (decode cX8_read 101 = .ok (.iload_n 1, 1)) ∧ (decode cX8_read 102 = .ok (.iaload, 1)) ∧ (decode cX8_read 103 = .ok (.iload_n 2, 1)) ∧ (decode cX8_read 104 = .ok (.if_icmp .eq 7, 3)) ∧ (decode cX8_read 107 = .ok (.iconst 3, 1)) ∧ (decode cX8_read 108 = .ok (.goto 28, 3)) ∧ (decode cX8_read 111 = .ok (.lload 8, 2)) ∧ (decode cX8_read 113 = .ok (.lconst 0, 1)) ∧ (decode cX8_read 114 = .ok (.lcmp, 1)) ∧ (decode cX8_read 115 = .ok (.ifCond .lt 16, 3)) := by decide +kernel
theorem dX8_read_88 : decode cX8_read 88 = .ok (.bipush (-4), 2) := dg_e38.1
theorem dX8_read_90 : decode cX8_read 90 = .ok (.if_icmp .ne 7, 3) := dg_e38.2.1
theorem dX8_read_93 : decode cX8_read 93 = .ok (.iconst 1, 1) := dg_e38.2.2.1
theorem dX8_read_94 : decode cX8_read 94 = .ok (.goto 42, 3) := dg_e38.2.2.2.1
theorem dX8_read_97 : decode cX8_read 97 = .ok (.aload_n 0, 1) := dg_e38.2.2.2.2.1
theorem dX8_read_98 : decode cX8_read 98 = .ok (.getfield 26, 3) := dg_e38.2.2.2.2.2.1
theorem dX8_read_101 : decode cX8_read 101 = .ok (.iload_n 1, 1) := dg_e38.2.2.2.2.2.2.1
theorem dX8_read_102 : decode cX8_read 102 = .ok (.iaload, 1) := dg_e38.2.2.2.2.2.2.2.1
theorem dX8_read_103 : decode cX8_read 103 = .ok (.iload_n 2, 1) := dg_e38.2.2.2.2.2.2.2.2.1
theorem dX8_read_104 : decode cX8_read 104 = .ok (.if_icmp .eq 7, 3) := dg_e38.2.2.2.2.2.2.2.2.2.1
theorem dX8_read_107 : decode cX8_read 107 = .ok (.iconst 3, 1) := dg_e38.2.2.2.2.2.2.2.2.2.2.1
theorem dX8_read_108 : decode cX8_read 108 = .ok (.goto 28, 3) := dg_e38.2.2.2.2.2.2.2.2.2.2.2.1
theorem dX8_read_111 : decode cX8_read 111 = .ok (.lload 8, 2) := dg_e38.2.2.2.2.2.2.2.2.2.2.2.2.1
theorem dX8_read_113 : decode cX8_read 113 = .ok (.lconst 0, 1) := dg_e38.2.2.2.2.2.2.2.2.2.2.2.2.2.1
theorem dX8_read_114 : decode cX8_read 114 = .ok (.lcmp, 1) := dg_e38.2.2.2.2.2.2.2.2.2.2.2.2.2.2.1
theorem dX8_read_115 : decode cX8_read 115 = .ok (.ifCond .lt 16, 3) := dg_e38.2.2.2.2.2.2.2.2.2.2.2.2.2.2.2
theorem dg_e39 : (decode cX8_read 118 = .ok (.lload 8, 2)) ∧ (decode cX8_read 120 = .ok (.aload_n 0, 1)) ∧ (decode cX8_read 121 = .ok (.getfield 29, 3)) ∧ (decode cX8_read 124 = .ok (.iload_n 1, 1)) ∧ (decode cX8_read 125 = .ok (.iaload, 1)) ∧ (decode cX8_read 126 = .ok (.i2l, 1)) ∧ (decode cX8_read 127 = .ok (.lcmp, 1)) ∧ (decode cX8_read 128 = .ok (.ifCond .lt 7, 3)) ∧ (decode cX8_read 131 = .ok (.iconst 2, 1)) ∧ (decode cX8_read 132 = .ok (.goto 4, 3)) ∧ (decode cX8_read 135 = .ok (.iconst 0, 1)) ∧ (decode cX8_read 136 = .ok (.istore 5, 2)) ∧ (decode cX8_read 138 = .ok (.iload 5, 2)) ∧ (decode cX8_read 140 = .ok (.ifCond .ne 63, 3)) ∧ (decode cX8_read 143 = .ok (.aload_n 0, 1)) ∧ (decode cX8_read 144 = .ok (.aload_n 0, 1)) := by decide +kernel
theorem dX8_read_118 : decode cX8_read 118 = .ok (.lload 8, 2) := dg_e39.1
theorem dX8_read_120 : decode cX8_read 120 = .ok (.aload_n 0, 1) := dg_e39.2.1
theorem dX8_read_121 : decode cX8_read 121 = .ok (.getfield 29, 3) := dg_e39.2.2.1
theorem dX8_read_124 : decode cX8_read 124 = .ok (.iload_n 1, 1) := dg_e39.2.2.2.1
theorem dX8_read_125 : decode cX8_read 125 = .ok (.iaload, 1) := dg_e39.2.2.2.2.1
theorem dX8_read_126 : decode cX8_read 126 = .ok (.i2l, 1) := dg_e39.2.2.2.2.2.1
theorem dX8_read_127 : decode cX8_read 127 = .ok (.lcmp, 1) := dg_e39.2.2.2.2.2.2.1
theorem dX8_read_128 : decode cX8_read 128 = .ok (.ifCond .lt 7, 3) := dg_e39.2.2.2.2.2.2.2.1
theorem dX8_read_131 : decode cX8_read 131 = .ok (.iconst 2, 1) := dg_e39.2.2.2.2.2.2.2.2.1
theorem dX8_read_132 : decode cX8_read 132 = .ok (.goto 4, 3) := dg_e39.2.2.2.2.2.2.2.2.2.1
theorem dX8_read_135 : decode cX8_read 135 = .ok (.iconst 0, 1) := dg_e39.2.2.2.2.2.2.2.2.2.2.1
theorem dX8_read_136 : decode cX8_read 136 = .ok (.istore 5, 2) := dg_e39.2.2.2.2.2.2.2.2.2.2.2.1
theorem dX8_read_138 : decode cX8_read 138 = .ok (.iload 5, 2) := dg_e39.2.2.2.2.2.2.2.2.2.2.2.2.1
theorem dX8_read_140 : decode cX8_read 140 = .ok (.ifCond .ne 63, 3) := dg_e39.2.2.2.2.2.2.2.2.2.2.2.2.2.1
theorem dX8_read_143 : decode cX8_read 143 = .ok (.aload_n 0, 1) := dg_e39.2.2.2.2.2.2.2.2.2.2.2.2.2.2.1
theorem dX8_read_144 : decode cX8_read 144 = .ok (.aload_n 0, 1) := dg_e39.2.2.2.2.2.2.2.2.2.2.2.2.2.2.2
theorem dg_e40 : (decode cX8_read 145 = .ok (.getfield 32, 3)) ∧ (decode cX8_read 148 = .ok (.bipush 40, 2)) ∧ (decode cX8_read 150 = .ok (.iload_n 1, 1)) ∧ (decode cX8_read 151 = .ok (.imul, 1)) ∧ (decode cX8_read 152 = .ok (.iload_n 3, 1)) ∧ (decode cX8_read 153 = .ok (.iadd, 1)) ∧ (decode cX8_read 154 = .ok (.iload 7, 2)) ∧ (decode cX8_read 156 = .ok (.iadd, 1)) ∧ (decode cX8_read 157 = .ok (.iaload, 1)) ∧ (decode cX8_read 158 = .ok (.invokevirtual 303, 3)) ∧ (decode cX8_read 161 = .ok (.ifCond .ge 39, 3)) ∧ (decode cX8_read 164 = .ok (.iconst 0, 1)) ∧ (decode cX8_read 165 = .ok (.istore 10, 2)) ∧ (decode cX8_read 167 = .ok (.iload 10, 2)) ∧ (decode cX8_read 169 = .ok (.bipush 54, 2)) ∧ (decode cX8_read 171 = .ok (.if_icmp .ge 23, 3)) := by decide +kernel
theorem dX8_read_145 : decode cX8_read 145 = .ok (.getfield 32, 3) := dg_e40.1
theorem dX8_read_148 : decode cX8_read 148 = .ok (.bipush 40, 2) := dg_e40.2.1
theorem dX8_read_150 : decode cX8_read 150 = .ok (.iload_n 1, 1) := dg_e40.2.2.1
theorem dX8_read_151 : decode cX8_read 151 = .ok (.imul, 1) := dg_e40.2.2.2.1
theorem dX8_read_152 : decode cX8_read 152 = .ok (.iload_n 3, 1) := dg_e40.2.2.2.2.1
theorem dX8_read_153 : decode cX8_read 153 = .ok (.iadd, 1) := dg_e40.2.2.2.2.2.1
theorem dX8_read_154 : decode cX8_read 154 = .ok (.iload 7, 2) := dg_e40.2.2.2.2.2.2.1
theorem dX8_read_156 : decode cX8_read 156 = .ok (.iadd, 1) := dg_e40.2.2.2.2.2.2.2.1
theorem dX8_read_157 : decode cX8_read 157 = .ok (.iaload, 1) := dg_e40.2.2.2.2.2.2.2.2.1
theorem dX8_read_158 : decode cX8_read 158 = .ok (.invokevirtual 303, 3) := dg_e40.2.2.2.2.2.2.2.2.2.1
theorem dX8_read_161 : decode cX8_read 161 = .ok (.ifCond .ge 39, 3) := dg_e40.2.2.2.2.2.2.2.2.2.2.1
theorem dX8_read_164 : decode cX8_read 164 = .ok (.iconst 0, 1) := dg_e40.2.2.2.2.2.2.2.2.2.2.2.1
theorem dX8_read_165 : decode cX8_read 165 = .ok (.istore 10, 2) := dg_e40.2.2.2.2.2.2.2.2.2.2.2.2.1
theorem dX8_read_167 : decode cX8_read 167 = .ok (.iload 10, 2) := dg_e40.2.2.2.2.2.2.2.2.2.2.2.2.2.1
theorem dX8_read_169 : decode cX8_read 169 = .ok (.bipush 54, 2) := dg_e40.2.2.2.2.2.2.2.2.2.2.2.2.2.2.1
theorem dX8_read_171 : decode cX8_read 171 = .ok (.if_icmp .ge 23, 3) := dg_e40.2.2.2.2.2.2.2.2.2.2.2.2.2.2.2
theorem dg_e41 : (decode cX8_read 174 = .ok (.aload_n 0, 1)) ∧ (decode cX8_read 175 = .ok (.getfield 7, 3)) ∧ (decode cX8_read 178 = .ok (.iload 10, 2)) ∧ (decode cX8_read 180 = .ok (.aload_n 0, 1)) ∧ (decode cX8_read 181 = .ok (.getfield 35, 3)) ∧ (decode cX8_read 184 = .ok (.iload 10, 2)) ∧ (decode cX8_read 186 = .ok (.iaload, 1)) ∧ (decode cX8_read 187 = .ok (.iastore, 1)) ∧ (decode cX8_read 188 = .ok (.iinc 10 1, 3)) ∧ (decode cX8_read 191 = .ok (.goto (-24), 3)) ∧ (decode cX8_read 194 = .ok (.bipush (-20), 2)) ∧ (decode cX8_read 196 = .ok (.iload 7, 2)) ∧ (decode cX8_read 198 = .ok (.isub, 1)) ∧ (decode cX8_read 199 = .ok (.ireturn, 1)) ∧ (decode cX8_read 200 = .ok (.iinc 6 1, 3)) ∧ (decode cX8_read 203 = .ok (.iinc 7 1, 3)) := by decide +kernel
theorem dX8_read_174 : decode cX8_read 174 = .ok (.aload_n 0, 1) := dg_e41.1
theorem dX8_read_175 : decode cX8_read 175 = .ok (.getfield 7, 3) := dg_e41.2.1
theorem dX8_read_178 : decode cX8_read 178 = .ok (.iload 10, 2) := dg_e41.2.2.1
theorem dX8_read_180 : decode cX8_read 180 = .ok (.aload_n 0, 1) := dg_e41.2.2.2.1
theorem dX8_read_181 : decode cX8_read 181 = .ok (.getfield 35, 3) := dg_e41.2.2.2.2.1
theorem dX8_read_184 : decode cX8_read 184 = .ok (.iload 10, 2) := dg_e41.2.2.2.2.2.1
theorem dX8_read_186 : decode cX8_read 186 = .ok (.iaload, 1) := dg_e41.2.2.2.2.2.2.1
theorem dX8_read_187 : decode cX8_read 187 = .ok (.iastore, 1) := dg_e41.2.2.2.2.2.2.2.1
theorem dX8_read_188 : decode cX8_read 188 = .ok (.iinc 10 1, 3) := dg_e41.2.2.2.2.2.2.2.2.1
theorem dX8_read_191 : decode cX8_read 191 = .ok (.goto (-24), 3) := dg_e41.2.2.2.2.2.2.2.2.2.1
theorem dX8_read_194 : decode cX8_read 194 = .ok (.bipush (-20), 2) := dg_e41.2.2.2.2.2.2.2.2.2.2.1
theorem dX8_read_196 : decode cX8_read 196 = .ok (.iload 7, 2) := dg_e41.2.2.2.2.2.2.2.2.2.2.2.1
theorem dX8_read_198 : decode cX8_read 198 = .ok (.isub, 1) := dg_e41.2.2.2.2.2.2.2.2.2.2.2.2.1
theorem dX8_read_199 : decode cX8_read 199 = .ok (.ireturn, 1) := dg_e41.2.2.2.2.2.2.2.2.2.2.2.2.2.1
theorem dX8_read_200 : decode cX8_read 200 = .ok (.iinc 6 1, 3) := dg_e41.2.2.2.2.2.2.2.2.2.2.2.2.2.2.1
theorem dX8_read_203 : decode cX8_read 203 = .ok (.iinc 7 1, 3) := dg_e41.2.2.2.2.2.2.2.2.2.2.2.2.2.2.2
theorem dg_e42 : (decode cX8_read 206 = .ok (.goto (-144), 3)) ∧ (decode cX8_read 209 = .ok (.aload_n 0, 1)) ∧ (decode cX8_read 210 = .ok (.iload 5, 2)) ∧ (decode cX8_read 212 = .ok (.putfield 306, 3)) ∧ (decode cX8_read 215 = .ok (.iload 6, 2)) ∧ (decode cX8_read 217 = .ok (.ireturn, 1)) := by decide +kernel
theorem dX8_read_206 : decode cX8_read 206 = .ok (.goto (-144), 3) := dg_e42.1
theorem dX8_read_209 : decode cX8_read 209 = .ok (.aload_n 0, 1) := dg_e42.2.1
theorem dX8_read_210 : decode cX8_read 210 = .ok (.iload 5, 2) := dg_e42.2.2.1
theorem dX8_read_212 : decode cX8_read 212 = .ok (.putfield 306, 3) := dg_e42.2.2.2.1
theorem dX8_read_215 : decode cX8_read 215 = .ok (.iload 6, 2) := dg_e42.2.2.2.2.1
theorem dX8_read_217 : decode cX8_read 217 = .ok (.ireturn, 1) := dg_e42.2.2.2.2.2
theorem dg_e43 : (decode cX8_torn 0 = .ok (.aload_n 0, 1)) ∧ (decode cX8_torn 1 = .ok (.getfield 306, 3)) ∧ (decode cX8_torn 4 = .ok (.ireturn, 1)) := by decide +kernel
theorem dX8_torn_0 : decode cX8_torn 0 = .ok (.aload_n 0, 1) := dg_e43.1
theorem dX8_torn_1 : decode cX8_torn 1 = .ok (.getfield 306, 3) := dg_e43.2.1
theorem dX8_torn_4 : decode cX8_torn 4 = .ok (.ireturn, 1) := dg_e43.2.2
theorem dg_e44 : (decode cX8_count 0 = .ok (.iload_n 1, 1)) ∧ (decode cX8_count 1 = .ok (.tableswitch 99 0 4 #[35, 43, 51, 71, 76], 35)) ∧ (decode cX8_count 36 = .ok (.aload_n 0, 1)) ∧ (decode cX8_count 37 = .ok (.invokevirtual 252, 3)) ∧ (decode cX8_count 40 = .ok (.invokestatic 255, 3)) ∧ (decode cX8_count 43 = .ok (.ireturn, 1)) ∧ (decode cX8_count 44 = .ok (.aload_n 0, 1)) ∧ (decode cX8_count 45 = .ok (.getfield 7, 3)) ∧ (decode cX8_count 48 = .ok (.bipush 41, 2)) ∧ (decode cX8_count 50 = .ok (.iaload, 1)) ∧ (decode cX8_count 51 = .ok (.ireturn, 1)) ∧ (decode cX8_count 52 = .ok (.aload_n 0, 1)) ∧ (decode cX8_count 53 = .ok (.getfield 16, 3)) ∧ (decode cX8_count 56 = .ok (.iconst 0, 1)) ∧ (decode cX8_count 57 = .ok (.baload, 1)) ∧ (decode cX8_count 58 = .ok (.invokestatic 194, 3)) := by decide +kernel
theorem dX8_count_0 : decode cX8_count 0 = .ok (.iload_n 1, 1) := dg_e44.1
theorem dX8_count_1 : decode cX8_count 1 = .ok (.tableswitch 99 0 4 #[35, 43, 51, 71, 76], 35) := dg_e44.2.1
theorem dX8_count_36 : decode cX8_count 36 = .ok (.aload_n 0, 1) := dg_e44.2.2.1
theorem dX8_count_37 : decode cX8_count 37 = .ok (.invokevirtual 252, 3) := dg_e44.2.2.2.1
theorem dX8_count_40 : decode cX8_count 40 = .ok (.invokestatic 255, 3) := dg_e44.2.2.2.2.1
theorem dX8_count_43 : decode cX8_count 43 = .ok (.ireturn, 1) := dg_e44.2.2.2.2.2.1
theorem dX8_count_44 : decode cX8_count 44 = .ok (.aload_n 0, 1) := dg_e44.2.2.2.2.2.2.1
theorem dX8_count_45 : decode cX8_count 45 = .ok (.getfield 7, 3) := dg_e44.2.2.2.2.2.2.2.1
theorem dX8_count_48 : decode cX8_count 48 = .ok (.bipush 41, 2) := dg_e44.2.2.2.2.2.2.2.2.1
theorem dX8_count_50 : decode cX8_count 50 = .ok (.iaload, 1) := dg_e44.2.2.2.2.2.2.2.2.2.1
theorem dX8_count_51 : decode cX8_count 51 = .ok (.ireturn, 1) := dg_e44.2.2.2.2.2.2.2.2.2.2.1
theorem dX8_count_52 : decode cX8_count 52 = .ok (.aload_n 0, 1) := dg_e44.2.2.2.2.2.2.2.2.2.2.2.1
theorem dX8_count_53 : decode cX8_count 53 = .ok (.getfield 16, 3) := dg_e44.2.2.2.2.2.2.2.2.2.2.2.2.1
theorem dX8_count_56 : decode cX8_count 56 = .ok (.iconst 0, 1) := dg_e44.2.2.2.2.2.2.2.2.2.2.2.2.2.1
theorem dX8_count_57 : decode cX8_count 57 = .ok (.baload, 1) := dg_e44.2.2.2.2.2.2.2.2.2.2.2.2.2.2.1
theorem dX8_count_58 : decode cX8_count 58 = .ok (.invokestatic 194, 3) := dg_e44.2.2.2.2.2.2.2.2.2.2.2.2.2.2.2
theorem dg_e45 : (decode cX8_count 61 = .ok (.aload_n 0, 1)) ∧ (decode cX8_count 62 = .ok (.getfield 16, 3)) ∧ (decode cX8_count 65 = .ok (.iconst 1, 1)) ∧ (decode cX8_count 66 = .ok (.baload, 1)) ∧ (decode cX8_count 67 = .ok (.invokestatic 194, 3)) ∧ (decode cX8_count 70 = .ok (.iadd, 1)) ∧ (decode cX8_count 71 = .ok (.ireturn, 1)) ∧ (decode cX8_count 72 = .ok (.aload_n 0, 1)) ∧ (decode cX8_count 73 = .ok (.getfield 72, 3)) ∧ (decode cX8_count 76 = .ok (.ireturn, 1)) ∧ (decode cX8_count 77 = .ok (.aload_n 0, 1)) ∧ (decode cX8_count 78 = .ok (.getfield 26, 3)) ∧ (decode cX8_count 81 = .ok (.iconst 0, 1)) ∧ (decode cX8_count 82 = .ok (.iaload, 1)) ∧ (decode cX8_count 83 = .ok (.bipush (-4), 2)) ∧ (decode cX8_count 85 = .ok (.if_icmp .ne 8, 3)) := by decide +kernel
theorem dX8_count_61 : decode cX8_count 61 = .ok (.aload_n 0, 1) := dg_e45.1
theorem dX8_count_62 : decode cX8_count 62 = .ok (.getfield 16, 3) := dg_e45.2.1
theorem dX8_count_65 : decode cX8_count 65 = .ok (.iconst 1, 1) := dg_e45.2.2.1
theorem dX8_count_66 : decode cX8_count 66 = .ok (.baload, 1) := dg_e45.2.2.2.1
theorem dX8_count_67 : decode cX8_count 67 = .ok (.invokestatic 194, 3) := dg_e45.2.2.2.2.1
theorem dX8_count_70 : decode cX8_count 70 = .ok (.iadd, 1) := dg_e45.2.2.2.2.2.1
theorem dX8_count_71 : decode cX8_count 71 = .ok (.ireturn, 1) := dg_e45.2.2.2.2.2.2.1
theorem dX8_count_72 : decode cX8_count 72 = .ok (.aload_n 0, 1) := dg_e45.2.2.2.2.2.2.2.1
theorem dX8_count_73 : decode cX8_count 73 = .ok (.getfield 72, 3) := dg_e45.2.2.2.2.2.2.2.2.1
theorem dX8_count_76 : decode cX8_count 76 = .ok (.ireturn, 1) := dg_e45.2.2.2.2.2.2.2.2.2.1
theorem dX8_count_77 : decode cX8_count 77 = .ok (.aload_n 0, 1) := dg_e45.2.2.2.2.2.2.2.2.2.2.1
theorem dX8_count_78 : decode cX8_count 78 = .ok (.getfield 26, 3) := dg_e45.2.2.2.2.2.2.2.2.2.2.2.1
theorem dX8_count_81 : decode cX8_count 81 = .ok (.iconst 0, 1) := dg_e45.2.2.2.2.2.2.2.2.2.2.2.2.1
theorem dX8_count_82 : decode cX8_count 82 = .ok (.iaload, 1) := dg_e45.2.2.2.2.2.2.2.2.2.2.2.2.2.1
theorem dX8_count_83 : decode cX8_count 83 = .ok (.bipush (-4), 2) := dg_e45.2.2.2.2.2.2.2.2.2.2.2.2.2.2.1
theorem dX8_count_85 : decode cX8_count 85 = .ok (.if_icmp .ne 8, 3) := dg_e45.2.2.2.2.2.2.2.2.2.2.2.2.2.2.2
theorem dg_e46 : (decode cX8_count 88 = .ok (.bipush (-4), 2)) ∧ (decode cX8_count 90 = .ok (.goto 9, 3)) ∧ (decode cX8_count 93 = .ok (.aload_n 0, 1)) ∧ (decode cX8_count 94 = .ok (.getfield 29, 3)) ∧ (decode cX8_count 97 = .ok (.iconst 0, 1)) ∧ (decode cX8_count 98 = .ok (.iaload, 1)) ∧ (decode cX8_count 99 = .ok (.ireturn, 1)) ∧ (decode cX8_count 100 = .ok (.iconst (-1), 1)) ∧ (decode cX8_count 101 = .ok (.ireturn, 1)) := by decide +kernel
theorem dX8_count_88 : decode cX8_count 88 = .ok (.bipush (-4), 2) := dg_e46.1
theorem dX8_count_90 : decode cX8_count 90 = .ok (.goto 9, 3) := dg_e46.2.1
theorem dX8_count_93 : decode cX8_count 93 = .ok (.aload_n 0, 1) := dg_e46.2.2.1
theorem dX8_count_94 : decode cX8_count 94 = .ok (.getfield 29, 3) := dg_e46.2.2.2.1
theorem dX8_count_97 : decode cX8_count 97 = .ok (.iconst 0, 1) := dg_e46.2.2.2.2.1
theorem dX8_count_98 : decode cX8_count 98 = .ok (.iaload, 1) := dg_e46.2.2.2.2.2.1
theorem dX8_count_99 : decode cX8_count 99 = .ok (.ireturn, 1) := dg_e46.2.2.2.2.2.2.1
theorem dX8_count_100 : decode cX8_count 100 = .ok (.iconst (-1), 1) := dg_e46.2.2.2.2.2.2.2.1
theorem dX8_count_101 : decode cX8_count 101 = .ok (.ireturn, 1) := dg_e46.2.2.2.2.2.2.2.2
theorem dg_e47 : (decode cJ6_bitCount_0f7a4 0 = .ok (.iload_n 0, 1)) ∧ (decode cJ6_bitCount_0f7a4 1 = .ok (.iload_n 0, 1)) ∧ (decode cJ6_bitCount_0f7a4 2 = .ok (.iconst 1, 1)) ∧ (decode cJ6_bitCount_0f7a4 3 = .ok (.iushr, 1)) ∧ (decode cJ6_bitCount_0f7a4 4 = .ok (.ldc_w 265, 3)) ∧ (decode cJ6_bitCount_0f7a4 7 = .ok (.iand, 1)) ∧ (decode cJ6_bitCount_0f7a4 8 = .ok (.isub, 1)) ∧ (decode cJ6_bitCount_0f7a4 9 = .ok (.istore_n 0, 1)) ∧ (decode cJ6_bitCount_0f7a4 10 = .ok (.iload_n 0, 1)) ∧ (decode cJ6_bitCount_0f7a4 11 = .ok (.ldc_w 266, 3)) ∧ (decode cJ6_bitCount_0f7a4 14 = .ok (.iand, 1)) ∧ (decode cJ6_bitCount_0f7a4 15 = .ok (.iload_n 0, 1)) ∧ (decode cJ6_bitCount_0f7a4 16 = .ok (.iconst 2, 1)) ∧ (decode cJ6_bitCount_0f7a4 17 = .ok (.iushr, 1)) ∧ (decode cJ6_bitCount_0f7a4 18 = .ok (.ldc_w 266, 3)) ∧ (decode cJ6_bitCount_0f7a4 21 = .ok (.iand, 1)) := by decide +kernel
theorem dJ6_bitCount_0f7a4_0 : decode cJ6_bitCount_0f7a4 0 = .ok (.iload_n 0, 1) := dg_e47.1
theorem dJ6_bitCount_0f7a4_1 : decode cJ6_bitCount_0f7a4 1 = .ok (.iload_n 0, 1) := dg_e47.2.1
theorem dJ6_bitCount_0f7a4_2 : decode cJ6_bitCount_0f7a4 2 = .ok (.iconst 1, 1) := dg_e47.2.2.1
theorem dJ6_bitCount_0f7a4_3 : decode cJ6_bitCount_0f7a4 3 = .ok (.iushr, 1) := dg_e47.2.2.2.1
theorem dJ6_bitCount_0f7a4_4 : decode cJ6_bitCount_0f7a4 4 = .ok (.ldc_w 265, 3) := dg_e47.2.2.2.2.1
theorem dJ6_bitCount_0f7a4_7 : decode cJ6_bitCount_0f7a4 7 = .ok (.iand, 1) := dg_e47.2.2.2.2.2.1
theorem dJ6_bitCount_0f7a4_8 : decode cJ6_bitCount_0f7a4 8 = .ok (.isub, 1) := dg_e47.2.2.2.2.2.2.1
theorem dJ6_bitCount_0f7a4_9 : decode cJ6_bitCount_0f7a4 9 = .ok (.istore_n 0, 1) := dg_e47.2.2.2.2.2.2.2.1
theorem dJ6_bitCount_0f7a4_10 : decode cJ6_bitCount_0f7a4 10 = .ok (.iload_n 0, 1) := dg_e47.2.2.2.2.2.2.2.2.1
theorem dJ6_bitCount_0f7a4_11 : decode cJ6_bitCount_0f7a4 11 = .ok (.ldc_w 266, 3) := dg_e47.2.2.2.2.2.2.2.2.2.1
theorem dJ6_bitCount_0f7a4_14 : decode cJ6_bitCount_0f7a4 14 = .ok (.iand, 1) := dg_e47.2.2.2.2.2.2.2.2.2.2.1
theorem dJ6_bitCount_0f7a4_15 : decode cJ6_bitCount_0f7a4 15 = .ok (.iload_n 0, 1) := dg_e47.2.2.2.2.2.2.2.2.2.2.2.1
theorem dJ6_bitCount_0f7a4_16 : decode cJ6_bitCount_0f7a4 16 = .ok (.iconst 2, 1) := dg_e47.2.2.2.2.2.2.2.2.2.2.2.2.1
theorem dJ6_bitCount_0f7a4_17 : decode cJ6_bitCount_0f7a4 17 = .ok (.iushr, 1) := dg_e47.2.2.2.2.2.2.2.2.2.2.2.2.2.1
theorem dJ6_bitCount_0f7a4_18 : decode cJ6_bitCount_0f7a4 18 = .ok (.ldc_w 266, 3) := dg_e47.2.2.2.2.2.2.2.2.2.2.2.2.2.2.1
theorem dJ6_bitCount_0f7a4_21 : decode cJ6_bitCount_0f7a4 21 = .ok (.iand, 1) := dg_e47.2.2.2.2.2.2.2.2.2.2.2.2.2.2.2
theorem dg_e48 : (decode cJ6_bitCount_0f7a4 22 = .ok (.iadd, 1)) ∧ (decode cJ6_bitCount_0f7a4 23 = .ok (.istore_n 0, 1)) ∧ (decode cJ6_bitCount_0f7a4 24 = .ok (.iload_n 0, 1)) ∧ (decode cJ6_bitCount_0f7a4 25 = .ok (.iload_n 0, 1)) ∧ (decode cJ6_bitCount_0f7a4 26 = .ok (.iconst 4, 1)) ∧ (decode cJ6_bitCount_0f7a4 27 = .ok (.iushr, 1)) ∧ (decode cJ6_bitCount_0f7a4 28 = .ok (.iadd, 1)) ∧ (decode cJ6_bitCount_0f7a4 29 = .ok (.ldc_w 267, 3)) ∧ (decode cJ6_bitCount_0f7a4 32 = .ok (.iand, 1)) ∧ (decode cJ6_bitCount_0f7a4 33 = .ok (.istore_n 0, 1)) ∧ (decode cJ6_bitCount_0f7a4 34 = .ok (.iload_n 0, 1)) ∧ (decode cJ6_bitCount_0f7a4 35 = .ok (.iload_n 0, 1)) ∧ (decode cJ6_bitCount_0f7a4 36 = .ok (.bipush 8, 2)) ∧ (decode cJ6_bitCount_0f7a4 38 = .ok (.iushr, 1)) ∧ (decode cJ6_bitCount_0f7a4 39 = .ok (.iadd, 1)) ∧ (decode cJ6_bitCount_0f7a4 40 = .ok (.istore_n 0, 1)) := by decide +kernel
theorem dJ6_bitCount_0f7a4_22 : decode cJ6_bitCount_0f7a4 22 = .ok (.iadd, 1) := dg_e48.1
theorem dJ6_bitCount_0f7a4_23 : decode cJ6_bitCount_0f7a4 23 = .ok (.istore_n 0, 1) := dg_e48.2.1
theorem dJ6_bitCount_0f7a4_24 : decode cJ6_bitCount_0f7a4 24 = .ok (.iload_n 0, 1) := dg_e48.2.2.1
theorem dJ6_bitCount_0f7a4_25 : decode cJ6_bitCount_0f7a4 25 = .ok (.iload_n 0, 1) := dg_e48.2.2.2.1
theorem dJ6_bitCount_0f7a4_26 : decode cJ6_bitCount_0f7a4 26 = .ok (.iconst 4, 1) := dg_e48.2.2.2.2.1
theorem dJ6_bitCount_0f7a4_27 : decode cJ6_bitCount_0f7a4 27 = .ok (.iushr, 1) := dg_e48.2.2.2.2.2.1
theorem dJ6_bitCount_0f7a4_28 : decode cJ6_bitCount_0f7a4 28 = .ok (.iadd, 1) := dg_e48.2.2.2.2.2.2.1
theorem dJ6_bitCount_0f7a4_29 : decode cJ6_bitCount_0f7a4 29 = .ok (.ldc_w 267, 3) := dg_e48.2.2.2.2.2.2.2.1
theorem dJ6_bitCount_0f7a4_32 : decode cJ6_bitCount_0f7a4 32 = .ok (.iand, 1) := dg_e48.2.2.2.2.2.2.2.2.1
theorem dJ6_bitCount_0f7a4_33 : decode cJ6_bitCount_0f7a4 33 = .ok (.istore_n 0, 1) := dg_e48.2.2.2.2.2.2.2.2.2.1
theorem dJ6_bitCount_0f7a4_34 : decode cJ6_bitCount_0f7a4 34 = .ok (.iload_n 0, 1) := dg_e48.2.2.2.2.2.2.2.2.2.2.1
theorem dJ6_bitCount_0f7a4_35 : decode cJ6_bitCount_0f7a4 35 = .ok (.iload_n 0, 1) := dg_e48.2.2.2.2.2.2.2.2.2.2.2.1
theorem dJ6_bitCount_0f7a4_36 : decode cJ6_bitCount_0f7a4 36 = .ok (.bipush 8, 2) := dg_e48.2.2.2.2.2.2.2.2.2.2.2.2.1
theorem dJ6_bitCount_0f7a4_38 : decode cJ6_bitCount_0f7a4 38 = .ok (.iushr, 1) := dg_e48.2.2.2.2.2.2.2.2.2.2.2.2.2.1
theorem dJ6_bitCount_0f7a4_39 : decode cJ6_bitCount_0f7a4 39 = .ok (.iadd, 1) := dg_e48.2.2.2.2.2.2.2.2.2.2.2.2.2.2.1
theorem dJ6_bitCount_0f7a4_40 : decode cJ6_bitCount_0f7a4 40 = .ok (.istore_n 0, 1) := dg_e48.2.2.2.2.2.2.2.2.2.2.2.2.2.2.2
theorem dg_e49 : (decode cJ6_bitCount_0f7a4 41 = .ok (.iload_n 0, 1)) ∧ (decode cJ6_bitCount_0f7a4 42 = .ok (.iload_n 0, 1)) ∧ (decode cJ6_bitCount_0f7a4 43 = .ok (.bipush 16, 2)) ∧ (decode cJ6_bitCount_0f7a4 45 = .ok (.iushr, 1)) ∧ (decode cJ6_bitCount_0f7a4 46 = .ok (.iadd, 1)) ∧ (decode cJ6_bitCount_0f7a4 47 = .ok (.istore_n 0, 1)) ∧ (decode cJ6_bitCount_0f7a4 48 = .ok (.iload_n 0, 1)) ∧ (decode cJ6_bitCount_0f7a4 49 = .ok (.bipush 63, 2)) ∧ (decode cJ6_bitCount_0f7a4 51 = .ok (.iand, 1)) ∧ (decode cJ6_bitCount_0f7a4 52 = .ok (.ireturn, 1)) := by decide +kernel
theorem dJ6_bitCount_0f7a4_41 : decode cJ6_bitCount_0f7a4 41 = .ok (.iload_n 0, 1) := dg_e49.1
theorem dJ6_bitCount_0f7a4_42 : decode cJ6_bitCount_0f7a4 42 = .ok (.iload_n 0, 1) := dg_e49.2.1
theorem dJ6_bitCount_0f7a4_43 : decode cJ6_bitCount_0f7a4 43 = .ok (.bipush 16, 2) := dg_e49.2.2.1
theorem dJ6_bitCount_0f7a4_45 : decode cJ6_bitCount_0f7a4 45 = .ok (.iushr, 1) := dg_e49.2.2.2.1
theorem dJ6_bitCount_0f7a4_46 : decode cJ6_bitCount_0f7a4 46 = .ok (.iadd, 1) := dg_e49.2.2.2.2.1
theorem dJ6_bitCount_0f7a4_47 : decode cJ6_bitCount_0f7a4 47 = .ok (.istore_n 0, 1) := dg_e49.2.2.2.2.2.1
theorem dJ6_bitCount_0f7a4_48 : decode cJ6_bitCount_0f7a4 48 = .ok (.iload_n 0, 1) := dg_e49.2.2.2.2.2.2.1
theorem dJ6_bitCount_0f7a4_49 : decode cJ6_bitCount_0f7a4 49 = .ok (.bipush 63, 2) := dg_e49.2.2.2.2.2.2.2.1
theorem dJ6_bitCount_0f7a4_51 : decode cJ6_bitCount_0f7a4 51 = .ok (.iand, 1) := dg_e49.2.2.2.2.2.2.2.2.1
theorem dJ6_bitCount_0f7a4_52 : decode cJ6_bitCount_0f7a4 52 = .ok (.ireturn, 1) := dg_e49.2.2.2.2.2.2.2.2.2
theorem dg_e50 : (decode cJ9_abs_0f7a4 0 = .ok (.iload_n 0, 1)) ∧ (decode cJ9_abs_0f7a4 1 = .ok (.ifCond .ge 8, 3)) ∧ (decode cJ9_abs_0f7a4 4 = .ok (.iload_n 0, 1)) ∧ (decode cJ9_abs_0f7a4 5 = .ok (.ineg, 1)) ∧ (decode cJ9_abs_0f7a4 6 = .ok (.goto 4, 3)) ∧ (decode cJ9_abs_0f7a4 9 = .ok (.iload_n 0, 1)) ∧ (decode cJ9_abs_0f7a4 10 = .ok (.ireturn, 1)) := by decide +kernel
theorem dJ9_abs_0f7a4_0 : decode cJ9_abs_0f7a4 0 = .ok (.iload_n 0, 1) := dg_e50.1
theorem dJ9_abs_0f7a4_1 : decode cJ9_abs_0f7a4 1 = .ok (.ifCond .ge 8, 3) := dg_e50.2.1
theorem dJ9_abs_0f7a4_4 : decode cJ9_abs_0f7a4 4 = .ok (.iload_n 0, 1) := dg_e50.2.2.1
theorem dJ9_abs_0f7a4_5 : decode cJ9_abs_0f7a4 5 = .ok (.ineg, 1) := dg_e50.2.2.2.1
theorem dJ9_abs_0f7a4_6 : decode cJ9_abs_0f7a4 6 = .ok (.goto 4, 3) := dg_e50.2.2.2.2.1
theorem dJ9_abs_0f7a4_9 : decode cJ9_abs_0f7a4 9 = .ok (.iload_n 0, 1) := dg_e50.2.2.2.2.2.1
theorem dJ9_abs_0f7a4_10 : decode cJ9_abs_0f7a4 10 = .ok (.ireturn, 1) := dg_e50.2.2.2.2.2.2
theorem dg_e51 : (decode cJ9_max_7cf53 0 = .ok (.iload_n 0, 1)) ∧ (decode cJ9_max_7cf53 1 = .ok (.iload_n 1, 1)) ∧ (decode cJ9_max_7cf53 2 = .ok (.if_icmp .lt 7, 3)) ∧ (decode cJ9_max_7cf53 5 = .ok (.iload_n 0, 1)) ∧ (decode cJ9_max_7cf53 6 = .ok (.goto 4, 3)) ∧ (decode cJ9_max_7cf53 9 = .ok (.iload_n 1, 1)) ∧ (decode cJ9_max_7cf53 10 = .ok (.ireturn, 1)) := by decide +kernel
theorem dJ9_max_7cf53_0 : decode cJ9_max_7cf53 0 = .ok (.iload_n 0, 1) := dg_e51.1
theorem dJ9_max_7cf53_1 : decode cJ9_max_7cf53 1 = .ok (.iload_n 1, 1) := dg_e51.2.1
theorem dJ9_max_7cf53_2 : decode cJ9_max_7cf53 2 = .ok (.if_icmp .lt 7, 3) := dg_e51.2.2.1
theorem dJ9_max_7cf53_5 : decode cJ9_max_7cf53 5 = .ok (.iload_n 0, 1) := dg_e51.2.2.2.1
theorem dJ9_max_7cf53_6 : decode cJ9_max_7cf53 6 = .ok (.goto 4, 3) := dg_e51.2.2.2.2.1
theorem dJ9_max_7cf53_9 : decode cJ9_max_7cf53 9 = .ok (.iload_n 1, 1) := dg_e51.2.2.2.2.2.1
theorem dJ9_max_7cf53_10 : decode cJ9_max_7cf53 10 = .ok (.ireturn, 1) := dg_e51.2.2.2.2.2.2
theorem dg_e52 : (decode cJ9_min_7cf53 0 = .ok (.iload_n 0, 1)) ∧ (decode cJ9_min_7cf53 1 = .ok (.iload_n 1, 1)) ∧ (decode cJ9_min_7cf53 2 = .ok (.if_icmp .gt 7, 3)) ∧ (decode cJ9_min_7cf53 5 = .ok (.iload_n 0, 1)) ∧ (decode cJ9_min_7cf53 6 = .ok (.goto 4, 3)) ∧ (decode cJ9_min_7cf53 9 = .ok (.iload_n 1, 1)) ∧ (decode cJ9_min_7cf53 10 = .ok (.ireturn, 1)) := by decide +kernel
theorem dJ9_min_7cf53_0 : decode cJ9_min_7cf53 0 = .ok (.iload_n 0, 1) := dg_e52.1
theorem dJ9_min_7cf53_1 : decode cJ9_min_7cf53 1 = .ok (.iload_n 1, 1) := dg_e52.2.1
theorem dJ9_min_7cf53_2 : decode cJ9_min_7cf53 2 = .ok (.if_icmp .gt 7, 3) := dg_e52.2.2.1
theorem dJ9_min_7cf53_5 : decode cJ9_min_7cf53 5 = .ok (.iload_n 0, 1) := dg_e52.2.2.2.1
theorem dJ9_min_7cf53_6 : decode cJ9_min_7cf53 6 = .ok (.goto 4, 3) := dg_e52.2.2.2.2.1
theorem dJ9_min_7cf53_9 : decode cJ9_min_7cf53 9 = .ok (.iload_n 1, 1) := dg_e52.2.2.2.2.2.1
theorem dJ9_min_7cf53_10 : decode cJ9_min_7cf53 10 = .ok (.ireturn, 1) := dg_e52.2.2.2.2.2.2
theorem dg_e53 : (decode cJ0_length_8abf5 0 = .ok (.aload_n 0, 1)) ∧ (decode cJ0_length_8abf5 1 = .ok (.getfield 9, 3)) ∧ (decode cJ0_length_8abf5 4 = .ok (.arraylength, 1)) ∧ (decode cJ0_length_8abf5 5 = .ok (.aload_n 0, 1)) ∧ (decode cJ0_length_8abf5 6 = .ok (.invokevirtual 335, 3)) ∧ (decode cJ0_length_8abf5 9 = .ok (.ishr, 1)) ∧ (decode cJ0_length_8abf5 10 = .ok (.ireturn, 1)) := by decide +kernel
theorem dJ0_length_8abf5_0 : decode cJ0_length_8abf5 0 = .ok (.aload_n 0, 1) := dg_e53.1
theorem dJ0_length_8abf5_1 : decode cJ0_length_8abf5 1 = .ok (.getfield 9, 3) := dg_e53.2.1
theorem dJ0_length_8abf5_4 : decode cJ0_length_8abf5 4 = .ok (.arraylength, 1) := dg_e53.2.2.1
theorem dJ0_length_8abf5_5 : decode cJ0_length_8abf5 5 = .ok (.aload_n 0, 1) := dg_e53.2.2.2.1
theorem dJ0_length_8abf5_6 : decode cJ0_length_8abf5 6 = .ok (.invokevirtual 335, 3) := dg_e53.2.2.2.2.1
theorem dJ0_length_8abf5_9 : decode cJ0_length_8abf5 9 = .ok (.ishr, 1) := dg_e53.2.2.2.2.2.1
theorem dJ0_length_8abf5_10 : decode cJ0_length_8abf5 10 = .ok (.ireturn, 1) := dg_e53.2.2.2.2.2.2
theorem dg_e54 : (decode cJ0_charAt_5068e 0 = .ok (.aload_n 0, 1)) ∧ (decode cJ0_charAt_5068e 1 = .ok (.invokevirtual 492, 3)) ∧ (decode cJ0_charAt_5068e 4 = .ok (.ifCond .eq 12, 3)) ∧ (decode cJ0_charAt_5068e 7 = .ok (.aload_n 0, 1)) ∧ (decode cJ0_charAt_5068e 8 = .ok (.getfield 9, 3)) ∧ (decode cJ0_charAt_5068e 11 = .ok (.iload_n 1, 1)) ∧ (decode cJ0_charAt_5068e 12 = .ok (.invokestatic 495, 3)) ∧ (decode cJ0_charAt_5068e 15 = .ok (.ireturn, 1)) ∧ (decode cJ0_charAt_5068e 16 = .ok (.aload_n 0, 1)) ∧ (decode cJ0_charAt_5068e 17 = .ok (.getfield 9, 3)) ∧ (decode cJ0_charAt_5068e 20 = .ok (.iload_n 1, 1)) ∧ (decode cJ0_charAt_5068e 21 = .ok (.invokestatic 498, 3)) ∧ (decode cJ0_charAt_5068e 24 = .ok (.ireturn, 1)) := by decide +kernel
theorem dJ0_charAt_5068e_0 : decode cJ0_charAt_5068e 0 = .ok (.aload_n 0, 1) := dg_e54.1
theorem dJ0_charAt_5068e_1 : decode cJ0_charAt_5068e 1 = .ok (.invokevirtual 492, 3) := dg_e54.2.1
theorem dJ0_charAt_5068e_4 : decode cJ0_charAt_5068e 4 = .ok (.ifCond .eq 12, 3) := dg_e54.2.2.1
theorem dJ0_charAt_5068e_7 : decode cJ0_charAt_5068e 7 = .ok (.aload_n 0, 1) := dg_e54.2.2.2.1
theorem dJ0_charAt_5068e_8 : decode cJ0_charAt_5068e 8 = .ok (.getfield 9, 3) := dg_e54.2.2.2.2.1
theorem dJ0_charAt_5068e_11 : decode cJ0_charAt_5068e 11 = .ok (.iload_n 1, 1) := dg_e54.2.2.2.2.2.1
theorem dJ0_charAt_5068e_12 : decode cJ0_charAt_5068e 12 = .ok (.invokestatic 495, 3) := dg_e54.2.2.2.2.2.2.1
theorem dJ0_charAt_5068e_15 : decode cJ0_charAt_5068e 15 = .ok (.ireturn, 1) := dg_e54.2.2.2.2.2.2.2.1
theorem dJ0_charAt_5068e_16 : decode cJ0_charAt_5068e 16 = .ok (.aload_n 0, 1) := dg_e54.2.2.2.2.2.2.2.2.1
theorem dJ0_charAt_5068e_17 : decode cJ0_charAt_5068e 17 = .ok (.getfield 9, 3) := dg_e54.2.2.2.2.2.2.2.2.2.1
theorem dJ0_charAt_5068e_20 : decode cJ0_charAt_5068e 20 = .ok (.iload_n 1, 1) := dg_e54.2.2.2.2.2.2.2.2.2.2.1
theorem dJ0_charAt_5068e_21 : decode cJ0_charAt_5068e 21 = .ok (.invokestatic 498, 3) := dg_e54.2.2.2.2.2.2.2.2.2.2.2.1
theorem dJ0_charAt_5068e_24 : decode cJ0_charAt_5068e 24 = .ok (.ireturn, 1) := dg_e54.2.2.2.2.2.2.2.2.2.2.2.2
theorem dg_e55 : (decode cJ0_coder_7d493 0 = .ok (.getstatic 38, 3)) ∧ (decode cJ0_coder_7d493 3 = .ok (.ifCond .eq 10, 3)) ∧ (decode cJ0_coder_7d493 6 = .ok (.aload_n 0, 1)) ∧ (decode cJ0_coder_7d493 7 = .ok (.getfield 15, 3)) ∧ (decode cJ0_coder_7d493 10 = .ok (.goto 4, 3)) ∧ (decode cJ0_coder_7d493 13 = .ok (.iconst 1, 1)) ∧ (decode cJ0_coder_7d493 14 = .ok (.ireturn, 1)) := by decide +kernel
theorem dJ0_coder_7d493_0 : decode cJ0_coder_7d493 0 = .ok (.getstatic 38, 3) := dg_e55.1
theorem dJ0_coder_7d493_3 : decode cJ0_coder_7d493 3 = .ok (.ifCond .eq 10, 3) := dg_e55.2.1
theorem dJ0_coder_7d493_6 : decode cJ0_coder_7d493 6 = .ok (.aload_n 0, 1) := dg_e55.2.2.1
theorem dJ0_coder_7d493_7 : decode cJ0_coder_7d493 7 = .ok (.getfield 15, 3) := dg_e55.2.2.2.1
theorem dJ0_coder_7d493_10 : decode cJ0_coder_7d493 10 = .ok (.goto 4, 3) := dg_e55.2.2.2.2.1
theorem dJ0_coder_7d493_13 : decode cJ0_coder_7d493 13 = .ok (.iconst 1, 1) := dg_e55.2.2.2.2.2.1
theorem dJ0_coder_7d493_14 : decode cJ0_coder_7d493 14 = .ok (.ireturn, 1) := dg_e55.2.2.2.2.2.2
theorem dg_e56 : (decode cJ0_isLatin1_aae02 0 = .ok (.getstatic 38, 3)) ∧ (decode cJ0_isLatin1_aae02 3 = .ok (.ifCond .eq 14, 3)) ∧ (decode cJ0_isLatin1_aae02 6 = .ok (.aload_n 0, 1)) ∧ (decode cJ0_isLatin1_aae02 7 = .ok (.getfield 15, 3)) ∧ (decode cJ0_isLatin1_aae02 10 = .ok (.ifCond .ne 7, 3)) ∧ (decode cJ0_isLatin1_aae02 13 = .ok (.iconst 1, 1)) ∧ (decode cJ0_isLatin1_aae02 14 = .ok (.goto 4, 3)) ∧ (decode cJ0_isLatin1_aae02 17 = .ok (.iconst 0, 1)) ∧ (decode cJ0_isLatin1_aae02 18 = .ok (.ireturn, 1)) := by decide +kernel
theorem dJ0_isLatin1_aae02_0 : decode cJ0_isLatin1_aae02 0 = .ok (.getstatic 38, 3) := dg_e56.1
theorem dJ0_isLatin1_aae02_3 : decode cJ0_isLatin1_aae02 3 = .ok (.ifCond .eq 14, 3) := dg_e56.2.1
theorem dJ0_isLatin1_aae02_6 : decode cJ0_isLatin1_aae02 6 = .ok (.aload_n 0, 1) := dg_e56.2.2.1
theorem dJ0_isLatin1_aae02_7 : decode cJ0_isLatin1_aae02 7 = .ok (.getfield 15, 3) := dg_e56.2.2.2.1
theorem dJ0_isLatin1_aae02_10 : decode cJ0_isLatin1_aae02 10 = .ok (.ifCond .ne 7, 3) := dg_e56.2.2.2.2.1
theorem dJ0_isLatin1_aae02_13 : decode cJ0_isLatin1_aae02 13 = .ok (.iconst 1, 1) := dg_e56.2.2.2.2.2.1
theorem dJ0_isLatin1_aae02_14 : decode cJ0_isLatin1_aae02 14 = .ok (.goto 4, 3) := dg_e56.2.2.2.2.2.2.1
theorem dJ0_isLatin1_aae02_17 : decode cJ0_isLatin1_aae02 17 = .ok (.iconst 0, 1) := dg_e56.2.2.2.2.2.2.2.1
theorem dJ0_isLatin1_aae02_18 : decode cJ0_isLatin1_aae02 18 = .ok (.ireturn, 1) := dg_e56.2.2.2.2.2.2.2.2
theorem dg_e57 : (decode cJ0_checkIndex_df160 0 = .ok (.iload_n 0, 1)) ∧ (decode cJ0_checkIndex_df160 1 = .ok (.iload_n 1, 1)) ∧ (decode cJ0_checkIndex_df160 2 = .ok (.getstatic 1053, 3)) ∧ (decode cJ0_checkIndex_df160 5 = .ok (.invokestatic 1059, 3)) ∧ (decode cJ0_checkIndex_df160 8 = .ok (.pop, 1)) ∧ (decode cJ0_checkIndex_df160 9 = .ok (.return_, 1)) := by decide +kernel
theorem dJ0_checkIndex_df160_0 : decode cJ0_checkIndex_df160 0 = .ok (.iload_n 0, 1) := dg_e57.1
theorem dJ0_checkIndex_df160_1 : decode cJ0_checkIndex_df160 1 = .ok (.iload_n 1, 1) := dg_e57.2.1
theorem dJ0_checkIndex_df160_2 : decode cJ0_checkIndex_df160 2 = .ok (.getstatic 1053, 3) := dg_e57.2.2.1
theorem dJ0_checkIndex_df160_5 : decode cJ0_checkIndex_df160 5 = .ok (.invokestatic 1059, 3) := dg_e57.2.2.2.1
theorem dJ0_checkIndex_df160_8 : decode cJ0_checkIndex_df160 8 = .ok (.pop, 1) := dg_e57.2.2.2.2.1
theorem dJ0_checkIndex_df160_9 : decode cJ0_checkIndex_df160 9 = .ok (.return_, 1) := dg_e57.2.2.2.2.2
theorem dg_e58 : (decode cJ1_charAt_3b067 0 = .ok (.iload_n 1, 1)) ∧ (decode cJ1_charAt_3b067 1 = .ok (.aload_n 0, 1)) ∧ (decode cJ1_charAt_3b067 2 = .ok (.arraylength, 1)) ∧ (decode cJ1_charAt_3b067 3 = .ok (.invokestatic 9, 3)) ∧ (decode cJ1_charAt_3b067 6 = .ok (.aload_n 0, 1)) ∧ (decode cJ1_charAt_3b067 7 = .ok (.iload_n 1, 1)) ∧ (decode cJ1_charAt_3b067 8 = .ok (.baload, 1)) ∧ (decode cJ1_charAt_3b067 9 = .ok (.sipush 255, 3)) ∧ (decode cJ1_charAt_3b067 12 = .ok (.iand, 1)) ∧ (decode cJ1_charAt_3b067 13 = .ok (.i2c, 1)) ∧ (decode cJ1_charAt_3b067 14 = .ok (.ireturn, 1)) := by decide +kernel
theorem dJ1_charAt_3b067_0 : decode cJ1_charAt_3b067 0 = .ok (.iload_n 1, 1) := dg_e58.1
theorem dJ1_charAt_3b067_1 : decode cJ1_charAt_3b067 1 = .ok (.aload_n 0, 1) := dg_e58.2.1
theorem dJ1_charAt_3b067_2 : decode cJ1_charAt_3b067 2 = .ok (.arraylength, 1) := dg_e58.2.2.1
theorem dJ1_charAt_3b067_3 : decode cJ1_charAt_3b067 3 = .ok (.invokestatic 9, 3) := dg_e58.2.2.2.1
theorem dJ1_charAt_3b067_6 : decode cJ1_charAt_3b067 6 = .ok (.aload_n 0, 1) := dg_e58.2.2.2.2.1
theorem dJ1_charAt_3b067_7 : decode cJ1_charAt_3b067 7 = .ok (.iload_n 1, 1) := dg_e58.2.2.2.2.2.1
theorem dJ1_charAt_3b067_8 : decode cJ1_charAt_3b067 8 = .ok (.baload, 1) := dg_e58.2.2.2.2.2.2.1
theorem dJ1_charAt_3b067_9 : decode cJ1_charAt_3b067 9 = .ok (.sipush 255, 3) := dg_e58.2.2.2.2.2.2.2.1
theorem dJ1_charAt_3b067_12 : decode cJ1_charAt_3b067 12 = .ok (.iand, 1) := dg_e58.2.2.2.2.2.2.2.2.1
theorem dJ1_charAt_3b067_13 : decode cJ1_charAt_3b067 13 = .ok (.i2c, 1) := dg_e58.2.2.2.2.2.2.2.2.2.1
theorem dJ1_charAt_3b067_14 : decode cJ1_charAt_3b067 14 = .ok (.ireturn, 1) := dg_e58.2.2.2.2.2.2.2.2.2.2
theorem dg_e59 : (decode cJ2_getChar_3b067 0 = .ok (.getstatic 44, 3)) ∧ (decode cJ2_getChar_3b067 3 = .ok (.ifCond .ne 25, 3)) ∧ (decode cJ2_getChar_3b067 6 = .ok (.iload_n 1, 1)) ∧ (decode cJ2_getChar_3b067 7 = .ok (.ifCond .lt 11, 3)) ∧ (decode cJ2_getChar_3b067 10 = .ok (.iload_n 1, 1)) ∧ (decode cJ2_getChar_3b067 11 = .ok (.aload_n 0, 1)) ∧ (decode cJ2_getChar_3b067 12 = .ok (.invokestatic 48, 3)) ∧ (decode cJ2_getChar_3b067 15 = .ok (.if_icmp .lt 13, 3)) ∧ (decode cJ2_getChar_3b067 18 = .ok (.new 52, 3)) ∧ (decode cJ2_getChar_3b067 21 = .ok (.dup, 1)) ∧ (decode cJ2_getChar_3b067 22 = .ok (.ldc 54, 2)) ∧ (decode cJ2_getChar_3b067 24 = .ok (.invokespecial 56, 3)) ∧ (decode cJ2_getChar_3b067 27 = .ok (.athrow, 1)) ∧ (decode cJ2_getChar_3b067 28 = .ok (.iload_n 1, 1)) ∧ (decode cJ2_getChar_3b067 29 = .ok (.iconst 1, 1)) ∧ (decode cJ2_getChar_3b067 30 = .ok (.ishl, 1)) := by decide +kernel
theorem dJ2_getChar_3b067_0 : decode cJ2_getChar_3b067 0 = .ok (.getstatic 44, 3) := dg_e59.1
theorem dJ2_getChar_3b067_3 : decode cJ2_getChar_3b067 3 = .ok (.ifCond .ne 25, 3) := dg_e59.2.1
theorem dJ2_getChar_3b067_6 : decode cJ2_getChar_3b067 6 = .ok (.iload_n 1, 1) := dg_e59.2.2.1
theorem dJ2_getChar_3b067_7 : decode cJ2_getChar_3b067 7 = .ok (.ifCond .lt 11, 3) := dg_e59.2.2.2.1
theorem dJ2_getChar_3b067_10 : decode cJ2_getChar_3b067 10 = .ok (.iload_n 1, 1) := dg_e59.2.2.2.2.1
theorem dJ2_getChar_3b067_11 : decode cJ2_getChar_3b067 11 = .ok (.aload_n 0, 1) := dg_e59.2.2.2.2.2.1
theorem dJ2_getChar_3b067_12 : decode cJ2_getChar_3b067 12 = .ok (.invokestatic 48, 3) := dg_e59.2.2.2.2.2.2.1
theorem dJ2_getChar_3b067_15 : decode cJ2_getChar_3b067 15 = .ok (.if_icmp .lt 13, 3) := dg_e59.2.2.2.2.2.2.2.1
theorem dJ2_getChar_3b067_18 : decode cJ2_getChar_3b067 18 = .ok (.new 52, 3) := dg_e59.2.2.2.2.2.2.2.2.1
theorem dJ2_getChar_3b067_21 : decode cJ2_getChar_3b067 21 = .ok (.dup, 1) := dg_e59.2.2.2.2.2.2.2.2.2.1
theorem dJ2_getChar_3b067_22 : decode cJ2_getChar_3b067 22 = .ok (.ldc 54, 2) := dg_e59.2.2.2.2.2.2.2.2.2.2.1
theorem dJ2_getChar_3b067_24 : decode cJ2_getChar_3b067 24 = .ok (.invokespecial 56, 3) := dg_e59.2.2.2.2.2.2.2.2.2.2.2.1
theorem dJ2_getChar_3b067_27 : decode cJ2_getChar_3b067 27 = .ok (.athrow, 1) := dg_e59.2.2.2.2.2.2.2.2.2.2.2.2.1
theorem dJ2_getChar_3b067_28 : decode cJ2_getChar_3b067 28 = .ok (.iload_n 1, 1) := dg_e59.2.2.2.2.2.2.2.2.2.2.2.2.2.1
theorem dJ2_getChar_3b067_29 : decode cJ2_getChar_3b067 29 = .ok (.iconst 1, 1) := dg_e59.2.2.2.2.2.2.2.2.2.2.2.2.2.2.1
theorem dJ2_getChar_3b067_30 : decode cJ2_getChar_3b067 30 = .ok (.ishl, 1) := dg_e59.2.2.2.2.2.2.2.2.2.2.2.2.2.2.2
theorem dg_e60 : (decode cJ2_getChar_3b067 31 = .ok (.istore_n 1, 1)) ∧ (decode cJ2_getChar_3b067 32 = .ok (.aload_n 0, 1)) ∧ (decode cJ2_getChar_3b067 33 = .ok (.iload_n 1, 1)) ∧ (decode cJ2_getChar_3b067 34 = .ok (.iinc 1 1, 3)) ∧ (decode cJ2_getChar_3b067 37 = .ok (.baload, 1)) ∧ (decode cJ2_getChar_3b067 38 = .ok (.sipush 255, 3)) ∧ (decode cJ2_getChar_3b067 41 = .ok (.iand, 1)) ∧ (decode cJ2_getChar_3b067 42 = .ok (.getstatic 59, 3)) ∧ (decode cJ2_getChar_3b067 45 = .ok (.ishl, 1)) ∧ (decode cJ2_getChar_3b067 46 = .ok (.aload_n 0, 1)) ∧ (decode cJ2_getChar_3b067 47 = .ok (.iload_n 1, 1)) ∧ (decode cJ2_getChar_3b067 48 = .ok (.baload, 1)) ∧ (decode cJ2_getChar_3b067 49 = .ok (.sipush 255, 3)) ∧ (decode cJ2_getChar_3b067 52 = .ok (.iand, 1)) ∧ (decode cJ2_getChar_3b067 53 = .ok (.getstatic 63, 3)) ∧ (decode cJ2_getChar_3b067 56 = .ok (.ishl, 1)) := by decide +kernel
theorem dJ2_getChar_3b067_31 : decode cJ2_getChar_3b067 31 = .ok (.istore_n 1, 1) := dg_e60.1
theorem dJ2_getChar_3b067_32 : decode cJ2_getChar_3b067 32 = .ok (.aload_n 0, 1) := dg_e60.2.1
theorem dJ2_getChar_3b067_33 : decode cJ2_getChar_3b067 33 = .ok (.iload_n 1, 1) := dg_e60.2.2.1
theorem dJ2_getChar_3b067_34 : decode cJ2_getChar_3b067 34 = .ok (.iinc 1 1, 3) := dg_e60.2.2.2.1
theorem dJ2_getChar_3b067_37 : decode cJ2_getChar_3b067 37 = .ok (.baload, 1) := dg_e60.2.2.2.2.1
theorem dJ2_getChar_3b067_38 : decode cJ2_getChar_3b067 38 = .ok (.sipush 255, 3) := dg_e60.2.2.2.2.2.1
theorem dJ2_getChar_3b067_41 : decode cJ2_getChar_3b067 41 = .ok (.iand, 1) := dg_e60.2.2.2.2.2.2.1
theorem dJ2_getChar_3b067_42 : decode cJ2_getChar_3b067 42 = .ok (.getstatic 59, 3) := dg_e60.2.2.2.2.2.2.2.1
theorem dJ2_getChar_3b067_45 : decode cJ2_getChar_3b067 45 = .ok (.ishl, 1) := dg_e60.2.2.2.2.2.2.2.2.1
theorem dJ2_getChar_3b067_46 : decode cJ2_getChar_3b067 46 = .ok (.aload_n 0, 1) := dg_e60.2.2.2.2.2.2.2.2.2.1
theorem dJ2_getChar_3b067_47 : decode cJ2_getChar_3b067 47 = .ok (.iload_n 1, 1) := dg_e60.2.2.2.2.2.2.2.2.2.2.1
theorem dJ2_getChar_3b067_48 : decode cJ2_getChar_3b067 48 = .ok (.baload, 1) := dg_e60.2.2.2.2.2.2.2.2.2.2.2.1
theorem dJ2_getChar_3b067_49 : decode cJ2_getChar_3b067 49 = .ok (.sipush 255, 3) := dg_e60.2.2.2.2.2.2.2.2.2.2.2.2.1
theorem dJ2_getChar_3b067_52 : decode cJ2_getChar_3b067 52 = .ok (.iand, 1) := dg_e60.2.2.2.2.2.2.2.2.2.2.2.2.2.1
theorem dJ2_getChar_3b067_53 : decode cJ2_getChar_3b067 53 = .ok (.getstatic 63, 3) := dg_e60.2.2.2.2.2.2.2.2.2.2.2.2.2.2.1
theorem dJ2_getChar_3b067_56 : decode cJ2_getChar_3b067 56 = .ok (.ishl, 1) := dg_e60.2.2.2.2.2.2.2.2.2.2.2.2.2.2.2
theorem dg_e61 : (decode cJ2_getChar_3b067 57 = .ok (.ior, 1)) ∧ (decode cJ2_getChar_3b067 58 = .ok (.i2c, 1)) ∧ (decode cJ2_getChar_3b067 59 = .ok (.ireturn, 1)) := by decide +kernel
theorem dJ2_getChar_3b067_57 : decode cJ2_getChar_3b067 57 = .ok (.ior, 1) := dg_e61.1
theorem dJ2_getChar_3b067_58 : decode cJ2_getChar_3b067 58 = .ok (.i2c, 1) := dg_e61.2.1
theorem dJ2_getChar_3b067_59 : decode cJ2_getChar_3b067 59 = .ok (.ireturn, 1) := dg_e61.2.2
theorem dg_e62 : (decode cJ2_length_9d52b 0 = .ok (.aload_n 0, 1)) ∧ (decode cJ2_length_9d52b 1 = .ok (.arraylength, 1)) ∧ (decode cJ2_length_9d52b 2 = .ok (.iconst 1, 1)) ∧ (decode cJ2_length_9d52b 3 = .ok (.ishr, 1)) ∧ (decode cJ2_length_9d52b 4 = .ok (.ireturn, 1)) := by decide +kernel
theorem dJ2_length_9d52b_0 : decode cJ2_length_9d52b 0 = .ok (.aload_n 0, 1) := dg_e62.1
theorem dJ2_length_9d52b_1 : decode cJ2_length_9d52b 1 = .ok (.arraylength, 1) := dg_e62.2.1
theorem dJ2_length_9d52b_2 : decode cJ2_length_9d52b 2 = .ok (.iconst 1, 1) := dg_e62.2.2.1
theorem dJ2_length_9d52b_3 : decode cJ2_length_9d52b 3 = .ok (.ishr, 1) := dg_e62.2.2.2.1
theorem dJ2_length_9d52b_4 : decode cJ2_length_9d52b 4 = .ok (.ireturn, 1) := dg_e62.2.2.2.2
theorem dg_e63 : (decode cJ2_charAt_3b067 0 = .ok (.iload_n 1, 1)) ∧ (decode cJ2_charAt_3b067 1 = .ok (.aload_n 0, 1)) ∧ (decode cJ2_charAt_3b067 2 = .ok (.invokestatic 67, 3)) ∧ (decode cJ2_charAt_3b067 5 = .ok (.aload_n 0, 1)) ∧ (decode cJ2_charAt_3b067 6 = .ok (.iload_n 1, 1)) ∧ (decode cJ2_charAt_3b067 7 = .ok (.invokestatic 71, 3)) ∧ (decode cJ2_charAt_3b067 10 = .ok (.ireturn, 1)) := by decide +kernel
theorem dJ2_charAt_3b067_0 : decode cJ2_charAt_3b067 0 = .ok (.iload_n 1, 1) := dg_e63.1
theorem dJ2_charAt_3b067_1 : decode cJ2_charAt_3b067 1 = .ok (.aload_n 0, 1) := dg_e63.2.1
theorem dJ2_charAt_3b067_2 : decode cJ2_charAt_3b067 2 = .ok (.invokestatic 67, 3) := dg_e63.2.2.1
theorem dJ2_charAt_3b067_5 : decode cJ2_charAt_3b067 5 = .ok (.aload_n 0, 1) := dg_e63.2.2.2.1
theorem dJ2_charAt_3b067_6 : decode cJ2_charAt_3b067 6 = .ok (.iload_n 1, 1) := dg_e63.2.2.2.2.1
theorem dJ2_charAt_3b067_7 : decode cJ2_charAt_3b067 7 = .ok (.invokestatic 71, 3) := dg_e63.2.2.2.2.2.1
theorem dJ2_charAt_3b067_10 : decode cJ2_charAt_3b067 10 = .ok (.ireturn, 1) := dg_e63.2.2.2.2.2.2
theorem dg_e64 : (decode cJ2_checkIndex_2214a 0 = .ok (.iload_n 0, 1)) ∧ (decode cJ2_checkIndex_2214a 1 = .ok (.aload_n 1, 1)) ∧ (decode cJ2_checkIndex_2214a 2 = .ok (.invokestatic 48, 3)) ∧ (decode cJ2_checkIndex_2214a 5 = .ok (.invokestatic 414, 3)) ∧ (decode cJ2_checkIndex_2214a 8 = .ok (.return_, 1)) := by decide +kernel
theorem dJ2_checkIndex_2214a_0 : decode cJ2_checkIndex_2214a 0 = .ok (.iload_n 0, 1) := dg_e64.1
theorem dJ2_checkIndex_2214a_1 : decode cJ2_checkIndex_2214a 1 = .ok (.aload_n 1, 1) := dg_e64.2.1
theorem dJ2_checkIndex_2214a_2 : decode cJ2_checkIndex_2214a 2 = .ok (.invokestatic 48, 3) := dg_e64.2.2.1
theorem dJ2_checkIndex_2214a_5 : decode cJ2_checkIndex_2214a 5 = .ok (.invokestatic 414, 3) := dg_e64.2.2.2.1
theorem dJ2_checkIndex_2214a_8 : decode cJ2_checkIndex_2214a 8 = .ok (.return_, 1) := dg_e64.2.2.2.2
theorem dg_e65 : (decode cJ3_checkIndex_8e157 0 = .ok (.iload_n 0, 1)) ∧ (decode cJ3_checkIndex_8e157 1 = .ok (.ifCond .lt 8, 3)) ∧ (decode cJ3_checkIndex_8e157 4 = .ok (.iload_n 0, 1)) ∧ (decode cJ3_checkIndex_8e157 5 = .ok (.iload_n 1, 1)) ∧ (decode cJ3_checkIndex_8e157 6 = .ok (.if_icmp .lt 10, 3)) ∧ (decode cJ3_checkIndex_8e157 9 = .ok (.aload_n 2, 1)) ∧ (decode cJ3_checkIndex_8e157 10 = .ok (.iload_n 0, 1)) ∧ (decode cJ3_checkIndex_8e157 11 = .ok (.iload_n 1, 1)) ∧ (decode cJ3_checkIndex_8e157 12 = .ok (.invokestatic 95, 3)) ∧ (decode cJ3_checkIndex_8e157 15 = .ok (.athrow, 1)) ∧ (decode cJ3_checkIndex_8e157 16 = .ok (.iload_n 0, 1)) ∧ (decode cJ3_checkIndex_8e157 17 = .ok (.ireturn, 1)) := by decide +kernel
theorem dJ3_checkIndex_8e157_0 : decode cJ3_checkIndex_8e157 0 = .ok (.iload_n 0, 1) := dg_e65.1
theorem dJ3_checkIndex_8e157_1 : decode cJ3_checkIndex_8e157 1 = .ok (.ifCond .lt 8, 3) := dg_e65.2.1
theorem dJ3_checkIndex_8e157_4 : decode cJ3_checkIndex_8e157 4 = .ok (.iload_n 0, 1) := dg_e65.2.2.1
theorem dJ3_checkIndex_8e157_5 : decode cJ3_checkIndex_8e157 5 = .ok (.iload_n 1, 1) := dg_e65.2.2.2.1
theorem dJ3_checkIndex_8e157_6 : decode cJ3_checkIndex_8e157 6 = .ok (.if_icmp .lt 10, 3) := dg_e65.2.2.2.2.1
theorem dJ3_checkIndex_8e157_9 : decode cJ3_checkIndex_8e157 9 = .ok (.aload_n 2, 1) := dg_e65.2.2.2.2.2.1
theorem dJ3_checkIndex_8e157_10 : decode cJ3_checkIndex_8e157 10 = .ok (.iload_n 0, 1) := dg_e65.2.2.2.2.2.2.1
theorem dJ3_checkIndex_8e157_11 : decode cJ3_checkIndex_8e157 11 = .ok (.iload_n 1, 1) := dg_e65.2.2.2.2.2.2.2.1
theorem dJ3_checkIndex_8e157_12 : decode cJ3_checkIndex_8e157 12 = .ok (.invokestatic 95, 3) := dg_e65.2.2.2.2.2.2.2.2.1
theorem dJ3_checkIndex_8e157_15 : decode cJ3_checkIndex_8e157 15 = .ok (.athrow, 1) := dg_e65.2.2.2.2.2.2.2.2.2.1
theorem dJ3_checkIndex_8e157_16 : decode cJ3_checkIndex_8e157 16 = .ok (.iload_n 0, 1) := dg_e65.2.2.2.2.2.2.2.2.2.2.1
theorem dJ3_checkIndex_8e157_17 : decode cJ3_checkIndex_8e157 17 = .ok (.ireturn, 1) := dg_e65.2.2.2.2.2.2.2.2.2.2.2
theorem dg_e66 : (decode cL_law 0 = .ok (.new 7, 3)) ∧ (decode cL_law 3 = .ok (.dup, 1)) ∧ (decode cL_law 4 = .ok (.invokespecial 9, 3)) ∧ (decode cL_law 7 = .ok (.astore_n 1, 1)) ∧ (decode cL_law 8 = .ok (.new 10, 3)) ∧ (decode cL_law 11 = .ok (.dup, 1)) ∧ (decode cL_law 12 = .ok (.invokespecial 12, 3)) ∧ (decode cL_law 15 = .ok (.astore_n 2, 1)) ∧ (decode cL_law 16 = .ok (.iconst 0, 1)) ∧ (decode cL_law 17 = .ok (.istore_n 3, 1)) ∧ (decode cL_law 18 = .ok (.iload_n 3, 1)) ∧ (decode cL_law 19 = .ok (.aload_n 0, 1)) ∧ (decode cL_law 20 = .ok (.arraylength, 1)) ∧ (decode cL_law 21 = .ok (.iconst 5, 1)) ∧ (decode cL_law 22 = .ok (.isub, 1)) ∧ (decode cL_law 23 = .ok (.if_icmp .gt 1264, 3)) := by decide +kernel
theorem dL_law_0 : decode cL_law 0 = .ok (.new 7, 3) := dg_e66.1
theorem dL_law_3 : decode cL_law 3 = .ok (.dup, 1) := dg_e66.2.1
theorem dL_law_4 : decode cL_law 4 = .ok (.invokespecial 9, 3) := dg_e66.2.2.1
theorem dL_law_7 : decode cL_law 7 = .ok (.astore_n 1, 1) := dg_e66.2.2.2.1
theorem dL_law_8 : decode cL_law 8 = .ok (.new 10, 3) := dg_e66.2.2.2.2.1
theorem dL_law_11 : decode cL_law 11 = .ok (.dup, 1) := dg_e66.2.2.2.2.2.1
theorem dL_law_12 : decode cL_law 12 = .ok (.invokespecial 12, 3) := dg_e66.2.2.2.2.2.2.1
theorem dL_law_15 : decode cL_law 15 = .ok (.astore_n 2, 1) := dg_e66.2.2.2.2.2.2.2.1
theorem dL_law_16 : decode cL_law 16 = .ok (.iconst 0, 1) := dg_e66.2.2.2.2.2.2.2.2.1
theorem dL_law_17 : decode cL_law 17 = .ok (.istore_n 3, 1) := dg_e66.2.2.2.2.2.2.2.2.2.1
theorem dL_law_18 : decode cL_law 18 = .ok (.iload_n 3, 1) := dg_e66.2.2.2.2.2.2.2.2.2.2.1
theorem dL_law_19 : decode cL_law 19 = .ok (.aload_n 0, 1) := dg_e66.2.2.2.2.2.2.2.2.2.2.2.1
theorem dL_law_20 : decode cL_law 20 = .ok (.arraylength, 1) := dg_e66.2.2.2.2.2.2.2.2.2.2.2.2.1
theorem dL_law_21 : decode cL_law 21 = .ok (.iconst 5, 1) := dg_e66.2.2.2.2.2.2.2.2.2.2.2.2.2.1
theorem dL_law_22 : decode cL_law 22 = .ok (.isub, 1) := dg_e66.2.2.2.2.2.2.2.2.2.2.2.2.2.2.1
theorem dL_law_23 : decode cL_law 23 = .ok (.if_icmp .gt 1264, 3) := dg_e66.2.2.2.2.2.2.2.2.2.2.2.2.2.2.2
theorem dg_e67 : (decode cL_law 26 = .ok (.aload_n 0, 1)) ∧ (decode cL_law 27 = .ok (.iload_n 3, 1)) ∧ (decode cL_law 28 = .ok (.iaload, 1)) ∧ (decode cL_law 29 = .ok (.bipush 63, 2)) ∧ (decode cL_law 31 = .ok (.iand, 1)) ∧ (decode cL_law 32 = .ok (.tableswitch 1249 0 39 #[176, 199, 222, 235, 248, 271, 304, 327, 350, 383, 432, 481, 514, 547, 570, 593, 616, 639, 662, 685, 698, 731, 754, 777, 790, 803, 837, 870, 903, 926, 949, 962, 985, 1028, 1051, 1074, 1117, 1160, 1213, 1226], 176)) ∧ (decode cL_law 208 = .ok (.aload_n 1, 1)) ∧ (decode cL_law 209 = .ok (.aload_n 0, 1)) ∧ (decode cL_law 210 = .ok (.iload_n 3, 1)) ∧ (decode cL_law 211 = .ok (.iconst 1, 1)) ∧ (decode cL_law 212 = .ok (.iadd, 1)) ∧ (decode cL_law 213 = .ok (.iaload, 1)) ∧ (decode cL_law 214 = .ok (.invokevirtual 13, 3)) ∧ (decode cL_law 217 = .ok (.pop, 1)) ∧ (decode cL_law 218 = .ok (.aload_n 2, 1)) ∧ (decode cL_law 219 = .ok (.aload_n 0, 1)) := by decide +kernel
theorem dL_law_26 : decode cL_law 26 = .ok (.aload_n 0, 1) := dg_e67.1
theorem dL_law_27 : decode cL_law 27 = .ok (.iload_n 3, 1) := dg_e67.2.1
theorem dL_law_28 : decode cL_law 28 = .ok (.iaload, 1) := dg_e67.2.2.1
theorem dL_law_29 : decode cL_law 29 = .ok (.bipush 63, 2) := dg_e67.2.2.2.1
theorem dL_law_31 : decode cL_law 31 = .ok (.iand, 1) := dg_e67.2.2.2.2.1
theorem dL_law_32 : decode cL_law 32 = .ok (.tableswitch 1249 0 39 #[176, 199, 222, 235, 248, 271, 304, 327, 350, 383, 432, 481, 514, 547, 570, 593, 616, 639, 662, 685, 698, 731, 754, 777, 790, 803, 837, 870, 903, 926, 949, 962, 985, 1028, 1051, 1074, 1117, 1160, 1213, 1226], 176) := dg_e67.2.2.2.2.2.1
theorem dL_law_208 : decode cL_law 208 = .ok (.aload_n 1, 1) := dg_e67.2.2.2.2.2.2.1
theorem dL_law_209 : decode cL_law 209 = .ok (.aload_n 0, 1) := dg_e67.2.2.2.2.2.2.2.1
theorem dL_law_210 : decode cL_law 210 = .ok (.iload_n 3, 1) := dg_e67.2.2.2.2.2.2.2.2.1
theorem dL_law_211 : decode cL_law 211 = .ok (.iconst 1, 1) := dg_e67.2.2.2.2.2.2.2.2.2.1
theorem dL_law_212 : decode cL_law 212 = .ok (.iadd, 1) := dg_e67.2.2.2.2.2.2.2.2.2.2.1
theorem dL_law_213 : decode cL_law 213 = .ok (.iaload, 1) := dg_e67.2.2.2.2.2.2.2.2.2.2.2.1
theorem dL_law_214 : decode cL_law 214 = .ok (.invokevirtual 13, 3) := dg_e67.2.2.2.2.2.2.2.2.2.2.2.2.1
theorem dL_law_217 : decode cL_law 217 = .ok (.pop, 1) := dg_e67.2.2.2.2.2.2.2.2.2.2.2.2.2.1
theorem dL_law_218 : decode cL_law 218 = .ok (.aload_n 2, 1) := dg_e67.2.2.2.2.2.2.2.2.2.2.2.2.2.2.1
theorem dL_law_219 : decode cL_law 219 = .ok (.aload_n 0, 1) := dg_e67.2.2.2.2.2.2.2.2.2.2.2.2.2.2.2
theorem dg_e68 : (decode cL_law 220 = .ok (.iload_n 3, 1)) ∧ (decode cL_law 221 = .ok (.iconst 1, 1)) ∧ (decode cL_law 222 = .ok (.iadd, 1)) ∧ (decode cL_law 223 = .ok (.iaload, 1)) ∧ (decode cL_law 224 = .ok (.invokevirtual 17, 3)) ∧ (decode cL_law 227 = .ok (.pop, 1)) ∧ (decode cL_law 228 = .ok (.goto 1053, 3)) ∧ (decode cL_law 231 = .ok (.aload_n 1, 1)) ∧ (decode cL_law 232 = .ok (.aload_n 0, 1)) ∧ (decode cL_law 233 = .ok (.iload_n 3, 1)) ∧ (decode cL_law 234 = .ok (.iconst 1, 1)) ∧ (decode cL_law 235 = .ok (.iadd, 1)) ∧ (decode cL_law 236 = .ok (.iaload, 1)) ∧ (decode cL_law 237 = .ok (.invokevirtual 18, 3)) ∧ (decode cL_law 240 = .ok (.pop, 1)) ∧ (decode cL_law 241 = .ok (.aload_n 2, 1)) := by decide +kernel
theorem dL_law_220 : decode cL_law 220 = .ok (.iload_n 3, 1) := dg_e68.1
theorem dL_law_221 : decode cL_law 221 = .ok (.iconst 1, 1) := dg_e68.2.1
theorem dL_law_222 : decode cL_law 222 = .ok (.iadd, 1) := dg_e68.2.2.1
theorem dL_law_223 : decode cL_law 223 = .ok (.iaload, 1) := dg_e68.2.2.2.1
theorem dL_law_224 : decode cL_law 224 = .ok (.invokevirtual 17, 3) := dg_e68.2.2.2.2.1
theorem dL_law_227 : decode cL_law 227 = .ok (.pop, 1) := dg_e68.2.2.2.2.2.1
theorem dL_law_228 : decode cL_law 228 = .ok (.goto 1053, 3) := dg_e68.2.2.2.2.2.2.1
theorem dL_law_231 : decode cL_law 231 = .ok (.aload_n 1, 1) := dg_e68.2.2.2.2.2.2.2.1
theorem dL_law_232 : decode cL_law 232 = .ok (.aload_n 0, 1) := dg_e68.2.2.2.2.2.2.2.2.1
theorem dL_law_233 : decode cL_law 233 = .ok (.iload_n 3, 1) := dg_e68.2.2.2.2.2.2.2.2.2.1
theorem dL_law_234 : decode cL_law 234 = .ok (.iconst 1, 1) := dg_e68.2.2.2.2.2.2.2.2.2.2.1
theorem dL_law_235 : decode cL_law 235 = .ok (.iadd, 1) := dg_e68.2.2.2.2.2.2.2.2.2.2.2.1
theorem dL_law_236 : decode cL_law 236 = .ok (.iaload, 1) := dg_e68.2.2.2.2.2.2.2.2.2.2.2.2.1
theorem dL_law_237 : decode cL_law 237 = .ok (.invokevirtual 18, 3) := dg_e68.2.2.2.2.2.2.2.2.2.2.2.2.2.1
theorem dL_law_240 : decode cL_law 240 = .ok (.pop, 1) := dg_e68.2.2.2.2.2.2.2.2.2.2.2.2.2.2.1
theorem dL_law_241 : decode cL_law 241 = .ok (.aload_n 2, 1) := dg_e68.2.2.2.2.2.2.2.2.2.2.2.2.2.2.2
theorem dg_e69 : (decode cL_law 242 = .ok (.aload_n 0, 1)) ∧ (decode cL_law 243 = .ok (.iload_n 3, 1)) ∧ (decode cL_law 244 = .ok (.iconst 1, 1)) ∧ (decode cL_law 245 = .ok (.iadd, 1)) ∧ (decode cL_law 246 = .ok (.iaload, 1)) ∧ (decode cL_law 247 = .ok (.invokevirtual 21, 3)) ∧ (decode cL_law 250 = .ok (.pop, 1)) ∧ (decode cL_law 251 = .ok (.goto 1030, 3)) ∧ (decode cL_law 254 = .ok (.aload_n 1, 1)) ∧ (decode cL_law 255 = .ok (.invokevirtual 22, 3)) ∧ (decode cL_law 258 = .ok (.pop, 1)) ∧ (decode cL_law 259 = .ok (.aload_n 2, 1)) ∧ (decode cL_law 260 = .ok (.invokevirtual 26, 3)) ∧ (decode cL_law 263 = .ok (.pop, 1)) ∧ (decode cL_law 264 = .ok (.goto 1017, 3)) ∧ (decode cL_law 267 = .ok (.aload_n 1, 1)) := by decide +kernel
theorem dL_law_242 : decode cL_law 242 = .ok (.aload_n 0, 1) := dg_e69.1
theorem dL_law_243 : decode cL_law 243 = .ok (.iload_n 3, 1) := dg_e69.2.1
theorem dL_law_244 : decode cL_law 244 = .ok (.iconst 1, 1) := dg_e69.2.2.1
theorem dL_law_245 : decode cL_law 245 = .ok (.iadd, 1) := dg_e69.2.2.2.1
theorem dL_law_246 : decode cL_law 246 = .ok (.iaload, 1) := dg_e69.2.2.2.2.1
theorem dL_law_247 : decode cL_law 247 = .ok (.invokevirtual 21, 3) := dg_e69.2.2.2.2.2.1
theorem dL_law_250 : decode cL_law 250 = .ok (.pop, 1) := dg_e69.2.2.2.2.2.2.1
theorem dL_law_251 : decode cL_law 251 = .ok (.goto 1030, 3) := dg_e69.2.2.2.2.2.2.2.1
theorem dL_law_254 : decode cL_law 254 = .ok (.aload_n 1, 1) := dg_e69.2.2.2.2.2.2.2.2.1
theorem dL_law_255 : decode cL_law 255 = .ok (.invokevirtual 22, 3) := dg_e69.2.2.2.2.2.2.2.2.2.1
theorem dL_law_258 : decode cL_law 258 = .ok (.pop, 1) := dg_e69.2.2.2.2.2.2.2.2.2.2.1
theorem dL_law_259 : decode cL_law 259 = .ok (.aload_n 2, 1) := dg_e69.2.2.2.2.2.2.2.2.2.2.2.1
theorem dL_law_260 : decode cL_law 260 = .ok (.invokevirtual 26, 3) := dg_e69.2.2.2.2.2.2.2.2.2.2.2.2.1
theorem dL_law_263 : decode cL_law 263 = .ok (.pop, 1) := dg_e69.2.2.2.2.2.2.2.2.2.2.2.2.2.1
theorem dL_law_264 : decode cL_law 264 = .ok (.goto 1017, 3) := dg_e69.2.2.2.2.2.2.2.2.2.2.2.2.2.2.1
theorem dL_law_267 : decode cL_law 267 = .ok (.aload_n 1, 1) := dg_e69.2.2.2.2.2.2.2.2.2.2.2.2.2.2.2
theorem dg_e70 : (decode cL_law 268 = .ok (.invokevirtual 27, 3)) ∧ (decode cL_law 271 = .ok (.pop, 1)) ∧ (decode cL_law 272 = .ok (.aload_n 2, 1)) ∧ (decode cL_law 273 = .ok (.invokevirtual 30, 3)) ∧ (decode cL_law 276 = .ok (.pop, 1)) ∧ (decode cL_law 277 = .ok (.goto 1004, 3)) ∧ (decode cL_law 280 = .ok (.aload_n 1, 1)) ∧ (decode cL_law 281 = .ok (.aload_n 0, 1)) ∧ (decode cL_law 282 = .ok (.iload_n 3, 1)) ∧ (decode cL_law 283 = .ok (.iconst 1, 1)) ∧ (decode cL_law 284 = .ok (.iadd, 1)) ∧ (decode cL_law 285 = .ok (.iaload, 1)) ∧ (decode cL_law 286 = .ok (.invokevirtual 31, 3)) ∧ (decode cL_law 289 = .ok (.pop, 1)) ∧ (decode cL_law 290 = .ok (.aload_n 2, 1)) ∧ (decode cL_law 291 = .ok (.aload_n 0, 1)) := by decide +kernel
theorem dL_law_268 : decode cL_law 268 = .ok (.invokevirtual 27, 3) := dg_e70.1
theorem dL_law_271 : decode cL_law 271 = .ok (.pop, 1) := dg_e70.2.1
theorem dL_law_272 : decode cL_law 272 = .ok (.aload_n 2, 1) := dg_e70.2.2.1
theorem dL_law_273 : decode cL_law 273 = .ok (.invokevirtual 30, 3) := dg_e70.2.2.2.1
theorem dL_law_276 : decode cL_law 276 = .ok (.pop, 1) := dg_e70.2.2.2.2.1
theorem dL_law_277 : decode cL_law 277 = .ok (.goto 1004, 3) := dg_e70.2.2.2.2.2.1
theorem dL_law_280 : decode cL_law 280 = .ok (.aload_n 1, 1) := dg_e70.2.2.2.2.2.2.1
theorem dL_law_281 : decode cL_law 281 = .ok (.aload_n 0, 1) := dg_e70.2.2.2.2.2.2.2.1
theorem dL_law_282 : decode cL_law 282 = .ok (.iload_n 3, 1) := dg_e70.2.2.2.2.2.2.2.2.1
theorem dL_law_283 : decode cL_law 283 = .ok (.iconst 1, 1) := dg_e70.2.2.2.2.2.2.2.2.2.1
theorem dL_law_284 : decode cL_law 284 = .ok (.iadd, 1) := dg_e70.2.2.2.2.2.2.2.2.2.2.1
theorem dL_law_285 : decode cL_law 285 = .ok (.iaload, 1) := dg_e70.2.2.2.2.2.2.2.2.2.2.2.1
theorem dL_law_286 : decode cL_law 286 = .ok (.invokevirtual 31, 3) := dg_e70.2.2.2.2.2.2.2.2.2.2.2.2.1
theorem dL_law_289 : decode cL_law 289 = .ok (.pop, 1) := dg_e70.2.2.2.2.2.2.2.2.2.2.2.2.2.1
theorem dL_law_290 : decode cL_law 290 = .ok (.aload_n 2, 1) := dg_e70.2.2.2.2.2.2.2.2.2.2.2.2.2.2.1
theorem dL_law_291 : decode cL_law 291 = .ok (.aload_n 0, 1) := dg_e70.2.2.2.2.2.2.2.2.2.2.2.2.2.2.2
theorem dg_e71 : (decode cL_law 292 = .ok (.iload_n 3, 1)) ∧ (decode cL_law 293 = .ok (.iconst 1, 1)) ∧ (decode cL_law 294 = .ok (.iadd, 1)) ∧ (decode cL_law 295 = .ok (.iaload, 1)) ∧ (decode cL_law 296 = .ok (.invokevirtual 34, 3)) ∧ (decode cL_law 299 = .ok (.pop, 1)) ∧ (decode cL_law 300 = .ok (.goto 981, 3)) ∧ (decode cL_law 303 = .ok (.aload_n 1, 1)) ∧ (decode cL_law 304 = .ok (.aload_n 0, 1)) ∧ (decode cL_law 305 = .ok (.iload_n 3, 1)) ∧ (decode cL_law 306 = .ok (.iconst 1, 1)) ∧ (decode cL_law 307 = .ok (.iadd, 1)) ∧ (decode cL_law 308 = .ok (.iaload, 1)) ∧ (decode cL_law 309 = .ok (.aload_n 0, 1)) ∧ (decode cL_law 310 = .ok (.iload_n 3, 1)) ∧ (decode cL_law 311 = .ok (.iconst 2, 1)) := by decide +kernel
theorem dL_law_292 : decode cL_law 292 = .ok (.iload_n 3, 1) := dg_e71.1
theorem dL_law_293 : decode cL_law 293 = .ok (.iconst 1, 1) := dg_e71.2.1
theorem dL_law_294 : decode cL_law 294 = .ok (.iadd, 1) := dg_e71.2.2.1
theorem dL_law_295 : decode cL_law 295 = .ok (.iaload, 1) := dg_e71.2.2.2.1
theorem dL_law_296 : decode cL_law 296 = .ok (.invokevirtual 34, 3) := dg_e71.2.2.2.2.1
theorem dL_law_299 : decode cL_law 299 = .ok (.pop, 1) := dg_e71.2.2.2.2.2.1
theorem dL_law_300 : decode cL_law 300 = .ok (.goto 981, 3) := dg_e71.2.2.2.2.2.2.1
theorem dL_law_303 : decode cL_law 303 = .ok (.aload_n 1, 1) := dg_e71.2.2.2.2.2.2.2.1
theorem dL_law_304 : decode cL_law 304 = .ok (.aload_n 0, 1) := dg_e71.2.2.2.2.2.2.2.2.1
theorem dL_law_305 : decode cL_law 305 = .ok (.iload_n 3, 1) := dg_e71.2.2.2.2.2.2.2.2.2.1
theorem dL_law_306 : decode cL_law 306 = .ok (.iconst 1, 1) := dg_e71.2.2.2.2.2.2.2.2.2.2.1
theorem dL_law_307 : decode cL_law 307 = .ok (.iadd, 1) := dg_e71.2.2.2.2.2.2.2.2.2.2.2.1
theorem dL_law_308 : decode cL_law 308 = .ok (.iaload, 1) := dg_e71.2.2.2.2.2.2.2.2.2.2.2.2.1
theorem dL_law_309 : decode cL_law 309 = .ok (.aload_n 0, 1) := dg_e71.2.2.2.2.2.2.2.2.2.2.2.2.2.1
theorem dL_law_310 : decode cL_law 310 = .ok (.iload_n 3, 1) := dg_e71.2.2.2.2.2.2.2.2.2.2.2.2.2.2.1
theorem dL_law_311 : decode cL_law 311 = .ok (.iconst 2, 1) := dg_e71.2.2.2.2.2.2.2.2.2.2.2.2.2.2.2
theorem dg_e72 : (decode cL_law 312 = .ok (.iadd, 1)) ∧ (decode cL_law 313 = .ok (.iaload, 1)) ∧ (decode cL_law 314 = .ok (.invokevirtual 35, 3)) ∧ (decode cL_law 317 = .ok (.pop, 1)) ∧ (decode cL_law 318 = .ok (.aload_n 2, 1)) ∧ (decode cL_law 319 = .ok (.aload_n 0, 1)) ∧ (decode cL_law 320 = .ok (.iload_n 3, 1)) ∧ (decode cL_law 321 = .ok (.iconst 1, 1)) ∧ (decode cL_law 322 = .ok (.iadd, 1)) ∧ (decode cL_law 323 = .ok (.iaload, 1)) ∧ (decode cL_law 324 = .ok (.aload_n 0, 1)) ∧ (decode cL_law 325 = .ok (.iload_n 3, 1)) ∧ (decode cL_law 326 = .ok (.iconst 2, 1)) ∧ (decode cL_law 327 = .ok (.iadd, 1)) ∧ (decode cL_law 328 = .ok (.iaload, 1)) ∧ (decode cL_law 329 = .ok (.invokevirtual 39, 3)) := by decide +kernel
theorem dL_law_312 : decode cL_law 312 = .ok (.iadd, 1) := dg_e72.1
theorem dL_law_313 : decode cL_law 313 = .ok (.iaload, 1) := dg_e72.2.1
theorem dL_law_314 : decode cL_law 314 = .ok (.invokevirtual 35, 3) := dg_e72.2.2.1
theorem dL_law_317 : decode cL_law 317 = .ok (.pop, 1) := dg_e72.2.2.2.1
theorem dL_law_318 : decode cL_law 318 = .ok (.aload_n 2, 1) := dg_e72.2.2.2.2.1
theorem dL_law_319 : decode cL_law 319 = .ok (.aload_n 0, 1) := dg_e72.2.2.2.2.2.1
theorem dL_law_320 : decode cL_law 320 = .ok (.iload_n 3, 1) := dg_e72.2.2.2.2.2.2.1
theorem dL_law_321 : decode cL_law 321 = .ok (.iconst 1, 1) := dg_e72.2.2.2.2.2.2.2.1
theorem dL_law_322 : decode cL_law 322 = .ok (.iadd, 1) := dg_e72.2.2.2.2.2.2.2.2.1
theorem dL_law_323 : decode cL_law 323 = .ok (.iaload, 1) := dg_e72.2.2.2.2.2.2.2.2.2.1
theorem dL_law_324 : decode cL_law 324 = .ok (.aload_n 0, 1) := dg_e72.2.2.2.2.2.2.2.2.2.2.1
theorem dL_law_325 : decode cL_law 325 = .ok (.iload_n 3, 1) := dg_e72.2.2.2.2.2.2.2.2.2.2.2.1
theorem dL_law_326 : decode cL_law 326 = .ok (.iconst 2, 1) := dg_e72.2.2.2.2.2.2.2.2.2.2.2.2.1
theorem dL_law_327 : decode cL_law 327 = .ok (.iadd, 1) := dg_e72.2.2.2.2.2.2.2.2.2.2.2.2.2.1
theorem dL_law_328 : decode cL_law 328 = .ok (.iaload, 1) := dg_e72.2.2.2.2.2.2.2.2.2.2.2.2.2.2.1
theorem dL_law_329 : decode cL_law 329 = .ok (.invokevirtual 39, 3) := dg_e72.2.2.2.2.2.2.2.2.2.2.2.2.2.2.2
theorem dg_e73 : (decode cL_law 332 = .ok (.pop, 1)) ∧ (decode cL_law 333 = .ok (.goto 948, 3)) ∧ (decode cL_law 336 = .ok (.aload_n 1, 1)) ∧ (decode cL_law 337 = .ok (.aload_n 0, 1)) ∧ (decode cL_law 338 = .ok (.iload_n 3, 1)) ∧ (decode cL_law 339 = .ok (.iconst 1, 1)) ∧ (decode cL_law 340 = .ok (.iadd, 1)) ∧ (decode cL_law 341 = .ok (.iaload, 1)) ∧ (decode cL_law 342 = .ok (.invokevirtual 40, 3)) ∧ (decode cL_law 345 = .ok (.pop, 1)) ∧ (decode cL_law 346 = .ok (.aload_n 2, 1)) ∧ (decode cL_law 347 = .ok (.aload_n 0, 1)) ∧ (decode cL_law 348 = .ok (.iload_n 3, 1)) ∧ (decode cL_law 349 = .ok (.iconst 1, 1)) ∧ (decode cL_law 350 = .ok (.iadd, 1)) ∧ (decode cL_law 351 = .ok (.iaload, 1)) := by decide +kernel
theorem dL_law_332 : decode cL_law 332 = .ok (.pop, 1) := dg_e73.1
theorem dL_law_333 : decode cL_law 333 = .ok (.goto 948, 3) := dg_e73.2.1
theorem dL_law_336 : decode cL_law 336 = .ok (.aload_n 1, 1) := dg_e73.2.2.1
theorem dL_law_337 : decode cL_law 337 = .ok (.aload_n 0, 1) := dg_e73.2.2.2.1
theorem dL_law_338 : decode cL_law 338 = .ok (.iload_n 3, 1) := dg_e73.2.2.2.2.1
theorem dL_law_339 : decode cL_law 339 = .ok (.iconst 1, 1) := dg_e73.2.2.2.2.2.1
theorem dL_law_340 : decode cL_law 340 = .ok (.iadd, 1) := dg_e73.2.2.2.2.2.2.1
theorem dL_law_341 : decode cL_law 341 = .ok (.iaload, 1) := dg_e73.2.2.2.2.2.2.2.1
theorem dL_law_342 : decode cL_law 342 = .ok (.invokevirtual 40, 3) := dg_e73.2.2.2.2.2.2.2.2.1
theorem dL_law_345 : decode cL_law 345 = .ok (.pop, 1) := dg_e73.2.2.2.2.2.2.2.2.2.1
theorem dL_law_346 : decode cL_law 346 = .ok (.aload_n 2, 1) := dg_e73.2.2.2.2.2.2.2.2.2.2.1
theorem dL_law_347 : decode cL_law 347 = .ok (.aload_n 0, 1) := dg_e73.2.2.2.2.2.2.2.2.2.2.2.1
theorem dL_law_348 : decode cL_law 348 = .ok (.iload_n 3, 1) := dg_e73.2.2.2.2.2.2.2.2.2.2.2.2.1
theorem dL_law_349 : decode cL_law 349 = .ok (.iconst 1, 1) := dg_e73.2.2.2.2.2.2.2.2.2.2.2.2.2.1
theorem dL_law_350 : decode cL_law 350 = .ok (.iadd, 1) := dg_e73.2.2.2.2.2.2.2.2.2.2.2.2.2.2.1
theorem dL_law_351 : decode cL_law 351 = .ok (.iaload, 1) := dg_e73.2.2.2.2.2.2.2.2.2.2.2.2.2.2.2
theorem dg_e74 : (decode cL_law 352 = .ok (.invokevirtual 43, 3)) ∧ (decode cL_law 355 = .ok (.pop, 1)) ∧ (decode cL_law 356 = .ok (.goto 925, 3)) ∧ (decode cL_law 359 = .ok (.aload_n 1, 1)) ∧ (decode cL_law 360 = .ok (.aload_n 0, 1)) ∧ (decode cL_law 361 = .ok (.iload_n 3, 1)) ∧ (decode cL_law 362 = .ok (.iconst 1, 1)) ∧ (decode cL_law 363 = .ok (.iadd, 1)) ∧ (decode cL_law 364 = .ok (.iaload, 1)) ∧ (decode cL_law 365 = .ok (.invokevirtual 44, 3)) ∧ (decode cL_law 368 = .ok (.pop, 1)) ∧ (decode cL_law 369 = .ok (.aload_n 2, 1)) ∧ (decode cL_law 370 = .ok (.aload_n 0, 1)) ∧ (decode cL_law 371 = .ok (.iload_n 3, 1)) ∧ (decode cL_law 372 = .ok (.iconst 1, 1)) ∧ (decode cL_law 373 = .ok (.iadd, 1)) := by decide +kernel
theorem dL_law_352 : decode cL_law 352 = .ok (.invokevirtual 43, 3) := dg_e74.1
theorem dL_law_355 : decode cL_law 355 = .ok (.pop, 1) := dg_e74.2.1
theorem dL_law_356 : decode cL_law 356 = .ok (.goto 925, 3) := dg_e74.2.2.1
theorem dL_law_359 : decode cL_law 359 = .ok (.aload_n 1, 1) := dg_e74.2.2.2.1
theorem dL_law_360 : decode cL_law 360 = .ok (.aload_n 0, 1) := dg_e74.2.2.2.2.1
theorem dL_law_361 : decode cL_law 361 = .ok (.iload_n 3, 1) := dg_e74.2.2.2.2.2.1
theorem dL_law_362 : decode cL_law 362 = .ok (.iconst 1, 1) := dg_e74.2.2.2.2.2.2.1
theorem dL_law_363 : decode cL_law 363 = .ok (.iadd, 1) := dg_e74.2.2.2.2.2.2.2.1
theorem dL_law_364 : decode cL_law 364 = .ok (.iaload, 1) := dg_e74.2.2.2.2.2.2.2.2.1
theorem dL_law_365 : decode cL_law 365 = .ok (.invokevirtual 44, 3) := dg_e74.2.2.2.2.2.2.2.2.2.1
theorem dL_law_368 : decode cL_law 368 = .ok (.pop, 1) := dg_e74.2.2.2.2.2.2.2.2.2.2.1
theorem dL_law_369 : decode cL_law 369 = .ok (.aload_n 2, 1) := dg_e74.2.2.2.2.2.2.2.2.2.2.2.1
theorem dL_law_370 : decode cL_law 370 = .ok (.aload_n 0, 1) := dg_e74.2.2.2.2.2.2.2.2.2.2.2.2.1
theorem dL_law_371 : decode cL_law 371 = .ok (.iload_n 3, 1) := dg_e74.2.2.2.2.2.2.2.2.2.2.2.2.2.1
theorem dL_law_372 : decode cL_law 372 = .ok (.iconst 1, 1) := dg_e74.2.2.2.2.2.2.2.2.2.2.2.2.2.2.1
theorem dL_law_373 : decode cL_law 373 = .ok (.iadd, 1) := dg_e74.2.2.2.2.2.2.2.2.2.2.2.2.2.2.2
theorem dg_e75 : (decode cL_law 374 = .ok (.iaload, 1)) ∧ (decode cL_law 375 = .ok (.invokevirtual 47, 3)) ∧ (decode cL_law 378 = .ok (.pop, 1)) ∧ (decode cL_law 379 = .ok (.goto 902, 3)) ∧ (decode cL_law 382 = .ok (.aload_n 1, 1)) ∧ (decode cL_law 383 = .ok (.aload_n 0, 1)) ∧ (decode cL_law 384 = .ok (.iload_n 3, 1)) ∧ (decode cL_law 385 = .ok (.iconst 1, 1)) ∧ (decode cL_law 386 = .ok (.iadd, 1)) ∧ (decode cL_law 387 = .ok (.iaload, 1)) ∧ (decode cL_law 388 = .ok (.aload_n 0, 1)) ∧ (decode cL_law 389 = .ok (.iload_n 3, 1)) ∧ (decode cL_law 390 = .ok (.iconst 2, 1)) ∧ (decode cL_law 391 = .ok (.iadd, 1)) ∧ (decode cL_law 392 = .ok (.iaload, 1)) ∧ (decode cL_law 393 = .ok (.invokevirtual 48, 3)) := by decide +kernel
theorem dL_law_374 : decode cL_law 374 = .ok (.iaload, 1) := dg_e75.1
theorem dL_law_375 : decode cL_law 375 = .ok (.invokevirtual 47, 3) := dg_e75.2.1
theorem dL_law_378 : decode cL_law 378 = .ok (.pop, 1) := dg_e75.2.2.1
theorem dL_law_379 : decode cL_law 379 = .ok (.goto 902, 3) := dg_e75.2.2.2.1
theorem dL_law_382 : decode cL_law 382 = .ok (.aload_n 1, 1) := dg_e75.2.2.2.2.1
theorem dL_law_383 : decode cL_law 383 = .ok (.aload_n 0, 1) := dg_e75.2.2.2.2.2.1
theorem dL_law_384 : decode cL_law 384 = .ok (.iload_n 3, 1) := dg_e75.2.2.2.2.2.2.1
theorem dL_law_385 : decode cL_law 385 = .ok (.iconst 1, 1) := dg_e75.2.2.2.2.2.2.2.1
theorem dL_law_386 : decode cL_law 386 = .ok (.iadd, 1) := dg_e75.2.2.2.2.2.2.2.2.1
theorem dL_law_387 : decode cL_law 387 = .ok (.iaload, 1) := dg_e75.2.2.2.2.2.2.2.2.2.1
theorem dL_law_388 : decode cL_law 388 = .ok (.aload_n 0, 1) := dg_e75.2.2.2.2.2.2.2.2.2.2.1
theorem dL_law_389 : decode cL_law 389 = .ok (.iload_n 3, 1) := dg_e75.2.2.2.2.2.2.2.2.2.2.2.1
theorem dL_law_390 : decode cL_law 390 = .ok (.iconst 2, 1) := dg_e75.2.2.2.2.2.2.2.2.2.2.2.2.1
theorem dL_law_391 : decode cL_law 391 = .ok (.iadd, 1) := dg_e75.2.2.2.2.2.2.2.2.2.2.2.2.2.1
theorem dL_law_392 : decode cL_law 392 = .ok (.iaload, 1) := dg_e75.2.2.2.2.2.2.2.2.2.2.2.2.2.2.1
theorem dL_law_393 : decode cL_law 393 = .ok (.invokevirtual 48, 3) := dg_e75.2.2.2.2.2.2.2.2.2.2.2.2.2.2.2
theorem dg_e76 : (decode cL_law 396 = .ok (.pop, 1)) ∧ (decode cL_law 397 = .ok (.aload_n 2, 1)) ∧ (decode cL_law 398 = .ok (.aload_n 0, 1)) ∧ (decode cL_law 399 = .ok (.iload_n 3, 1)) ∧ (decode cL_law 400 = .ok (.iconst 1, 1)) ∧ (decode cL_law 401 = .ok (.iadd, 1)) ∧ (decode cL_law 402 = .ok (.iaload, 1)) ∧ (decode cL_law 403 = .ok (.aload_n 0, 1)) ∧ (decode cL_law 404 = .ok (.iload_n 3, 1)) ∧ (decode cL_law 405 = .ok (.iconst 2, 1)) ∧ (decode cL_law 406 = .ok (.iadd, 1)) ∧ (decode cL_law 407 = .ok (.iaload, 1)) ∧ (decode cL_law 408 = .ok (.invokevirtual 51, 3)) ∧ (decode cL_law 411 = .ok (.pop, 1)) ∧ (decode cL_law 412 = .ok (.goto 869, 3)) ∧ (decode cL_law 415 = .ok (.aload_n 1, 1)) := by decide +kernel
theorem dL_law_396 : decode cL_law 396 = .ok (.pop, 1) := dg_e76.1
theorem dL_law_397 : decode cL_law 397 = .ok (.aload_n 2, 1) := dg_e76.2.1
theorem dL_law_398 : decode cL_law 398 = .ok (.aload_n 0, 1) := dg_e76.2.2.1
theorem dL_law_399 : decode cL_law 399 = .ok (.iload_n 3, 1) := dg_e76.2.2.2.1
theorem dL_law_400 : decode cL_law 400 = .ok (.iconst 1, 1) := dg_e76.2.2.2.2.1
theorem dL_law_401 : decode cL_law 401 = .ok (.iadd, 1) := dg_e76.2.2.2.2.2.1
theorem dL_law_402 : decode cL_law 402 = .ok (.iaload, 1) := dg_e76.2.2.2.2.2.2.1
theorem dL_law_403 : decode cL_law 403 = .ok (.aload_n 0, 1) := dg_e76.2.2.2.2.2.2.2.1
theorem dL_law_404 : decode cL_law 404 = .ok (.iload_n 3, 1) := dg_e76.2.2.2.2.2.2.2.2.1
theorem dL_law_405 : decode cL_law 405 = .ok (.iconst 2, 1) := dg_e76.2.2.2.2.2.2.2.2.2.1
theorem dL_law_406 : decode cL_law 406 = .ok (.iadd, 1) := dg_e76.2.2.2.2.2.2.2.2.2.2.1
theorem dL_law_407 : decode cL_law 407 = .ok (.iaload, 1) := dg_e76.2.2.2.2.2.2.2.2.2.2.2.1
theorem dL_law_408 : decode cL_law 408 = .ok (.invokevirtual 51, 3) := dg_e76.2.2.2.2.2.2.2.2.2.2.2.2.1
theorem dL_law_411 : decode cL_law 411 = .ok (.pop, 1) := dg_e76.2.2.2.2.2.2.2.2.2.2.2.2.2.1
theorem dL_law_412 : decode cL_law 412 = .ok (.goto 869, 3) := dg_e76.2.2.2.2.2.2.2.2.2.2.2.2.2.2.1
theorem dL_law_415 : decode cL_law 415 = .ok (.aload_n 1, 1) := dg_e76.2.2.2.2.2.2.2.2.2.2.2.2.2.2.2
theorem dg_e77 : (decode cL_law 416 = .ok (.aload_n 0, 1)) ∧ (decode cL_law 417 = .ok (.iload_n 3, 1)) ∧ (decode cL_law 418 = .ok (.iconst 1, 1)) ∧ (decode cL_law 419 = .ok (.iadd, 1)) ∧ (decode cL_law 420 = .ok (.iaload, 1)) ∧ (decode cL_law 421 = .ok (.aload_n 0, 1)) ∧ (decode cL_law 422 = .ok (.iload_n 3, 1)) ∧ (decode cL_law 423 = .ok (.iconst 2, 1)) ∧ (decode cL_law 424 = .ok (.iadd, 1)) ∧ (decode cL_law 425 = .ok (.iaload, 1)) ∧ (decode cL_law 426 = .ok (.ifCond .eq 7, 3)) ∧ (decode cL_law 429 = .ok (.iconst 1, 1)) ∧ (decode cL_law 430 = .ok (.goto 4, 3)) ∧ (decode cL_law 433 = .ok (.iconst 0, 1)) ∧ (decode cL_law 434 = .ok (.invokevirtual 52, 3)) ∧ (decode cL_law 437 = .ok (.pop, 1)) := by decide +kernel
theorem dL_law_416 : decode cL_law 416 = .ok (.aload_n 0, 1) := dg_e77.1
theorem dL_law_417 : decode cL_law 417 = .ok (.iload_n 3, 1) := dg_e77.2.1
theorem dL_law_418 : decode cL_law 418 = .ok (.iconst 1, 1) := dg_e77.2.2.1
theorem dL_law_419 : decode cL_law 419 = .ok (.iadd, 1) := dg_e77.2.2.2.1
theorem dL_law_420 : decode cL_law 420 = .ok (.iaload, 1) := dg_e77.2.2.2.2.1
theorem dL_law_421 : decode cL_law 421 = .ok (.aload_n 0, 1) := dg_e77.2.2.2.2.2.1
theorem dL_law_422 : decode cL_law 422 = .ok (.iload_n 3, 1) := dg_e77.2.2.2.2.2.2.1
theorem dL_law_423 : decode cL_law 423 = .ok (.iconst 2, 1) := dg_e77.2.2.2.2.2.2.2.1
theorem dL_law_424 : decode cL_law 424 = .ok (.iadd, 1) := dg_e77.2.2.2.2.2.2.2.2.1
theorem dL_law_425 : decode cL_law 425 = .ok (.iaload, 1) := dg_e77.2.2.2.2.2.2.2.2.2.1
theorem dL_law_426 : decode cL_law 426 = .ok (.ifCond .eq 7, 3) := dg_e77.2.2.2.2.2.2.2.2.2.2.1
theorem dL_law_429 : decode cL_law 429 = .ok (.iconst 1, 1) := dg_e77.2.2.2.2.2.2.2.2.2.2.2.1
theorem dL_law_430 : decode cL_law 430 = .ok (.goto 4, 3) := dg_e77.2.2.2.2.2.2.2.2.2.2.2.2.1
theorem dL_law_433 : decode cL_law 433 = .ok (.iconst 0, 1) := dg_e77.2.2.2.2.2.2.2.2.2.2.2.2.2.1
theorem dL_law_434 : decode cL_law 434 = .ok (.invokevirtual 52, 3) := dg_e77.2.2.2.2.2.2.2.2.2.2.2.2.2.2.1
theorem dL_law_437 : decode cL_law 437 = .ok (.pop, 1) := dg_e77.2.2.2.2.2.2.2.2.2.2.2.2.2.2.2
theorem dg_e78 : (decode cL_law 438 = .ok (.aload_n 2, 1)) ∧ (decode cL_law 439 = .ok (.aload_n 0, 1)) ∧ (decode cL_law 440 = .ok (.iload_n 3, 1)) ∧ (decode cL_law 441 = .ok (.iconst 1, 1)) ∧ (decode cL_law 442 = .ok (.iadd, 1)) ∧ (decode cL_law 443 = .ok (.iaload, 1)) ∧ (decode cL_law 444 = .ok (.aload_n 0, 1)) ∧ (decode cL_law 445 = .ok (.iload_n 3, 1)) ∧ (decode cL_law 446 = .ok (.iconst 2, 1)) ∧ (decode cL_law 447 = .ok (.iadd, 1)) ∧ (decode cL_law 448 = .ok (.iaload, 1)) ∧ (decode cL_law 449 = .ok (.ifCond .eq 7, 3)) ∧ (decode cL_law 452 = .ok (.iconst 1, 1)) ∧ (decode cL_law 453 = .ok (.goto 4, 3)) ∧ (decode cL_law 456 = .ok (.iconst 0, 1)) ∧ (decode cL_law 457 = .ok (.invokevirtual 56, 3)) := by decide +kernel
theorem dL_law_438 : decode cL_law 438 = .ok (.aload_n 2, 1) := dg_e78.1
theorem dL_law_439 : decode cL_law 439 = .ok (.aload_n 0, 1) := dg_e78.2.1
theorem dL_law_440 : decode cL_law 440 = .ok (.iload_n 3, 1) := dg_e78.2.2.1
theorem dL_law_441 : decode cL_law 441 = .ok (.iconst 1, 1) := dg_e78.2.2.2.1
theorem dL_law_442 : decode cL_law 442 = .ok (.iadd, 1) := dg_e78.2.2.2.2.1
theorem dL_law_443 : decode cL_law 443 = .ok (.iaload, 1) := dg_e78.2.2.2.2.2.1
theorem dL_law_444 : decode cL_law 444 = .ok (.aload_n 0, 1) := dg_e78.2.2.2.2.2.2.1
theorem dL_law_445 : decode cL_law 445 = .ok (.iload_n 3, 1) := dg_e78.2.2.2.2.2.2.2.1
theorem dL_law_446 : decode cL_law 446 = .ok (.iconst 2, 1) := dg_e78.2.2.2.2.2.2.2.2.1
theorem dL_law_447 : decode cL_law 447 = .ok (.iadd, 1) := dg_e78.2.2.2.2.2.2.2.2.2.1
theorem dL_law_448 : decode cL_law 448 = .ok (.iaload, 1) := dg_e78.2.2.2.2.2.2.2.2.2.2.1
theorem dL_law_449 : decode cL_law 449 = .ok (.ifCond .eq 7, 3) := dg_e78.2.2.2.2.2.2.2.2.2.2.2.1
theorem dL_law_452 : decode cL_law 452 = .ok (.iconst 1, 1) := dg_e78.2.2.2.2.2.2.2.2.2.2.2.2.1
theorem dL_law_453 : decode cL_law 453 = .ok (.goto 4, 3) := dg_e78.2.2.2.2.2.2.2.2.2.2.2.2.2.1
theorem dL_law_456 : decode cL_law 456 = .ok (.iconst 0, 1) := dg_e78.2.2.2.2.2.2.2.2.2.2.2.2.2.2.1
theorem dL_law_457 : decode cL_law 457 = .ok (.invokevirtual 56, 3) := dg_e78.2.2.2.2.2.2.2.2.2.2.2.2.2.2.2
theorem dg_e79 : (decode cL_law 460 = .ok (.pop, 1)) ∧ (decode cL_law 461 = .ok (.goto 820, 3)) ∧ (decode cL_law 464 = .ok (.aload_n 1, 1)) ∧ (decode cL_law 465 = .ok (.aload_n 0, 1)) ∧ (decode cL_law 466 = .ok (.iload_n 3, 1)) ∧ (decode cL_law 467 = .ok (.iconst 1, 1)) ∧ (decode cL_law 468 = .ok (.iadd, 1)) ∧ (decode cL_law 469 = .ok (.iaload, 1)) ∧ (decode cL_law 470 = .ok (.aload_n 0, 1)) ∧ (decode cL_law 471 = .ok (.iload_n 3, 1)) ∧ (decode cL_law 472 = .ok (.iconst 2, 1)) ∧ (decode cL_law 473 = .ok (.iadd, 1)) ∧ (decode cL_law 474 = .ok (.iaload, 1)) ∧ (decode cL_law 475 = .ok (.ifCond .eq 7, 3)) ∧ (decode cL_law 478 = .ok (.iconst 1, 1)) ∧ (decode cL_law 479 = .ok (.goto 4, 3)) := by decide +kernel
theorem dL_law_460 : decode cL_law 460 = .ok (.pop, 1) := dg_e79.1
theorem dL_law_461 : decode cL_law 461 = .ok (.goto 820, 3) := dg_e79.2.1
theorem dL_law_464 : decode cL_law 464 = .ok (.aload_n 1, 1) := dg_e79.2.2.1
theorem dL_law_465 : decode cL_law 465 = .ok (.aload_n 0, 1) := dg_e79.2.2.2.1
theorem dL_law_466 : decode cL_law 466 = .ok (.iload_n 3, 1) := dg_e79.2.2.2.2.1
theorem dL_law_467 : decode cL_law 467 = .ok (.iconst 1, 1) := dg_e79.2.2.2.2.2.1
theorem dL_law_468 : decode cL_law 468 = .ok (.iadd, 1) := dg_e79.2.2.2.2.2.2.1
theorem dL_law_469 : decode cL_law 469 = .ok (.iaload, 1) := dg_e79.2.2.2.2.2.2.2.1
theorem dL_law_470 : decode cL_law 470 = .ok (.aload_n 0, 1) := dg_e79.2.2.2.2.2.2.2.2.1
theorem dL_law_471 : decode cL_law 471 = .ok (.iload_n 3, 1) := dg_e79.2.2.2.2.2.2.2.2.2.1
theorem dL_law_472 : decode cL_law 472 = .ok (.iconst 2, 1) := dg_e79.2.2.2.2.2.2.2.2.2.2.1
theorem dL_law_473 : decode cL_law 473 = .ok (.iadd, 1) := dg_e79.2.2.2.2.2.2.2.2.2.2.2.1
theorem dL_law_474 : decode cL_law 474 = .ok (.iaload, 1) := dg_e79.2.2.2.2.2.2.2.2.2.2.2.2.1
theorem dL_law_475 : decode cL_law 475 = .ok (.ifCond .eq 7, 3) := dg_e79.2.2.2.2.2.2.2.2.2.2.2.2.2.1
theorem dL_law_478 : decode cL_law 478 = .ok (.iconst 1, 1) := dg_e79.2.2.2.2.2.2.2.2.2.2.2.2.2.2.1
theorem dL_law_479 : decode cL_law 479 = .ok (.goto 4, 3) := dg_e79.2.2.2.2.2.2.2.2.2.2.2.2.2.2.2
theorem dg_e80 : (decode cL_law 482 = .ok (.iconst 0, 1)) ∧ (decode cL_law 483 = .ok (.invokevirtual 57, 3)) ∧ (decode cL_law 486 = .ok (.pop, 1)) ∧ (decode cL_law 487 = .ok (.aload_n 2, 1)) ∧ (decode cL_law 488 = .ok (.aload_n 0, 1)) ∧ (decode cL_law 489 = .ok (.iload_n 3, 1)) ∧ (decode cL_law 490 = .ok (.iconst 1, 1)) ∧ (decode cL_law 491 = .ok (.iadd, 1)) ∧ (decode cL_law 492 = .ok (.iaload, 1)) ∧ (decode cL_law 493 = .ok (.aload_n 0, 1)) ∧ (decode cL_law 494 = .ok (.iload_n 3, 1)) ∧ (decode cL_law 495 = .ok (.iconst 2, 1)) ∧ (decode cL_law 496 = .ok (.iadd, 1)) ∧ (decode cL_law 497 = .ok (.iaload, 1)) ∧ (decode cL_law 498 = .ok (.ifCond .eq 7, 3)) ∧ (decode cL_law 501 = .ok (.iconst 1, 1)) := by decide +kernel
theorem dL_law_482 : decode cL_law 482 = .ok (.iconst 0, 1) := dg_e80.1
theorem dL_law_483 : decode cL_law 483 = .ok (.invokevirtual 57, 3) := dg_e80.2.1
theorem dL_law_486 : decode cL_law 486 = .ok (.pop, 1) := dg_e80.2.2.1
theorem dL_law_487 : decode cL_law 487 = .ok (.aload_n 2, 1) := dg_e80.2.2.2.1
theorem dL_law_488 : decode cL_law 488 = .ok (.aload_n 0, 1) := dg_e80.2.2.2.2.1
theorem dL_law_489 : decode cL_law 489 = .ok (.iload_n 3, 1) := dg_e80.2.2.2.2.2.1
theorem dL_law_490 : decode cL_law 490 = .ok (.iconst 1, 1) := dg_e80.2.2.2.2.2.2.1
theorem dL_law_491 : decode cL_law 491 = .ok (.iadd, 1) := dg_e80.2.2.2.2.2.2.2.1
theorem dL_law_492 : decode cL_law 492 = .ok (.iaload, 1) := dg_e80.2.2.2.2.2.2.2.2.1
theorem dL_law_493 : decode cL_law 493 = .ok (.aload_n 0, 1) := dg_e80.2.2.2.2.2.2.2.2.2.1
theorem dL_law_494 : decode cL_law 494 = .ok (.iload_n 3, 1) := dg_e80.2.2.2.2.2.2.2.2.2.2.1
theorem dL_law_495 : decode cL_law 495 = .ok (.iconst 2, 1) := dg_e80.2.2.2.2.2.2.2.2.2.2.2.1
theorem dL_law_496 : decode cL_law 496 = .ok (.iadd, 1) := dg_e80.2.2.2.2.2.2.2.2.2.2.2.2.1
theorem dL_law_497 : decode cL_law 497 = .ok (.iaload, 1) := dg_e80.2.2.2.2.2.2.2.2.2.2.2.2.2.1
theorem dL_law_498 : decode cL_law 498 = .ok (.ifCond .eq 7, 3) := dg_e80.2.2.2.2.2.2.2.2.2.2.2.2.2.2.1
theorem dL_law_501 : decode cL_law 501 = .ok (.iconst 1, 1) := dg_e80.2.2.2.2.2.2.2.2.2.2.2.2.2.2.2
theorem dg_e81 : (decode cL_law 502 = .ok (.goto 4, 3)) ∧ (decode cL_law 505 = .ok (.iconst 0, 1)) ∧ (decode cL_law 506 = .ok (.invokevirtual 60, 3)) ∧ (decode cL_law 509 = .ok (.pop, 1)) ∧ (decode cL_law 510 = .ok (.goto 771, 3)) ∧ (decode cL_law 513 = .ok (.aload_n 1, 1)) ∧ (decode cL_law 514 = .ok (.aload_n 0, 1)) ∧ (decode cL_law 515 = .ok (.iload_n 3, 1)) ∧ (decode cL_law 516 = .ok (.iconst 1, 1)) ∧ (decode cL_law 517 = .ok (.iadd, 1)) ∧ (decode cL_law 518 = .ok (.iaload, 1)) ∧ (decode cL_law 519 = .ok (.aload_n 0, 1)) ∧ (decode cL_law 520 = .ok (.iload_n 3, 1)) ∧ (decode cL_law 521 = .ok (.iconst 2, 1)) ∧ (decode cL_law 522 = .ok (.iadd, 1)) ∧ (decode cL_law 523 = .ok (.iaload, 1)) := by decide +kernel
theorem dL_law_502 : decode cL_law 502 = .ok (.goto 4, 3) := dg_e81.1
theorem dL_law_505 : decode cL_law 505 = .ok (.iconst 0, 1) := dg_e81.2.1
theorem dL_law_506 : decode cL_law 506 = .ok (.invokevirtual 60, 3) := dg_e81.2.2.1
theorem dL_law_509 : decode cL_law 509 = .ok (.pop, 1) := dg_e81.2.2.2.1
theorem dL_law_510 : decode cL_law 510 = .ok (.goto 771, 3) := dg_e81.2.2.2.2.1
theorem dL_law_513 : decode cL_law 513 = .ok (.aload_n 1, 1) := dg_e81.2.2.2.2.2.1
theorem dL_law_514 : decode cL_law 514 = .ok (.aload_n 0, 1) := dg_e81.2.2.2.2.2.2.1
theorem dL_law_515 : decode cL_law 515 = .ok (.iload_n 3, 1) := dg_e81.2.2.2.2.2.2.2.1
theorem dL_law_516 : decode cL_law 516 = .ok (.iconst 1, 1) := dg_e81.2.2.2.2.2.2.2.2.1
theorem dL_law_517 : decode cL_law 517 = .ok (.iadd, 1) := dg_e81.2.2.2.2.2.2.2.2.2.1
theorem dL_law_518 : decode cL_law 518 = .ok (.iaload, 1) := dg_e81.2.2.2.2.2.2.2.2.2.2.1
theorem dL_law_519 : decode cL_law 519 = .ok (.aload_n 0, 1) := dg_e81.2.2.2.2.2.2.2.2.2.2.2.1
theorem dL_law_520 : decode cL_law 520 = .ok (.iload_n 3, 1) := dg_e81.2.2.2.2.2.2.2.2.2.2.2.2.1
theorem dL_law_521 : decode cL_law 521 = .ok (.iconst 2, 1) := dg_e81.2.2.2.2.2.2.2.2.2.2.2.2.2.1
theorem dL_law_522 : decode cL_law 522 = .ok (.iadd, 1) := dg_e81.2.2.2.2.2.2.2.2.2.2.2.2.2.2.1
theorem dL_law_523 : decode cL_law 523 = .ok (.iaload, 1) := dg_e81.2.2.2.2.2.2.2.2.2.2.2.2.2.2.2
theorem dg_e82 : (decode cL_law 524 = .ok (.invokevirtual 61, 3)) ∧ (decode cL_law 527 = .ok (.pop, 1)) ∧ (decode cL_law 528 = .ok (.aload_n 2, 1)) ∧ (decode cL_law 529 = .ok (.aload_n 0, 1)) ∧ (decode cL_law 530 = .ok (.iload_n 3, 1)) ∧ (decode cL_law 531 = .ok (.iconst 1, 1)) ∧ (decode cL_law 532 = .ok (.iadd, 1)) ∧ (decode cL_law 533 = .ok (.iaload, 1)) ∧ (decode cL_law 534 = .ok (.aload_n 0, 1)) ∧ (decode cL_law 535 = .ok (.iload_n 3, 1)) ∧ (decode cL_law 536 = .ok (.iconst 2, 1)) ∧ (decode cL_law 537 = .ok (.iadd, 1)) ∧ (decode cL_law 538 = .ok (.iaload, 1)) ∧ (decode cL_law 539 = .ok (.invokevirtual 64, 3)) ∧ (decode cL_law 542 = .ok (.pop, 1)) ∧ (decode cL_law 543 = .ok (.goto 738, 3)) := by decide +kernel
theorem dL_law_524 : decode cL_law 524 = .ok (.invokevirtual 61, 3) := dg_e82.1
theorem dL_law_527 : decode cL_law 527 = .ok (.pop, 1) := dg_e82.2.1
theorem dL_law_528 : decode cL_law 528 = .ok (.aload_n 2, 1) := dg_e82.2.2.1
theorem dL_law_529 : decode cL_law 529 = .ok (.aload_n 0, 1) := dg_e82.2.2.2.1
theorem dL_law_530 : decode cL_law 530 = .ok (.iload_n 3, 1) := dg_e82.2.2.2.2.1
theorem dL_law_531 : decode cL_law 531 = .ok (.iconst 1, 1) := dg_e82.2.2.2.2.2.1
theorem dL_law_532 : decode cL_law 532 = .ok (.iadd, 1) := dg_e82.2.2.2.2.2.2.1
theorem dL_law_533 : decode cL_law 533 = .ok (.iaload, 1) := dg_e82.2.2.2.2.2.2.2.1
theorem dL_law_534 : decode cL_law 534 = .ok (.aload_n 0, 1) := dg_e82.2.2.2.2.2.2.2.2.1
theorem dL_law_535 : decode cL_law 535 = .ok (.iload_n 3, 1) := dg_e82.2.2.2.2.2.2.2.2.2.1
theorem dL_law_536 : decode cL_law 536 = .ok (.iconst 2, 1) := dg_e82.2.2.2.2.2.2.2.2.2.2.1
theorem dL_law_537 : decode cL_law 537 = .ok (.iadd, 1) := dg_e82.2.2.2.2.2.2.2.2.2.2.2.1
theorem dL_law_538 : decode cL_law 538 = .ok (.iaload, 1) := dg_e82.2.2.2.2.2.2.2.2.2.2.2.2.1
theorem dL_law_539 : decode cL_law 539 = .ok (.invokevirtual 64, 3) := dg_e82.2.2.2.2.2.2.2.2.2.2.2.2.2.1
theorem dL_law_542 : decode cL_law 542 = .ok (.pop, 1) := dg_e82.2.2.2.2.2.2.2.2.2.2.2.2.2.2.1
theorem dL_law_543 : decode cL_law 543 = .ok (.goto 738, 3) := dg_e82.2.2.2.2.2.2.2.2.2.2.2.2.2.2.2
theorem dg_e83 : (decode cL_law 546 = .ok (.aload_n 1, 1)) ∧ (decode cL_law 547 = .ok (.aload_n 0, 1)) ∧ (decode cL_law 548 = .ok (.iload_n 3, 1)) ∧ (decode cL_law 549 = .ok (.iconst 1, 1)) ∧ (decode cL_law 550 = .ok (.iadd, 1)) ∧ (decode cL_law 551 = .ok (.iaload, 1)) ∧ (decode cL_law 552 = .ok (.aload_n 0, 1)) ∧ (decode cL_law 553 = .ok (.iload_n 3, 1)) ∧ (decode cL_law 554 = .ok (.iconst 2, 1)) ∧ (decode cL_law 555 = .ok (.iadd, 1)) ∧ (decode cL_law 556 = .ok (.iaload, 1)) ∧ (decode cL_law 557 = .ok (.invokevirtual 65, 3)) ∧ (decode cL_law 560 = .ok (.pop, 1)) ∧ (decode cL_law 561 = .ok (.aload_n 2, 1)) ∧ (decode cL_law 562 = .ok (.aload_n 0, 1)) ∧ (decode cL_law 563 = .ok (.iload_n 3, 1)) := by decide +kernel
theorem dL_law_546 : decode cL_law 546 = .ok (.aload_n 1, 1) := dg_e83.1
theorem dL_law_547 : decode cL_law 547 = .ok (.aload_n 0, 1) := dg_e83.2.1
theorem dL_law_548 : decode cL_law 548 = .ok (.iload_n 3, 1) := dg_e83.2.2.1
theorem dL_law_549 : decode cL_law 549 = .ok (.iconst 1, 1) := dg_e83.2.2.2.1
theorem dL_law_550 : decode cL_law 550 = .ok (.iadd, 1) := dg_e83.2.2.2.2.1
theorem dL_law_551 : decode cL_law 551 = .ok (.iaload, 1) := dg_e83.2.2.2.2.2.1
theorem dL_law_552 : decode cL_law 552 = .ok (.aload_n 0, 1) := dg_e83.2.2.2.2.2.2.1
theorem dL_law_553 : decode cL_law 553 = .ok (.iload_n 3, 1) := dg_e83.2.2.2.2.2.2.2.1
theorem dL_law_554 : decode cL_law 554 = .ok (.iconst 2, 1) := dg_e83.2.2.2.2.2.2.2.2.1
theorem dL_law_555 : decode cL_law 555 = .ok (.iadd, 1) := dg_e83.2.2.2.2.2.2.2.2.2.1
theorem dL_law_556 : decode cL_law 556 = .ok (.iaload, 1) := dg_e83.2.2.2.2.2.2.2.2.2.2.1
theorem dL_law_557 : decode cL_law 557 = .ok (.invokevirtual 65, 3) := dg_e83.2.2.2.2.2.2.2.2.2.2.2.1
theorem dL_law_560 : decode cL_law 560 = .ok (.pop, 1) := dg_e83.2.2.2.2.2.2.2.2.2.2.2.2.1
theorem dL_law_561 : decode cL_law 561 = .ok (.aload_n 2, 1) := dg_e83.2.2.2.2.2.2.2.2.2.2.2.2.2.1
theorem dL_law_562 : decode cL_law 562 = .ok (.aload_n 0, 1) := dg_e83.2.2.2.2.2.2.2.2.2.2.2.2.2.2.1
theorem dL_law_563 : decode cL_law 563 = .ok (.iload_n 3, 1) := dg_e83.2.2.2.2.2.2.2.2.2.2.2.2.2.2.2
theorem dg_e84 : (decode cL_law 564 = .ok (.iconst 1, 1)) ∧ (decode cL_law 565 = .ok (.iadd, 1)) ∧ (decode cL_law 566 = .ok (.iaload, 1)) ∧ (decode cL_law 567 = .ok (.aload_n 0, 1)) ∧ (decode cL_law 568 = .ok (.iload_n 3, 1)) ∧ (decode cL_law 569 = .ok (.iconst 2, 1)) ∧ (decode cL_law 570 = .ok (.iadd, 1)) ∧ (decode cL_law 571 = .ok (.iaload, 1)) ∧ (decode cL_law 572 = .ok (.invokevirtual 68, 3)) ∧ (decode cL_law 575 = .ok (.pop, 1)) ∧ (decode cL_law 576 = .ok (.goto 705, 3)) ∧ (decode cL_law 579 = .ok (.aload_n 1, 1)) ∧ (decode cL_law 580 = .ok (.aload_n 0, 1)) ∧ (decode cL_law 581 = .ok (.iload_n 3, 1)) ∧ (decode cL_law 582 = .ok (.iconst 1, 1)) ∧ (decode cL_law 583 = .ok (.iadd, 1)) := by decide +kernel
theorem dL_law_564 : decode cL_law 564 = .ok (.iconst 1, 1) := dg_e84.1
theorem dL_law_565 : decode cL_law 565 = .ok (.iadd, 1) := dg_e84.2.1
theorem dL_law_566 : decode cL_law 566 = .ok (.iaload, 1) := dg_e84.2.2.1
theorem dL_law_567 : decode cL_law 567 = .ok (.aload_n 0, 1) := dg_e84.2.2.2.1
theorem dL_law_568 : decode cL_law 568 = .ok (.iload_n 3, 1) := dg_e84.2.2.2.2.1
theorem dL_law_569 : decode cL_law 569 = .ok (.iconst 2, 1) := dg_e84.2.2.2.2.2.1
theorem dL_law_570 : decode cL_law 570 = .ok (.iadd, 1) := dg_e84.2.2.2.2.2.2.1
theorem dL_law_571 : decode cL_law 571 = .ok (.iaload, 1) := dg_e84.2.2.2.2.2.2.2.1
theorem dL_law_572 : decode cL_law 572 = .ok (.invokevirtual 68, 3) := dg_e84.2.2.2.2.2.2.2.2.1
theorem dL_law_575 : decode cL_law 575 = .ok (.pop, 1) := dg_e84.2.2.2.2.2.2.2.2.2.1
theorem dL_law_576 : decode cL_law 576 = .ok (.goto 705, 3) := dg_e84.2.2.2.2.2.2.2.2.2.2.1
theorem dL_law_579 : decode cL_law 579 = .ok (.aload_n 1, 1) := dg_e84.2.2.2.2.2.2.2.2.2.2.2.1
theorem dL_law_580 : decode cL_law 580 = .ok (.aload_n 0, 1) := dg_e84.2.2.2.2.2.2.2.2.2.2.2.2.1
theorem dL_law_581 : decode cL_law 581 = .ok (.iload_n 3, 1) := dg_e84.2.2.2.2.2.2.2.2.2.2.2.2.2.1
theorem dL_law_582 : decode cL_law 582 = .ok (.iconst 1, 1) := dg_e84.2.2.2.2.2.2.2.2.2.2.2.2.2.2.1
theorem dL_law_583 : decode cL_law 583 = .ok (.iadd, 1) := dg_e84.2.2.2.2.2.2.2.2.2.2.2.2.2.2.2
theorem dg_e85 : (decode cL_law 584 = .ok (.iaload, 1)) ∧ (decode cL_law 585 = .ok (.invokevirtual 69, 3)) ∧ (decode cL_law 588 = .ok (.pop, 1)) ∧ (decode cL_law 589 = .ok (.aload_n 2, 1)) ∧ (decode cL_law 590 = .ok (.aload_n 0, 1)) ∧ (decode cL_law 591 = .ok (.iload_n 3, 1)) ∧ (decode cL_law 592 = .ok (.iconst 1, 1)) ∧ (decode cL_law 593 = .ok (.iadd, 1)) ∧ (decode cL_law 594 = .ok (.iaload, 1)) ∧ (decode cL_law 595 = .ok (.invokevirtual 72, 3)) ∧ (decode cL_law 598 = .ok (.pop, 1)) ∧ (decode cL_law 599 = .ok (.goto 682, 3)) ∧ (decode cL_law 602 = .ok (.aload_n 1, 1)) ∧ (decode cL_law 603 = .ok (.aload_n 0, 1)) ∧ (decode cL_law 604 = .ok (.iload_n 3, 1)) ∧ (decode cL_law 605 = .ok (.iconst 1, 1)) := by decide +kernel
theorem dL_law_584 : decode cL_law 584 = .ok (.iaload, 1) := dg_e85.1
theorem dL_law_585 : decode cL_law 585 = .ok (.invokevirtual 69, 3) := dg_e85.2.1
theorem dL_law_588 : decode cL_law 588 = .ok (.pop, 1) := dg_e85.2.2.1
theorem dL_law_589 : decode cL_law 589 = .ok (.aload_n 2, 1) := dg_e85.2.2.2.1
theorem dL_law_590 : decode cL_law 590 = .ok (.aload_n 0, 1) := dg_e85.2.2.2.2.1
theorem dL_law_591 : decode cL_law 591 = .ok (.iload_n 3, 1) := dg_e85.2.2.2.2.2.1
theorem dL_law_592 : decode cL_law 592 = .ok (.iconst 1, 1) := dg_e85.2.2.2.2.2.2.1
theorem dL_law_593 : decode cL_law 593 = .ok (.iadd, 1) := dg_e85.2.2.2.2.2.2.2.1
theorem dL_law_594 : decode cL_law 594 = .ok (.iaload, 1) := dg_e85.2.2.2.2.2.2.2.2.1
theorem dL_law_595 : decode cL_law 595 = .ok (.invokevirtual 72, 3) := dg_e85.2.2.2.2.2.2.2.2.2.1
theorem dL_law_598 : decode cL_law 598 = .ok (.pop, 1) := dg_e85.2.2.2.2.2.2.2.2.2.2.1
theorem dL_law_599 : decode cL_law 599 = .ok (.goto 682, 3) := dg_e85.2.2.2.2.2.2.2.2.2.2.2.1
theorem dL_law_602 : decode cL_law 602 = .ok (.aload_n 1, 1) := dg_e85.2.2.2.2.2.2.2.2.2.2.2.2.1
theorem dL_law_603 : decode cL_law 603 = .ok (.aload_n 0, 1) := dg_e85.2.2.2.2.2.2.2.2.2.2.2.2.2.1
theorem dL_law_604 : decode cL_law 604 = .ok (.iload_n 3, 1) := dg_e85.2.2.2.2.2.2.2.2.2.2.2.2.2.2.1
theorem dL_law_605 : decode cL_law 605 = .ok (.iconst 1, 1) := dg_e85.2.2.2.2.2.2.2.2.2.2.2.2.2.2.2
theorem dg_e86 : (decode cL_law 606 = .ok (.iadd, 1)) ∧ (decode cL_law 607 = .ok (.iaload, 1)) ∧ (decode cL_law 608 = .ok (.invokevirtual 73, 3)) ∧ (decode cL_law 611 = .ok (.pop, 1)) ∧ (decode cL_law 612 = .ok (.aload_n 2, 1)) ∧ (decode cL_law 613 = .ok (.aload_n 0, 1)) ∧ (decode cL_law 614 = .ok (.iload_n 3, 1)) ∧ (decode cL_law 615 = .ok (.iconst 1, 1)) ∧ (decode cL_law 616 = .ok (.iadd, 1)) ∧ (decode cL_law 617 = .ok (.iaload, 1)) ∧ (decode cL_law 618 = .ok (.invokevirtual 76, 3)) ∧ (decode cL_law 621 = .ok (.pop, 1)) ∧ (decode cL_law 622 = .ok (.goto 659, 3)) ∧ (decode cL_law 625 = .ok (.aload_n 1, 1)) ∧ (decode cL_law 626 = .ok (.aload_n 0, 1)) ∧ (decode cL_law 627 = .ok (.iload_n 3, 1)) := by decide +kernel
theorem dL_law_606 : decode cL_law 606 = .ok (.iadd, 1) := dg_e86.1
theorem dL_law_607 : decode cL_law 607 = .ok (.iaload, 1) := dg_e86.2.1
theorem dL_law_608 : decode cL_law 608 = .ok (.invokevirtual 73, 3) := dg_e86.2.2.1
theorem dL_law_611 : decode cL_law 611 = .ok (.pop, 1) := dg_e86.2.2.2.1
theorem dL_law_612 : decode cL_law 612 = .ok (.aload_n 2, 1) := dg_e86.2.2.2.2.1
theorem dL_law_613 : decode cL_law 613 = .ok (.aload_n 0, 1) := dg_e86.2.2.2.2.2.1
theorem dL_law_614 : decode cL_law 614 = .ok (.iload_n 3, 1) := dg_e86.2.2.2.2.2.2.1
theorem dL_law_615 : decode cL_law 615 = .ok (.iconst 1, 1) := dg_e86.2.2.2.2.2.2.2.1
theorem dL_law_616 : decode cL_law 616 = .ok (.iadd, 1) := dg_e86.2.2.2.2.2.2.2.2.1
theorem dL_law_617 : decode cL_law 617 = .ok (.iaload, 1) := dg_e86.2.2.2.2.2.2.2.2.2.1
theorem dL_law_618 : decode cL_law 618 = .ok (.invokevirtual 76, 3) := dg_e86.2.2.2.2.2.2.2.2.2.2.1
theorem dL_law_621 : decode cL_law 621 = .ok (.pop, 1) := dg_e86.2.2.2.2.2.2.2.2.2.2.2.1
theorem dL_law_622 : decode cL_law 622 = .ok (.goto 659, 3) := dg_e86.2.2.2.2.2.2.2.2.2.2.2.2.1
theorem dL_law_625 : decode cL_law 625 = .ok (.aload_n 1, 1) := dg_e86.2.2.2.2.2.2.2.2.2.2.2.2.2.1
theorem dL_law_626 : decode cL_law 626 = .ok (.aload_n 0, 1) := dg_e86.2.2.2.2.2.2.2.2.2.2.2.2.2.2.1
theorem dL_law_627 : decode cL_law 627 = .ok (.iload_n 3, 1) := dg_e86.2.2.2.2.2.2.2.2.2.2.2.2.2.2.2
theorem dg_e87 : (decode cL_law 628 = .ok (.iconst 1, 1)) ∧ (decode cL_law 629 = .ok (.iadd, 1)) ∧ (decode cL_law 630 = .ok (.iaload, 1)) ∧ (decode cL_law 631 = .ok (.invokevirtual 77, 3)) ∧ (decode cL_law 634 = .ok (.pop, 1)) ∧ (decode cL_law 635 = .ok (.aload_n 2, 1)) ∧ (decode cL_law 636 = .ok (.aload_n 0, 1)) ∧ (decode cL_law 637 = .ok (.iload_n 3, 1)) ∧ (decode cL_law 638 = .ok (.iconst 1, 1)) ∧ (decode cL_law 639 = .ok (.iadd, 1)) ∧ (decode cL_law 640 = .ok (.iaload, 1)) ∧ (decode cL_law 641 = .ok (.invokevirtual 80, 3)) ∧ (decode cL_law 644 = .ok (.pop, 1)) ∧ (decode cL_law 645 = .ok (.goto 636, 3)) ∧ (decode cL_law 648 = .ok (.aload_n 1, 1)) ∧ (decode cL_law 649 = .ok (.aload_n 0, 1)) := by decide +kernel
theorem dL_law_628 : decode cL_law 628 = .ok (.iconst 1, 1) := dg_e87.1
theorem dL_law_629 : decode cL_law 629 = .ok (.iadd, 1) := dg_e87.2.1
theorem dL_law_630 : decode cL_law 630 = .ok (.iaload, 1) := dg_e87.2.2.1
theorem dL_law_631 : decode cL_law 631 = .ok (.invokevirtual 77, 3) := dg_e87.2.2.2.1
theorem dL_law_634 : decode cL_law 634 = .ok (.pop, 1) := dg_e87.2.2.2.2.1
theorem dL_law_635 : decode cL_law 635 = .ok (.aload_n 2, 1) := dg_e87.2.2.2.2.2.1
theorem dL_law_636 : decode cL_law 636 = .ok (.aload_n 0, 1) := dg_e87.2.2.2.2.2.2.1
theorem dL_law_637 : decode cL_law 637 = .ok (.iload_n 3, 1) := dg_e87.2.2.2.2.2.2.2.1
theorem dL_law_638 : decode cL_law 638 = .ok (.iconst 1, 1) := dg_e87.2.2.2.2.2.2.2.2.1
theorem dL_law_639 : decode cL_law 639 = .ok (.iadd, 1) := dg_e87.2.2.2.2.2.2.2.2.2.1
theorem dL_law_640 : decode cL_law 640 = .ok (.iaload, 1) := dg_e87.2.2.2.2.2.2.2.2.2.2.1
theorem dL_law_641 : decode cL_law 641 = .ok (.invokevirtual 80, 3) := dg_e87.2.2.2.2.2.2.2.2.2.2.2.1
theorem dL_law_644 : decode cL_law 644 = .ok (.pop, 1) := dg_e87.2.2.2.2.2.2.2.2.2.2.2.2.1
theorem dL_law_645 : decode cL_law 645 = .ok (.goto 636, 3) := dg_e87.2.2.2.2.2.2.2.2.2.2.2.2.2.1
theorem dL_law_648 : decode cL_law 648 = .ok (.aload_n 1, 1) := dg_e87.2.2.2.2.2.2.2.2.2.2.2.2.2.2.1
theorem dL_law_649 : decode cL_law 649 = .ok (.aload_n 0, 1) := dg_e87.2.2.2.2.2.2.2.2.2.2.2.2.2.2.2
theorem dg_e88 : (decode cL_law 650 = .ok (.iload_n 3, 1)) ∧ (decode cL_law 651 = .ok (.iconst 1, 1)) ∧ (decode cL_law 652 = .ok (.iadd, 1)) ∧ (decode cL_law 653 = .ok (.iaload, 1)) ∧ (decode cL_law 654 = .ok (.invokevirtual 81, 3)) ∧ (decode cL_law 657 = .ok (.pop, 1)) ∧ (decode cL_law 658 = .ok (.aload_n 2, 1)) ∧ (decode cL_law 659 = .ok (.aload_n 0, 1)) ∧ (decode cL_law 660 = .ok (.iload_n 3, 1)) ∧ (decode cL_law 661 = .ok (.iconst 1, 1)) ∧ (decode cL_law 662 = .ok (.iadd, 1)) ∧ (decode cL_law 663 = .ok (.iaload, 1)) ∧ (decode cL_law 664 = .ok (.invokevirtual 84, 3)) ∧ (decode cL_law 667 = .ok (.pop, 1)) ∧ (decode cL_law 668 = .ok (.goto 613, 3)) ∧ (decode cL_law 671 = .ok (.aload_n 1, 1)) := by decide +kernel
theorem dL_law_650 : decode cL_law 650 = .ok (.iload_n 3, 1) := dg_e88.1
theorem dL_law_651 : decode cL_law 651 = .ok (.iconst 1, 1) := dg_e88.2.1
theorem dL_law_652 : decode cL_law 652 = .ok (.iadd, 1) := dg_e88.2.2.1
theorem dL_law_653 : decode cL_law 653 = .ok (.iaload, 1) := dg_e88.2.2.2.1
theorem dL_law_654 : decode cL_law 654 = .ok (.invokevirtual 81, 3) := dg_e88.2.2.2.2.1
theorem dL_law_657 : decode cL_law 657 = .ok (.pop, 1) := dg_e88.2.2.2.2.2.1
theorem dL_law_658 : decode cL_law 658 = .ok (.aload_n 2, 1) := dg_e88.2.2.2.2.2.2.1
theorem dL_law_659 : decode cL_law 659 = .ok (.aload_n 0, 1) := dg_e88.2.2.2.2.2.2.2.1
theorem dL_law_660 : decode cL_law 660 = .ok (.iload_n 3, 1) := dg_e88.2.2.2.2.2.2.2.2.1
theorem dL_law_661 : decode cL_law 661 = .ok (.iconst 1, 1) := dg_e88.2.2.2.2.2.2.2.2.2.1
theorem dL_law_662 : decode cL_law 662 = .ok (.iadd, 1) := dg_e88.2.2.2.2.2.2.2.2.2.2.1
theorem dL_law_663 : decode cL_law 663 = .ok (.iaload, 1) := dg_e88.2.2.2.2.2.2.2.2.2.2.2.1
theorem dL_law_664 : decode cL_law 664 = .ok (.invokevirtual 84, 3) := dg_e88.2.2.2.2.2.2.2.2.2.2.2.2.1
theorem dL_law_667 : decode cL_law 667 = .ok (.pop, 1) := dg_e88.2.2.2.2.2.2.2.2.2.2.2.2.2.1
theorem dL_law_668 : decode cL_law 668 = .ok (.goto 613, 3) := dg_e88.2.2.2.2.2.2.2.2.2.2.2.2.2.2.1
theorem dL_law_671 : decode cL_law 671 = .ok (.aload_n 1, 1) := dg_e88.2.2.2.2.2.2.2.2.2.2.2.2.2.2.2
theorem dg_e89 : (decode cL_law 672 = .ok (.aload_n 0, 1)) ∧ (decode cL_law 673 = .ok (.iload_n 3, 1)) ∧ (decode cL_law 674 = .ok (.iconst 1, 1)) ∧ (decode cL_law 675 = .ok (.iadd, 1)) ∧ (decode cL_law 676 = .ok (.iaload, 1)) ∧ (decode cL_law 677 = .ok (.invokevirtual 85, 3)) ∧ (decode cL_law 680 = .ok (.pop, 1)) ∧ (decode cL_law 681 = .ok (.aload_n 2, 1)) ∧ (decode cL_law 682 = .ok (.aload_n 0, 1)) ∧ (decode cL_law 683 = .ok (.iload_n 3, 1)) ∧ (decode cL_law 684 = .ok (.iconst 1, 1)) ∧ (decode cL_law 685 = .ok (.iadd, 1)) ∧ (decode cL_law 686 = .ok (.iaload, 1)) ∧ (decode cL_law 687 = .ok (.invokevirtual 88, 3)) ∧ (decode cL_law 690 = .ok (.pop, 1)) ∧ (decode cL_law 691 = .ok (.goto 590, 3)) := by decide +kernel
theorem dL_law_672 : decode cL_law 672 = .ok (.aload_n 0, 1) := dg_e89.1
theorem dL_law_673 : decode cL_law 673 = .ok (.iload_n 3, 1) := dg_e89.2.1
theorem dL_law_674 : decode cL_law 674 = .ok (.iconst 1, 1) := dg_e89.2.2.1
theorem dL_law_675 : decode cL_law 675 = .ok (.iadd, 1) := dg_e89.2.2.2.1
theorem dL_law_676 : decode cL_law 676 = .ok (.iaload, 1) := dg_e89.2.2.2.2.1
theorem dL_law_677 : decode cL_law 677 = .ok (.invokevirtual 85, 3) := dg_e89.2.2.2.2.2.1
theorem dL_law_680 : decode cL_law 680 = .ok (.pop, 1) := dg_e89.2.2.2.2.2.2.1
theorem dL_law_681 : decode cL_law 681 = .ok (.aload_n 2, 1) := dg_e89.2.2.2.2.2.2.2.1
theorem dL_law_682 : decode cL_law 682 = .ok (.aload_n 0, 1) := dg_e89.2.2.2.2.2.2.2.2.1
theorem dL_law_683 : decode cL_law 683 = .ok (.iload_n 3, 1) := dg_e89.2.2.2.2.2.2.2.2.2.1
theorem dL_law_684 : decode cL_law 684 = .ok (.iconst 1, 1) := dg_e89.2.2.2.2.2.2.2.2.2.2.1
theorem dL_law_685 : decode cL_law 685 = .ok (.iadd, 1) := dg_e89.2.2.2.2.2.2.2.2.2.2.2.1
theorem dL_law_686 : decode cL_law 686 = .ok (.iaload, 1) := dg_e89.2.2.2.2.2.2.2.2.2.2.2.2.1
theorem dL_law_687 : decode cL_law 687 = .ok (.invokevirtual 88, 3) := dg_e89.2.2.2.2.2.2.2.2.2.2.2.2.2.1
theorem dL_law_690 : decode cL_law 690 = .ok (.pop, 1) := dg_e89.2.2.2.2.2.2.2.2.2.2.2.2.2.2.1
theorem dL_law_691 : decode cL_law 691 = .ok (.goto 590, 3) := dg_e89.2.2.2.2.2.2.2.2.2.2.2.2.2.2.2
theorem dg_e90 : (decode cL_law 694 = .ok (.aload_n 1, 1)) ∧ (decode cL_law 695 = .ok (.aload_n 0, 1)) ∧ (decode cL_law 696 = .ok (.iload_n 3, 1)) ∧ (decode cL_law 697 = .ok (.iconst 1, 1)) ∧ (decode cL_law 698 = .ok (.iadd, 1)) ∧ (decode cL_law 699 = .ok (.iaload, 1)) ∧ (decode cL_law 700 = .ok (.invokevirtual 89, 3)) ∧ (decode cL_law 703 = .ok (.pop, 1)) ∧ (decode cL_law 704 = .ok (.aload_n 2, 1)) ∧ (decode cL_law 705 = .ok (.aload_n 0, 1)) ∧ (decode cL_law 706 = .ok (.iload_n 3, 1)) ∧ (decode cL_law 707 = .ok (.iconst 1, 1)) ∧ (decode cL_law 708 = .ok (.iadd, 1)) ∧ (decode cL_law 709 = .ok (.iaload, 1)) ∧ (decode cL_law 710 = .ok (.invokevirtual 92, 3)) ∧ (decode cL_law 713 = .ok (.pop, 1)) := by decide +kernel
theorem dL_law_694 : decode cL_law 694 = .ok (.aload_n 1, 1) := dg_e90.1
theorem dL_law_695 : decode cL_law 695 = .ok (.aload_n 0, 1) := dg_e90.2.1
theorem dL_law_696 : decode cL_law 696 = .ok (.iload_n 3, 1) := dg_e90.2.2.1
theorem dL_law_697 : decode cL_law 697 = .ok (.iconst 1, 1) := dg_e90.2.2.2.1
theorem dL_law_698 : decode cL_law 698 = .ok (.iadd, 1) := dg_e90.2.2.2.2.1
theorem dL_law_699 : decode cL_law 699 = .ok (.iaload, 1) := dg_e90.2.2.2.2.2.1
theorem dL_law_700 : decode cL_law 700 = .ok (.invokevirtual 89, 3) := dg_e90.2.2.2.2.2.2.1
theorem dL_law_703 : decode cL_law 703 = .ok (.pop, 1) := dg_e90.2.2.2.2.2.2.2.1
theorem dL_law_704 : decode cL_law 704 = .ok (.aload_n 2, 1) := dg_e90.2.2.2.2.2.2.2.2.1
theorem dL_law_705 : decode cL_law 705 = .ok (.aload_n 0, 1) := dg_e90.2.2.2.2.2.2.2.2.2.1
theorem dL_law_706 : decode cL_law 706 = .ok (.iload_n 3, 1) := dg_e90.2.2.2.2.2.2.2.2.2.2.1
theorem dL_law_707 : decode cL_law 707 = .ok (.iconst 1, 1) := dg_e90.2.2.2.2.2.2.2.2.2.2.2.1
theorem dL_law_708 : decode cL_law 708 = .ok (.iadd, 1) := dg_e90.2.2.2.2.2.2.2.2.2.2.2.2.1
theorem dL_law_709 : decode cL_law 709 = .ok (.iaload, 1) := dg_e90.2.2.2.2.2.2.2.2.2.2.2.2.2.1
theorem dL_law_710 : decode cL_law 710 = .ok (.invokevirtual 92, 3) := dg_e90.2.2.2.2.2.2.2.2.2.2.2.2.2.2.1
theorem dL_law_713 : decode cL_law 713 = .ok (.pop, 1) := dg_e90.2.2.2.2.2.2.2.2.2.2.2.2.2.2.2
theorem dg_e91 : (decode cL_law 714 = .ok (.goto 567, 3)) ∧ (decode cL_law 717 = .ok (.aload_n 1, 1)) ∧ (decode cL_law 718 = .ok (.invokevirtual 93, 3)) ∧ (decode cL_law 721 = .ok (.pop, 1)) ∧ (decode cL_law 722 = .ok (.aload_n 2, 1)) ∧ (decode cL_law 723 = .ok (.invokevirtual 96, 3)) ∧ (decode cL_law 726 = .ok (.pop, 1)) ∧ (decode cL_law 727 = .ok (.goto 554, 3)) ∧ (decode cL_law 730 = .ok (.aload_n 1, 1)) ∧ (decode cL_law 731 = .ok (.aload_n 0, 1)) ∧ (decode cL_law 732 = .ok (.iload_n 3, 1)) ∧ (decode cL_law 733 = .ok (.iconst 1, 1)) ∧ (decode cL_law 734 = .ok (.iadd, 1)) ∧ (decode cL_law 735 = .ok (.iaload, 1)) ∧ (decode cL_law 736 = .ok (.aload_n 0, 1)) ∧ (decode cL_law 737 = .ok (.iload_n 3, 1)) := by decide +kernel
theorem dL_law_714 : decode cL_law 714 = .ok (.goto 567, 3) := dg_e91.1
theorem dL_law_717 : decode cL_law 717 = .ok (.aload_n 1, 1) := dg_e91.2.1
theorem dL_law_718 : decode cL_law 718 = .ok (.invokevirtual 93, 3) := dg_e91.2.2.1
theorem dL_law_721 : decode cL_law 721 = .ok (.pop, 1) := dg_e91.2.2.2.1
theorem dL_law_722 : decode cL_law 722 = .ok (.aload_n 2, 1) := dg_e91.2.2.2.2.1
theorem dL_law_723 : decode cL_law 723 = .ok (.invokevirtual 96, 3) := dg_e91.2.2.2.2.2.1
theorem dL_law_726 : decode cL_law 726 = .ok (.pop, 1) := dg_e91.2.2.2.2.2.2.1
theorem dL_law_727 : decode cL_law 727 = .ok (.goto 554, 3) := dg_e91.2.2.2.2.2.2.2.1
theorem dL_law_730 : decode cL_law 730 = .ok (.aload_n 1, 1) := dg_e91.2.2.2.2.2.2.2.2.1
theorem dL_law_731 : decode cL_law 731 = .ok (.aload_n 0, 1) := dg_e91.2.2.2.2.2.2.2.2.2.1
theorem dL_law_732 : decode cL_law 732 = .ok (.iload_n 3, 1) := dg_e91.2.2.2.2.2.2.2.2.2.2.1
theorem dL_law_733 : decode cL_law 733 = .ok (.iconst 1, 1) := dg_e91.2.2.2.2.2.2.2.2.2.2.2.1
theorem dL_law_734 : decode cL_law 734 = .ok (.iadd, 1) := dg_e91.2.2.2.2.2.2.2.2.2.2.2.2.1
theorem dL_law_735 : decode cL_law 735 = .ok (.iaload, 1) := dg_e91.2.2.2.2.2.2.2.2.2.2.2.2.2.1
theorem dL_law_736 : decode cL_law 736 = .ok (.aload_n 0, 1) := dg_e91.2.2.2.2.2.2.2.2.2.2.2.2.2.2.1
theorem dL_law_737 : decode cL_law 737 = .ok (.iload_n 3, 1) := dg_e91.2.2.2.2.2.2.2.2.2.2.2.2.2.2.2
theorem dg_e92 : (decode cL_law 738 = .ok (.iconst 2, 1)) ∧ (decode cL_law 739 = .ok (.iadd, 1)) ∧ (decode cL_law 740 = .ok (.iaload, 1)) ∧ (decode cL_law 741 = .ok (.invokevirtual 97, 3)) ∧ (decode cL_law 744 = .ok (.pop, 1)) ∧ (decode cL_law 745 = .ok (.aload_n 2, 1)) ∧ (decode cL_law 746 = .ok (.aload_n 0, 1)) ∧ (decode cL_law 747 = .ok (.iload_n 3, 1)) ∧ (decode cL_law 748 = .ok (.iconst 1, 1)) ∧ (decode cL_law 749 = .ok (.iadd, 1)) ∧ (decode cL_law 750 = .ok (.iaload, 1)) ∧ (decode cL_law 751 = .ok (.aload_n 0, 1)) ∧ (decode cL_law 752 = .ok (.iload_n 3, 1)) ∧ (decode cL_law 753 = .ok (.iconst 2, 1)) ∧ (decode cL_law 754 = .ok (.iadd, 1)) ∧ (decode cL_law 755 = .ok (.iaload, 1)) := by decide +kernel
theorem dL_law_738 : decode cL_law 738 = .ok (.iconst 2, 1) := dg_e92.1
theorem dL_law_739 : decode cL_law 739 = .ok (.iadd, 1) := dg_e92.2.1
theorem dL_law_740 : decode cL_law 740 = .ok (.iaload, 1) := dg_e92.2.2.1
theorem dL_law_741 : decode cL_law 741 = .ok (.invokevirtual 97, 3) := dg_e92.2.2.2.1
theorem dL_law_744 : decode cL_law 744 = .ok (.pop, 1) := dg_e92.2.2.2.2.1
theorem dL_law_745 : decode cL_law 745 = .ok (.aload_n 2, 1) := dg_e92.2.2.2.2.2.1
theorem dL_law_746 : decode cL_law 746 = .ok (.aload_n 0, 1) := dg_e92.2.2.2.2.2.2.1
theorem dL_law_747 : decode cL_law 747 = .ok (.iload_n 3, 1) := dg_e92.2.2.2.2.2.2.2.1
theorem dL_law_748 : decode cL_law 748 = .ok (.iconst 1, 1) := dg_e92.2.2.2.2.2.2.2.2.1
theorem dL_law_749 : decode cL_law 749 = .ok (.iadd, 1) := dg_e92.2.2.2.2.2.2.2.2.2.1
theorem dL_law_750 : decode cL_law 750 = .ok (.iaload, 1) := dg_e92.2.2.2.2.2.2.2.2.2.2.1
theorem dL_law_751 : decode cL_law 751 = .ok (.aload_n 0, 1) := dg_e92.2.2.2.2.2.2.2.2.2.2.2.1
theorem dL_law_752 : decode cL_law 752 = .ok (.iload_n 3, 1) := dg_e92.2.2.2.2.2.2.2.2.2.2.2.2.1
theorem dL_law_753 : decode cL_law 753 = .ok (.iconst 2, 1) := dg_e92.2.2.2.2.2.2.2.2.2.2.2.2.2.1
theorem dL_law_754 : decode cL_law 754 = .ok (.iadd, 1) := dg_e92.2.2.2.2.2.2.2.2.2.2.2.2.2.2.1
theorem dL_law_755 : decode cL_law 755 = .ok (.iaload, 1) := dg_e92.2.2.2.2.2.2.2.2.2.2.2.2.2.2.2
theorem dg_e93 : (decode cL_law 756 = .ok (.invokevirtual 100, 3)) ∧ (decode cL_law 759 = .ok (.pop, 1)) ∧ (decode cL_law 760 = .ok (.goto 521, 3)) ∧ (decode cL_law 763 = .ok (.aload_n 1, 1)) ∧ (decode cL_law 764 = .ok (.aload_n 0, 1)) ∧ (decode cL_law 765 = .ok (.iload_n 3, 1)) ∧ (decode cL_law 766 = .ok (.iconst 1, 1)) ∧ (decode cL_law 767 = .ok (.iadd, 1)) ∧ (decode cL_law 768 = .ok (.iaload, 1)) ∧ (decode cL_law 769 = .ok (.invokevirtual 101, 3)) ∧ (decode cL_law 772 = .ok (.pop, 1)) ∧ (decode cL_law 773 = .ok (.aload_n 2, 1)) ∧ (decode cL_law 774 = .ok (.aload_n 0, 1)) ∧ (decode cL_law 775 = .ok (.iload_n 3, 1)) ∧ (decode cL_law 776 = .ok (.iconst 1, 1)) ∧ (decode cL_law 777 = .ok (.iadd, 1)) := by decide +kernel
theorem dL_law_756 : decode cL_law 756 = .ok (.invokevirtual 100, 3) := dg_e93.1
theorem dL_law_759 : decode cL_law 759 = .ok (.pop, 1) := dg_e93.2.1
theorem dL_law_760 : decode cL_law 760 = .ok (.goto 521, 3) := dg_e93.2.2.1
theorem dL_law_763 : decode cL_law 763 = .ok (.aload_n 1, 1) := dg_e93.2.2.2.1
theorem dL_law_764 : decode cL_law 764 = .ok (.aload_n 0, 1) := dg_e93.2.2.2.2.1
theorem dL_law_765 : decode cL_law 765 = .ok (.iload_n 3, 1) := dg_e93.2.2.2.2.2.1
theorem dL_law_766 : decode cL_law 766 = .ok (.iconst 1, 1) := dg_e93.2.2.2.2.2.2.1
theorem dL_law_767 : decode cL_law 767 = .ok (.iadd, 1) := dg_e93.2.2.2.2.2.2.2.1
theorem dL_law_768 : decode cL_law 768 = .ok (.iaload, 1) := dg_e93.2.2.2.2.2.2.2.2.1
theorem dL_law_769 : decode cL_law 769 = .ok (.invokevirtual 101, 3) := dg_e93.2.2.2.2.2.2.2.2.2.1
theorem dL_law_772 : decode cL_law 772 = .ok (.pop, 1) := dg_e93.2.2.2.2.2.2.2.2.2.2.1
theorem dL_law_773 : decode cL_law 773 = .ok (.aload_n 2, 1) := dg_e93.2.2.2.2.2.2.2.2.2.2.2.1
theorem dL_law_774 : decode cL_law 774 = .ok (.aload_n 0, 1) := dg_e93.2.2.2.2.2.2.2.2.2.2.2.2.1
theorem dL_law_775 : decode cL_law 775 = .ok (.iload_n 3, 1) := dg_e93.2.2.2.2.2.2.2.2.2.2.2.2.2.1
theorem dL_law_776 : decode cL_law 776 = .ok (.iconst 1, 1) := dg_e93.2.2.2.2.2.2.2.2.2.2.2.2.2.2.1
theorem dL_law_777 : decode cL_law 777 = .ok (.iadd, 1) := dg_e93.2.2.2.2.2.2.2.2.2.2.2.2.2.2.2
theorem dg_e94 : (decode cL_law 778 = .ok (.iaload, 1)) ∧ (decode cL_law 779 = .ok (.invokevirtual 104, 3)) ∧ (decode cL_law 782 = .ok (.pop, 1)) ∧ (decode cL_law 783 = .ok (.goto 498, 3)) ∧ (decode cL_law 786 = .ok (.aload_n 1, 1)) ∧ (decode cL_law 787 = .ok (.aload_n 0, 1)) ∧ (decode cL_law 788 = .ok (.iload_n 3, 1)) ∧ (decode cL_law 789 = .ok (.iconst 1, 1)) ∧ (decode cL_law 790 = .ok (.iadd, 1)) ∧ (decode cL_law 791 = .ok (.iaload, 1)) ∧ (decode cL_law 792 = .ok (.invokevirtual 105, 3)) ∧ (decode cL_law 795 = .ok (.pop, 1)) ∧ (decode cL_law 796 = .ok (.aload_n 2, 1)) ∧ (decode cL_law 797 = .ok (.aload_n 0, 1)) ∧ (decode cL_law 798 = .ok (.iload_n 3, 1)) ∧ (decode cL_law 799 = .ok (.iconst 1, 1)) := by decide +kernel
theorem dL_law_778 : decode cL_law 778 = .ok (.iaload, 1) := dg_e94.1
theorem dL_law_779 : decode cL_law 779 = .ok (.invokevirtual 104, 3) := dg_e94.2.1
theorem dL_law_782 : decode cL_law 782 = .ok (.pop, 1) := dg_e94.2.2.1
theorem dL_law_783 : decode cL_law 783 = .ok (.goto 498, 3) := dg_e94.2.2.2.1
theorem dL_law_786 : decode cL_law 786 = .ok (.aload_n 1, 1) := dg_e94.2.2.2.2.1
theorem dL_law_787 : decode cL_law 787 = .ok (.aload_n 0, 1) := dg_e94.2.2.2.2.2.1
theorem dL_law_788 : decode cL_law 788 = .ok (.iload_n 3, 1) := dg_e94.2.2.2.2.2.2.1
theorem dL_law_789 : decode cL_law 789 = .ok (.iconst 1, 1) := dg_e94.2.2.2.2.2.2.2.1
theorem dL_law_790 : decode cL_law 790 = .ok (.iadd, 1) := dg_e94.2.2.2.2.2.2.2.2.1
theorem dL_law_791 : decode cL_law 791 = .ok (.iaload, 1) := dg_e94.2.2.2.2.2.2.2.2.2.1
theorem dL_law_792 : decode cL_law 792 = .ok (.invokevirtual 105, 3) := dg_e94.2.2.2.2.2.2.2.2.2.2.1
theorem dL_law_795 : decode cL_law 795 = .ok (.pop, 1) := dg_e94.2.2.2.2.2.2.2.2.2.2.2.1
theorem dL_law_796 : decode cL_law 796 = .ok (.aload_n 2, 1) := dg_e94.2.2.2.2.2.2.2.2.2.2.2.2.1
theorem dL_law_797 : decode cL_law 797 = .ok (.aload_n 0, 1) := dg_e94.2.2.2.2.2.2.2.2.2.2.2.2.2.1
theorem dL_law_798 : decode cL_law 798 = .ok (.iload_n 3, 1) := dg_e94.2.2.2.2.2.2.2.2.2.2.2.2.2.2.1
theorem dL_law_799 : decode cL_law 799 = .ok (.iconst 1, 1) := dg_e94.2.2.2.2.2.2.2.2.2.2.2.2.2.2.2
theorem dg_e95 : (decode cL_law 800 = .ok (.iadd, 1)) ∧ (decode cL_law 801 = .ok (.iaload, 1)) ∧ (decode cL_law 802 = .ok (.invokevirtual 108, 3)) ∧ (decode cL_law 805 = .ok (.pop, 1)) ∧ (decode cL_law 806 = .ok (.goto 475, 3)) ∧ (decode cL_law 809 = .ok (.aload_n 1, 1)) ∧ (decode cL_law 810 = .ok (.invokevirtual 109, 3)) ∧ (decode cL_law 813 = .ok (.pop, 1)) ∧ (decode cL_law 814 = .ok (.aload_n 2, 1)) ∧ (decode cL_law 815 = .ok (.invokevirtual 112, 3)) ∧ (decode cL_law 818 = .ok (.pop, 1)) ∧ (decode cL_law 819 = .ok (.goto 462, 3)) ∧ (decode cL_law 822 = .ok (.aload_n 1, 1)) ∧ (decode cL_law 823 = .ok (.invokevirtual 113, 3)) ∧ (decode cL_law 826 = .ok (.pop, 1)) ∧ (decode cL_law 827 = .ok (.aload_n 2, 1)) := by decide +kernel
theorem dL_law_800 : decode cL_law 800 = .ok (.iadd, 1) := dg_e95.1
theorem dL_law_801 : decode cL_law 801 = .ok (.iaload, 1) := dg_e95.2.1
theorem dL_law_802 : decode cL_law 802 = .ok (.invokevirtual 108, 3) := dg_e95.2.2.1
theorem dL_law_805 : decode cL_law 805 = .ok (.pop, 1) := dg_e95.2.2.2.1
theorem dL_law_806 : decode cL_law 806 = .ok (.goto 475, 3) := dg_e95.2.2.2.2.1
theorem dL_law_809 : decode cL_law 809 = .ok (.aload_n 1, 1) := dg_e95.2.2.2.2.2.1
theorem dL_law_810 : decode cL_law 810 = .ok (.invokevirtual 109, 3) := dg_e95.2.2.2.2.2.2.1
theorem dL_law_813 : decode cL_law 813 = .ok (.pop, 1) := dg_e95.2.2.2.2.2.2.2.1
theorem dL_law_814 : decode cL_law 814 = .ok (.aload_n 2, 1) := dg_e95.2.2.2.2.2.2.2.2.1
theorem dL_law_815 : decode cL_law 815 = .ok (.invokevirtual 112, 3) := dg_e95.2.2.2.2.2.2.2.2.2.1
theorem dL_law_818 : decode cL_law 818 = .ok (.pop, 1) := dg_e95.2.2.2.2.2.2.2.2.2.2.1
theorem dL_law_819 : decode cL_law 819 = .ok (.goto 462, 3) := dg_e95.2.2.2.2.2.2.2.2.2.2.2.1
theorem dL_law_822 : decode cL_law 822 = .ok (.aload_n 1, 1) := dg_e95.2.2.2.2.2.2.2.2.2.2.2.2.1
theorem dL_law_823 : decode cL_law 823 = .ok (.invokevirtual 113, 3) := dg_e95.2.2.2.2.2.2.2.2.2.2.2.2.2.1
theorem dL_law_826 : decode cL_law 826 = .ok (.pop, 1) := dg_e95.2.2.2.2.2.2.2.2.2.2.2.2.2.2.1
theorem dL_law_827 : decode cL_law 827 = .ok (.aload_n 2, 1) := dg_e95.2.2.2.2.2.2.2.2.2.2.2.2.2.2.2
theorem dg_e96 : (decode cL_law 828 = .ok (.invokevirtual 116, 3)) ∧ (decode cL_law 831 = .ok (.pop, 1)) ∧ (decode cL_law 832 = .ok (.goto 449, 3)) ∧ (decode cL_law 835 = .ok (.aload_n 1, 1)) ∧ (decode cL_law 836 = .ok (.aload_n 0, 1)) ∧ (decode cL_law 837 = .ok (.iload_n 3, 1)) ∧ (decode cL_law 838 = .ok (.iconst 1, 1)) ∧ (decode cL_law 839 = .ok (.iadd, 1)) ∧ (decode cL_law 840 = .ok (.iaload, 1)) ∧ (decode cL_law 841 = .ok (.aload_n 0, 1)) ∧ (decode cL_law 842 = .ok (.iload_n 3, 1)) ∧ (decode cL_law 843 = .ok (.iconst 2, 1)) ∧ (decode cL_law 844 = .ok (.iadd, 1)) ∧ (decode cL_law 845 = .ok (.iaload, 1)) ∧ (decode cL_law 846 = .ok (.invokevirtual 117, 3)) ∧ (decode cL_law 849 = .ok (.aload_n 2, 1)) := by decide +kernel
theorem dL_law_828 : decode cL_law 828 = .ok (.invokevirtual 116, 3) := dg_e96.1
theorem dL_law_831 : decode cL_law 831 = .ok (.pop, 1) := dg_e96.2.1
theorem dL_law_832 : decode cL_law 832 = .ok (.goto 449, 3) := dg_e96.2.2.1
theorem dL_law_835 : decode cL_law 835 = .ok (.aload_n 1, 1) := dg_e96.2.2.2.1
theorem dL_law_836 : decode cL_law 836 = .ok (.aload_n 0, 1) := dg_e96.2.2.2.2.1
theorem dL_law_837 : decode cL_law 837 = .ok (.iload_n 3, 1) := dg_e96.2.2.2.2.2.1
theorem dL_law_838 : decode cL_law 838 = .ok (.iconst 1, 1) := dg_e96.2.2.2.2.2.2.1
theorem dL_law_839 : decode cL_law 839 = .ok (.iadd, 1) := dg_e96.2.2.2.2.2.2.2.1
theorem dL_law_840 : decode cL_law 840 = .ok (.iaload, 1) := dg_e96.2.2.2.2.2.2.2.2.1
theorem dL_law_841 : decode cL_law 841 = .ok (.aload_n 0, 1) := dg_e96.2.2.2.2.2.2.2.2.2.1
theorem dL_law_842 : decode cL_law 842 = .ok (.iload_n 3, 1) := dg_e96.2.2.2.2.2.2.2.2.2.2.1
theorem dL_law_843 : decode cL_law 843 = .ok (.iconst 2, 1) := dg_e96.2.2.2.2.2.2.2.2.2.2.2.1
theorem dL_law_844 : decode cL_law 844 = .ok (.iadd, 1) := dg_e96.2.2.2.2.2.2.2.2.2.2.2.2.1
theorem dL_law_845 : decode cL_law 845 = .ok (.iaload, 1) := dg_e96.2.2.2.2.2.2.2.2.2.2.2.2.2.1
theorem dL_law_846 : decode cL_law 846 = .ok (.invokevirtual 117, 3) := dg_e96.2.2.2.2.2.2.2.2.2.2.2.2.2.2.1
theorem dL_law_849 : decode cL_law 849 = .ok (.aload_n 2, 1) := dg_e96.2.2.2.2.2.2.2.2.2.2.2.2.2.2.2
theorem dg_e97 : (decode cL_law 850 = .ok (.aload_n 0, 1)) ∧ (decode cL_law 851 = .ok (.iload_n 3, 1)) ∧ (decode cL_law 852 = .ok (.iconst 1, 1)) ∧ (decode cL_law 853 = .ok (.iadd, 1)) ∧ (decode cL_law 854 = .ok (.iaload, 1)) ∧ (decode cL_law 855 = .ok (.aload_n 0, 1)) ∧ (decode cL_law 856 = .ok (.iload_n 3, 1)) ∧ (decode cL_law 857 = .ok (.iconst 2, 1)) ∧ (decode cL_law 858 = .ok (.iadd, 1)) ∧ (decode cL_law 859 = .ok (.iaload, 1)) ∧ (decode cL_law 860 = .ok (.invokevirtual 121, 3)) ∧ (decode cL_law 863 = .ok (.lcmp, 1)) ∧ (decode cL_law 864 = .ok (.ifCond .eq 417, 3)) ∧ (decode cL_law 867 = .ok (.iconst 0, 1)) ∧ (decode cL_law 868 = .ok (.ireturn, 1)) ∧ (decode cL_law 869 = .ok (.aload_n 1, 1)) := by decide +kernel
theorem dL_law_850 : decode cL_law 850 = .ok (.aload_n 0, 1) := dg_e97.1
theorem dL_law_851 : decode cL_law 851 = .ok (.iload_n 3, 1) := dg_e97.2.1
theorem dL_law_852 : decode cL_law 852 = .ok (.iconst 1, 1) := dg_e97.2.2.1
theorem dL_law_853 : decode cL_law 853 = .ok (.iadd, 1) := dg_e97.2.2.2.1
theorem dL_law_854 : decode cL_law 854 = .ok (.iaload, 1) := dg_e97.2.2.2.2.1
theorem dL_law_855 : decode cL_law 855 = .ok (.aload_n 0, 1) := dg_e97.2.2.2.2.2.1
theorem dL_law_856 : decode cL_law 856 = .ok (.iload_n 3, 1) := dg_e97.2.2.2.2.2.2.1
theorem dL_law_857 : decode cL_law 857 = .ok (.iconst 2, 1) := dg_e97.2.2.2.2.2.2.2.1
theorem dL_law_858 : decode cL_law 858 = .ok (.iadd, 1) := dg_e97.2.2.2.2.2.2.2.2.1
theorem dL_law_859 : decode cL_law 859 = .ok (.iaload, 1) := dg_e97.2.2.2.2.2.2.2.2.2.1
theorem dL_law_860 : decode cL_law 860 = .ok (.invokevirtual 121, 3) := dg_e97.2.2.2.2.2.2.2.2.2.2.1
theorem dL_law_863 : decode cL_law 863 = .ok (.lcmp, 1) := dg_e97.2.2.2.2.2.2.2.2.2.2.2.1
theorem dL_law_864 : decode cL_law 864 = .ok (.ifCond .eq 417, 3) := dg_e97.2.2.2.2.2.2.2.2.2.2.2.2.1
theorem dL_law_867 : decode cL_law 867 = .ok (.iconst 0, 1) := dg_e97.2.2.2.2.2.2.2.2.2.2.2.2.2.1
theorem dL_law_868 : decode cL_law 868 = .ok (.ireturn, 1) := dg_e97.2.2.2.2.2.2.2.2.2.2.2.2.2.2.1
theorem dL_law_869 : decode cL_law 869 = .ok (.aload_n 1, 1) := dg_e97.2.2.2.2.2.2.2.2.2.2.2.2.2.2.2
theorem dg_e98 : (decode cL_law 870 = .ok (.aload_n 0, 1)) ∧ (decode cL_law 871 = .ok (.iload_n 3, 1)) ∧ (decode cL_law 872 = .ok (.iconst 1, 1)) ∧ (decode cL_law 873 = .ok (.iadd, 1)) ∧ (decode cL_law 874 = .ok (.iaload, 1)) ∧ (decode cL_law 875 = .ok (.aload_n 0, 1)) ∧ (decode cL_law 876 = .ok (.iload_n 3, 1)) ∧ (decode cL_law 877 = .ok (.iconst 2, 1)) ∧ (decode cL_law 878 = .ok (.iadd, 1)) ∧ (decode cL_law 879 = .ok (.iaload, 1)) ∧ (decode cL_law 880 = .ok (.invokevirtual 122, 3)) ∧ (decode cL_law 883 = .ok (.pop2, 1)) ∧ (decode cL_law 884 = .ok (.aload_n 2, 1)) ∧ (decode cL_law 885 = .ok (.aload_n 0, 1)) ∧ (decode cL_law 886 = .ok (.iload_n 3, 1)) ∧ (decode cL_law 887 = .ok (.iconst 1, 1)) := by decide +kernel
theorem dL_law_870 : decode cL_law 870 = .ok (.aload_n 0, 1) := dg_e98.1
theorem dL_law_871 : decode cL_law 871 = .ok (.iload_n 3, 1) := dg_e98.2.1
theorem dL_law_872 : decode cL_law 872 = .ok (.iconst 1, 1) := dg_e98.2.2.1
theorem dL_law_873 : decode cL_law 873 = .ok (.iadd, 1) := dg_e98.2.2.2.1
theorem dL_law_874 : decode cL_law 874 = .ok (.iaload, 1) := dg_e98.2.2.2.2.1
theorem dL_law_875 : decode cL_law 875 = .ok (.aload_n 0, 1) := dg_e98.2.2.2.2.2.1
theorem dL_law_876 : decode cL_law 876 = .ok (.iload_n 3, 1) := dg_e98.2.2.2.2.2.2.1
theorem dL_law_877 : decode cL_law 877 = .ok (.iconst 2, 1) := dg_e98.2.2.2.2.2.2.2.1
theorem dL_law_878 : decode cL_law 878 = .ok (.iadd, 1) := dg_e98.2.2.2.2.2.2.2.2.1
theorem dL_law_879 : decode cL_law 879 = .ok (.iaload, 1) := dg_e98.2.2.2.2.2.2.2.2.2.1
theorem dL_law_880 : decode cL_law 880 = .ok (.invokevirtual 122, 3) := dg_e98.2.2.2.2.2.2.2.2.2.2.1
theorem dL_law_883 : decode cL_law 883 = .ok (.pop2, 1) := dg_e98.2.2.2.2.2.2.2.2.2.2.2.1
theorem dL_law_884 : decode cL_law 884 = .ok (.aload_n 2, 1) := dg_e98.2.2.2.2.2.2.2.2.2.2.2.2.1
theorem dL_law_885 : decode cL_law 885 = .ok (.aload_n 0, 1) := dg_e98.2.2.2.2.2.2.2.2.2.2.2.2.2.1
theorem dL_law_886 : decode cL_law 886 = .ok (.iload_n 3, 1) := dg_e98.2.2.2.2.2.2.2.2.2.2.2.2.2.2.1
theorem dL_law_887 : decode cL_law 887 = .ok (.iconst 1, 1) := dg_e98.2.2.2.2.2.2.2.2.2.2.2.2.2.2.2
theorem dg_e99 : (decode cL_law 888 = .ok (.iadd, 1)) ∧ (decode cL_law 889 = .ok (.iaload, 1)) ∧ (decode cL_law 890 = .ok (.aload_n 0, 1)) ∧ (decode cL_law 891 = .ok (.iload_n 3, 1)) ∧ (decode cL_law 892 = .ok (.iconst 2, 1)) ∧ (decode cL_law 893 = .ok (.iadd, 1)) ∧ (decode cL_law 894 = .ok (.iaload, 1)) ∧ (decode cL_law 895 = .ok (.invokevirtual 125, 3)) ∧ (decode cL_law 898 = .ok (.pop2, 1)) ∧ (decode cL_law 899 = .ok (.goto 382, 3)) ∧ (decode cL_law 902 = .ok (.aload_n 1, 1)) ∧ (decode cL_law 903 = .ok (.aload_n 0, 1)) ∧ (decode cL_law 904 = .ok (.iload_n 3, 1)) ∧ (decode cL_law 905 = .ok (.iconst 1, 1)) ∧ (decode cL_law 906 = .ok (.iadd, 1)) ∧ (decode cL_law 907 = .ok (.iaload, 1)) := by decide +kernel
theorem dL_law_888 : decode cL_law 888 = .ok (.iadd, 1) := dg_e99.1
theorem dL_law_889 : decode cL_law 889 = .ok (.iaload, 1) := dg_e99.2.1
theorem dL_law_890 : decode cL_law 890 = .ok (.aload_n 0, 1) := dg_e99.2.2.1
theorem dL_law_891 : decode cL_law 891 = .ok (.iload_n 3, 1) := dg_e99.2.2.2.1
theorem dL_law_892 : decode cL_law 892 = .ok (.iconst 2, 1) := dg_e99.2.2.2.2.1
theorem dL_law_893 : decode cL_law 893 = .ok (.iadd, 1) := dg_e99.2.2.2.2.2.1
theorem dL_law_894 : decode cL_law 894 = .ok (.iaload, 1) := dg_e99.2.2.2.2.2.2.1
theorem dL_law_895 : decode cL_law 895 = .ok (.invokevirtual 125, 3) := dg_e99.2.2.2.2.2.2.2.1
theorem dL_law_898 : decode cL_law 898 = .ok (.pop2, 1) := dg_e99.2.2.2.2.2.2.2.2.1
theorem dL_law_899 : decode cL_law 899 = .ok (.goto 382, 3) := dg_e99.2.2.2.2.2.2.2.2.2.1
theorem dL_law_902 : decode cL_law 902 = .ok (.aload_n 1, 1) := dg_e99.2.2.2.2.2.2.2.2.2.2.1
theorem dL_law_903 : decode cL_law 903 = .ok (.aload_n 0, 1) := dg_e99.2.2.2.2.2.2.2.2.2.2.2.1
theorem dL_law_904 : decode cL_law 904 = .ok (.iload_n 3, 1) := dg_e99.2.2.2.2.2.2.2.2.2.2.2.2.1
theorem dL_law_905 : decode cL_law 905 = .ok (.iconst 1, 1) := dg_e99.2.2.2.2.2.2.2.2.2.2.2.2.2.1
theorem dL_law_906 : decode cL_law 906 = .ok (.iadd, 1) := dg_e99.2.2.2.2.2.2.2.2.2.2.2.2.2.2.1
theorem dL_law_907 : decode cL_law 907 = .ok (.iaload, 1) := dg_e99.2.2.2.2.2.2.2.2.2.2.2.2.2.2.2
theorem dg_e100 : (decode cL_law 908 = .ok (.aload_n 0, 1)) ∧ (decode cL_law 909 = .ok (.iload_n 3, 1)) ∧ (decode cL_law 910 = .ok (.iconst 2, 1)) ∧ (decode cL_law 911 = .ok (.iadd, 1)) ∧ (decode cL_law 912 = .ok (.iaload, 1)) ∧ (decode cL_law 913 = .ok (.invokevirtual 126, 3)) ∧ (decode cL_law 916 = .ok (.pop, 1)) ∧ (decode cL_law 917 = .ok (.aload_n 2, 1)) ∧ (decode cL_law 918 = .ok (.aload_n 0, 1)) ∧ (decode cL_law 919 = .ok (.iload_n 3, 1)) ∧ (decode cL_law 920 = .ok (.iconst 1, 1)) ∧ (decode cL_law 921 = .ok (.iadd, 1)) ∧ (decode cL_law 922 = .ok (.iaload, 1)) ∧ (decode cL_law 923 = .ok (.aload_n 0, 1)) ∧ (decode cL_law 924 = .ok (.iload_n 3, 1)) ∧ (decode cL_law 925 = .ok (.iconst 2, 1)) := by decide +kernel
theorem dL_law_908 : decode cL_law 908 = .ok (.aload_n 0, 1) := dg_e100.1
theorem dL_law_909 : decode cL_law 909 = .ok (.iload_n 3, 1) := dg_e100.2.1
theorem dL_law_910 : decode cL_law 910 = .ok (.iconst 2, 1) := dg_e100.2.2.1
theorem dL_law_911 : decode cL_law 911 = .ok (.iadd, 1) := dg_e100.2.2.2.1
theorem dL_law_912 : decode cL_law 912 = .ok (.iaload, 1) := dg_e100.2.2.2.2.1
theorem dL_law_913 : decode cL_law 913 = .ok (.invokevirtual 126, 3) := dg_e100.2.2.2.2.2.1
theorem dL_law_916 : decode cL_law 916 = .ok (.pop, 1) := dg_e100.2.2.2.2.2.2.1
theorem dL_law_917 : decode cL_law 917 = .ok (.aload_n 2, 1) := dg_e100.2.2.2.2.2.2.2.1
theorem dL_law_918 : decode cL_law 918 = .ok (.aload_n 0, 1) := dg_e100.2.2.2.2.2.2.2.2.1
theorem dL_law_919 : decode cL_law 919 = .ok (.iload_n 3, 1) := dg_e100.2.2.2.2.2.2.2.2.2.1
theorem dL_law_920 : decode cL_law 920 = .ok (.iconst 1, 1) := dg_e100.2.2.2.2.2.2.2.2.2.2.1
theorem dL_law_921 : decode cL_law 921 = .ok (.iadd, 1) := dg_e100.2.2.2.2.2.2.2.2.2.2.2.1
theorem dL_law_922 : decode cL_law 922 = .ok (.iaload, 1) := dg_e100.2.2.2.2.2.2.2.2.2.2.2.2.1
theorem dL_law_923 : decode cL_law 923 = .ok (.aload_n 0, 1) := dg_e100.2.2.2.2.2.2.2.2.2.2.2.2.2.1
theorem dL_law_924 : decode cL_law 924 = .ok (.iload_n 3, 1) := dg_e100.2.2.2.2.2.2.2.2.2.2.2.2.2.2.1
theorem dL_law_925 : decode cL_law 925 = .ok (.iconst 2, 1) := dg_e100.2.2.2.2.2.2.2.2.2.2.2.2.2.2.2
theorem dg_e101 : (decode cL_law 926 = .ok (.iadd, 1)) ∧ (decode cL_law 927 = .ok (.iaload, 1)) ∧ (decode cL_law 928 = .ok (.invokevirtual 129, 3)) ∧ (decode cL_law 931 = .ok (.pop, 1)) ∧ (decode cL_law 932 = .ok (.goto 349, 3)) ∧ (decode cL_law 935 = .ok (.aload_n 1, 1)) ∧ (decode cL_law 936 = .ok (.aload_n 0, 1)) ∧ (decode cL_law 937 = .ok (.iload_n 3, 1)) ∧ (decode cL_law 938 = .ok (.iconst 1, 1)) ∧ (decode cL_law 939 = .ok (.iadd, 1)) ∧ (decode cL_law 940 = .ok (.iaload, 1)) ∧ (decode cL_law 941 = .ok (.invokevirtual 130, 3)) ∧ (decode cL_law 944 = .ok (.pop, 1)) ∧ (decode cL_law 945 = .ok (.aload_n 2, 1)) ∧ (decode cL_law 946 = .ok (.aload_n 0, 1)) ∧ (decode cL_law 947 = .ok (.iload_n 3, 1)) := by decide +kernel
theorem dL_law_926 : decode cL_law 926 = .ok (.iadd, 1) := dg_e101.1
theorem dL_law_927 : decode cL_law 927 = .ok (.iaload, 1) := dg_e101.2.1
theorem dL_law_928 : decode cL_law 928 = .ok (.invokevirtual 129, 3) := dg_e101.2.2.1
theorem dL_law_931 : decode cL_law 931 = .ok (.pop, 1) := dg_e101.2.2.2.1
theorem dL_law_932 : decode cL_law 932 = .ok (.goto 349, 3) := dg_e101.2.2.2.2.1
theorem dL_law_935 : decode cL_law 935 = .ok (.aload_n 1, 1) := dg_e101.2.2.2.2.2.1
theorem dL_law_936 : decode cL_law 936 = .ok (.aload_n 0, 1) := dg_e101.2.2.2.2.2.2.1
theorem dL_law_937 : decode cL_law 937 = .ok (.iload_n 3, 1) := dg_e101.2.2.2.2.2.2.2.1
theorem dL_law_938 : decode cL_law 938 = .ok (.iconst 1, 1) := dg_e101.2.2.2.2.2.2.2.2.1
theorem dL_law_939 : decode cL_law 939 = .ok (.iadd, 1) := dg_e101.2.2.2.2.2.2.2.2.2.1
theorem dL_law_940 : decode cL_law 940 = .ok (.iaload, 1) := dg_e101.2.2.2.2.2.2.2.2.2.2.1
theorem dL_law_941 : decode cL_law 941 = .ok (.invokevirtual 130, 3) := dg_e101.2.2.2.2.2.2.2.2.2.2.2.1
theorem dL_law_944 : decode cL_law 944 = .ok (.pop, 1) := dg_e101.2.2.2.2.2.2.2.2.2.2.2.2.1
theorem dL_law_945 : decode cL_law 945 = .ok (.aload_n 2, 1) := dg_e101.2.2.2.2.2.2.2.2.2.2.2.2.2.1
theorem dL_law_946 : decode cL_law 946 = .ok (.aload_n 0, 1) := dg_e101.2.2.2.2.2.2.2.2.2.2.2.2.2.2.1
theorem dL_law_947 : decode cL_law 947 = .ok (.iload_n 3, 1) := dg_e101.2.2.2.2.2.2.2.2.2.2.2.2.2.2.2
theorem dg_e102 : (decode cL_law 948 = .ok (.iconst 1, 1)) ∧ (decode cL_law 949 = .ok (.iadd, 1)) ∧ (decode cL_law 950 = .ok (.iaload, 1)) ∧ (decode cL_law 951 = .ok (.invokevirtual 133, 3)) ∧ (decode cL_law 954 = .ok (.pop, 1)) ∧ (decode cL_law 955 = .ok (.goto 326, 3)) ∧ (decode cL_law 958 = .ok (.aload_n 1, 1)) ∧ (decode cL_law 959 = .ok (.aload_n 0, 1)) ∧ (decode cL_law 960 = .ok (.iload_n 3, 1)) ∧ (decode cL_law 961 = .ok (.iconst 1, 1)) ∧ (decode cL_law 962 = .ok (.iadd, 1)) ∧ (decode cL_law 963 = .ok (.iaload, 1)) ∧ (decode cL_law 964 = .ok (.invokevirtual 134, 3)) ∧ (decode cL_law 967 = .ok (.pop, 1)) ∧ (decode cL_law 968 = .ok (.aload_n 2, 1)) ∧ (decode cL_law 969 = .ok (.aload_n 0, 1)) := by decide +kernel
theorem dL_law_948 : decode cL_law 948 = .ok (.iconst 1, 1) := dg_e102.1
theorem dL_law_949 : decode cL_law 949 = .ok (.iadd, 1) := dg_e102.2.1
theorem dL_law_950 : decode cL_law 950 = .ok (.iaload, 1) := dg_e102.2.2.1
theorem dL_law_951 : decode cL_law 951 = .ok (.invokevirtual 133, 3) := dg_e102.2.2.2.1
theorem dL_law_954 : decode cL_law 954 = .ok (.pop, 1) := dg_e102.2.2.2.2.1
theorem dL_law_955 : decode cL_law 955 = .ok (.goto 326, 3) := dg_e102.2.2.2.2.2.1
theorem dL_law_958 : decode cL_law 958 = .ok (.aload_n 1, 1) := dg_e102.2.2.2.2.2.2.1
theorem dL_law_959 : decode cL_law 959 = .ok (.aload_n 0, 1) := dg_e102.2.2.2.2.2.2.2.1
theorem dL_law_960 : decode cL_law 960 = .ok (.iload_n 3, 1) := dg_e102.2.2.2.2.2.2.2.2.1
theorem dL_law_961 : decode cL_law 961 = .ok (.iconst 1, 1) := dg_e102.2.2.2.2.2.2.2.2.2.1
theorem dL_law_962 : decode cL_law 962 = .ok (.iadd, 1) := dg_e102.2.2.2.2.2.2.2.2.2.2.1
theorem dL_law_963 : decode cL_law 963 = .ok (.iaload, 1) := dg_e102.2.2.2.2.2.2.2.2.2.2.2.1
theorem dL_law_964 : decode cL_law 964 = .ok (.invokevirtual 134, 3) := dg_e102.2.2.2.2.2.2.2.2.2.2.2.2.1
theorem dL_law_967 : decode cL_law 967 = .ok (.pop, 1) := dg_e102.2.2.2.2.2.2.2.2.2.2.2.2.2.1
theorem dL_law_968 : decode cL_law 968 = .ok (.aload_n 2, 1) := dg_e102.2.2.2.2.2.2.2.2.2.2.2.2.2.2.1
theorem dL_law_969 : decode cL_law 969 = .ok (.aload_n 0, 1) := dg_e102.2.2.2.2.2.2.2.2.2.2.2.2.2.2.2
theorem dg_e103 : (decode cL_law 970 = .ok (.iload_n 3, 1)) ∧ (decode cL_law 971 = .ok (.iconst 1, 1)) ∧ (decode cL_law 972 = .ok (.iadd, 1)) ∧ (decode cL_law 973 = .ok (.iaload, 1)) ∧ (decode cL_law 974 = .ok (.invokevirtual 137, 3)) ∧ (decode cL_law 977 = .ok (.pop, 1)) ∧ (decode cL_law 978 = .ok (.goto 303, 3)) ∧ (decode cL_law 981 = .ok (.aload_n 1, 1)) ∧ (decode cL_law 982 = .ok (.invokevirtual 138, 3)) ∧ (decode cL_law 985 = .ok (.pop, 1)) ∧ (decode cL_law 986 = .ok (.aload_n 2, 1)) ∧ (decode cL_law 987 = .ok (.invokevirtual 141, 3)) ∧ (decode cL_law 990 = .ok (.pop, 1)) ∧ (decode cL_law 991 = .ok (.goto 290, 3)) ∧ (decode cL_law 994 = .ok (.aload_n 1, 1)) ∧ (decode cL_law 995 = .ok (.aload_n 0, 1)) := by decide +kernel
theorem dL_law_970 : decode cL_law 970 = .ok (.iload_n 3, 1) := dg_e103.1
theorem dL_law_971 : decode cL_law 971 = .ok (.iconst 1, 1) := dg_e103.2.1
theorem dL_law_972 : decode cL_law 972 = .ok (.iadd, 1) := dg_e103.2.2.1
theorem dL_law_973 : decode cL_law 973 = .ok (.iaload, 1) := dg_e103.2.2.2.1
theorem dL_law_974 : decode cL_law 974 = .ok (.invokevirtual 137, 3) := dg_e103.2.2.2.2.1
theorem dL_law_977 : decode cL_law 977 = .ok (.pop, 1) := dg_e103.2.2.2.2.2.1
theorem dL_law_978 : decode cL_law 978 = .ok (.goto 303, 3) := dg_e103.2.2.2.2.2.2.1
theorem dL_law_981 : decode cL_law 981 = .ok (.aload_n 1, 1) := dg_e103.2.2.2.2.2.2.2.1
theorem dL_law_982 : decode cL_law 982 = .ok (.invokevirtual 138, 3) := dg_e103.2.2.2.2.2.2.2.2.1
theorem dL_law_985 : decode cL_law 985 = .ok (.pop, 1) := dg_e103.2.2.2.2.2.2.2.2.2.1
theorem dL_law_986 : decode cL_law 986 = .ok (.aload_n 2, 1) := dg_e103.2.2.2.2.2.2.2.2.2.2.1
theorem dL_law_987 : decode cL_law 987 = .ok (.invokevirtual 141, 3) := dg_e103.2.2.2.2.2.2.2.2.2.2.2.1
theorem dL_law_990 : decode cL_law 990 = .ok (.pop, 1) := dg_e103.2.2.2.2.2.2.2.2.2.2.2.2.1
theorem dL_law_991 : decode cL_law 991 = .ok (.goto 290, 3) := dg_e103.2.2.2.2.2.2.2.2.2.2.2.2.2.1
theorem dL_law_994 : decode cL_law 994 = .ok (.aload_n 1, 1) := dg_e103.2.2.2.2.2.2.2.2.2.2.2.2.2.2.1
theorem dL_law_995 : decode cL_law 995 = .ok (.aload_n 0, 1) := dg_e103.2.2.2.2.2.2.2.2.2.2.2.2.2.2.2
theorem dg_e104 : (decode cL_law 996 = .ok (.iload_n 3, 1)) ∧ (decode cL_law 997 = .ok (.iconst 1, 1)) ∧ (decode cL_law 998 = .ok (.iadd, 1)) ∧ (decode cL_law 999 = .ok (.iaload, 1)) ∧ (decode cL_law 1000 = .ok (.invokevirtual 142, 3)) ∧ (decode cL_law 1003 = .ok (.pop, 1)) ∧ (decode cL_law 1004 = .ok (.aload_n 2, 1)) ∧ (decode cL_law 1005 = .ok (.aload_n 0, 1)) ∧ (decode cL_law 1006 = .ok (.iload_n 3, 1)) ∧ (decode cL_law 1007 = .ok (.iconst 1, 1)) ∧ (decode cL_law 1008 = .ok (.iadd, 1)) ∧ (decode cL_law 1009 = .ok (.iaload, 1)) ∧ (decode cL_law 1010 = .ok (.invokevirtual 145, 3)) ∧ (decode cL_law 1013 = .ok (.pop, 1)) ∧ (decode cL_law 1014 = .ok (.goto 267, 3)) ∧ (decode cL_law 1017 = .ok (.aload_n 1, 1)) := by decide +kernel
theorem dL_law_996 : decode cL_law 996 = .ok (.iload_n 3, 1) := dg_e104.1
theorem dL_law_997 : decode cL_law 997 = .ok (.iconst 1, 1) := dg_e104.2.1
theorem dL_law_998 : decode cL_law 998 = .ok (.iadd, 1) := dg_e104.2.2.1
theorem dL_law_999 : decode cL_law 999 = .ok (.iaload, 1) := dg_e104.2.2.2.1
theorem dL_law_1000 : decode cL_law 1000 = .ok (.invokevirtual 142, 3) := dg_e104.2.2.2.2.1
theorem dL_law_1003 : decode cL_law 1003 = .ok (.pop, 1) := dg_e104.2.2.2.2.2.1
theorem dL_law_1004 : decode cL_law 1004 = .ok (.aload_n 2, 1) := dg_e104.2.2.2.2.2.2.1
theorem dL_law_1005 : decode cL_law 1005 = .ok (.aload_n 0, 1) := dg_e104.2.2.2.2.2.2.2.1
theorem dL_law_1006 : decode cL_law 1006 = .ok (.iload_n 3, 1) := dg_e104.2.2.2.2.2.2.2.2.1
theorem dL_law_1007 : decode cL_law 1007 = .ok (.iconst 1, 1) := dg_e104.2.2.2.2.2.2.2.2.2.1
theorem dL_law_1008 : decode cL_law 1008 = .ok (.iadd, 1) := dg_e104.2.2.2.2.2.2.2.2.2.2.1
theorem dL_law_1009 : decode cL_law 1009 = .ok (.iaload, 1) := dg_e104.2.2.2.2.2.2.2.2.2.2.2.1
theorem dL_law_1010 : decode cL_law 1010 = .ok (.invokevirtual 145, 3) := dg_e104.2.2.2.2.2.2.2.2.2.2.2.2.1
theorem dL_law_1013 : decode cL_law 1013 = .ok (.pop, 1) := dg_e104.2.2.2.2.2.2.2.2.2.2.2.2.2.1
theorem dL_law_1014 : decode cL_law 1014 = .ok (.goto 267, 3) := dg_e104.2.2.2.2.2.2.2.2.2.2.2.2.2.2.1
theorem dL_law_1017 : decode cL_law 1017 = .ok (.aload_n 1, 1) := dg_e104.2.2.2.2.2.2.2.2.2.2.2.2.2.2.2
theorem dg_e105 : (decode cL_law 1018 = .ok (.aload_n 0, 1)) ∧ (decode cL_law 1019 = .ok (.iload_n 3, 1)) ∧ (decode cL_law 1020 = .ok (.iconst 1, 1)) ∧ (decode cL_law 1021 = .ok (.iadd, 1)) ∧ (decode cL_law 1022 = .ok (.iaload, 1)) ∧ (decode cL_law 1023 = .ok (.aload_n 0, 1)) ∧ (decode cL_law 1024 = .ok (.iload_n 3, 1)) ∧ (decode cL_law 1025 = .ok (.iconst 2, 1)) ∧ (decode cL_law 1026 = .ok (.iadd, 1)) ∧ (decode cL_law 1027 = .ok (.iaload, 1)) ∧ (decode cL_law 1028 = .ok (.aload_n 0, 1)) ∧ (decode cL_law 1029 = .ok (.iload_n 3, 1)) ∧ (decode cL_law 1030 = .ok (.iconst 3, 1)) ∧ (decode cL_law 1031 = .ok (.iadd, 1)) ∧ (decode cL_law 1032 = .ok (.iaload, 1)) ∧ (decode cL_law 1033 = .ok (.invokevirtual 146, 3)) := by decide +kernel
theorem dL_law_1018 : decode cL_law 1018 = .ok (.aload_n 0, 1) := dg_e105.1
theorem dL_law_1019 : decode cL_law 1019 = .ok (.iload_n 3, 1) := dg_e105.2.1
theorem dL_law_1020 : decode cL_law 1020 = .ok (.iconst 1, 1) := dg_e105.2.2.1
theorem dL_law_1021 : decode cL_law 1021 = .ok (.iadd, 1) := dg_e105.2.2.2.1
theorem dL_law_1022 : decode cL_law 1022 = .ok (.iaload, 1) := dg_e105.2.2.2.2.1
theorem dL_law_1023 : decode cL_law 1023 = .ok (.aload_n 0, 1) := dg_e105.2.2.2.2.2.1
theorem dL_law_1024 : decode cL_law 1024 = .ok (.iload_n 3, 1) := dg_e105.2.2.2.2.2.2.1
theorem dL_law_1025 : decode cL_law 1025 = .ok (.iconst 2, 1) := dg_e105.2.2.2.2.2.2.2.1
theorem dL_law_1026 : decode cL_law 1026 = .ok (.iadd, 1) := dg_e105.2.2.2.2.2.2.2.2.1
theorem dL_law_1027 : decode cL_law 1027 = .ok (.iaload, 1) := dg_e105.2.2.2.2.2.2.2.2.2.1
theorem dL_law_1028 : decode cL_law 1028 = .ok (.aload_n 0, 1) := dg_e105.2.2.2.2.2.2.2.2.2.2.1
theorem dL_law_1029 : decode cL_law 1029 = .ok (.iload_n 3, 1) := dg_e105.2.2.2.2.2.2.2.2.2.2.2.1
theorem dL_law_1030 : decode cL_law 1030 = .ok (.iconst 3, 1) := dg_e105.2.2.2.2.2.2.2.2.2.2.2.2.1
theorem dL_law_1031 : decode cL_law 1031 = .ok (.iadd, 1) := dg_e105.2.2.2.2.2.2.2.2.2.2.2.2.2.1
theorem dL_law_1032 : decode cL_law 1032 = .ok (.iaload, 1) := dg_e105.2.2.2.2.2.2.2.2.2.2.2.2.2.2.1
theorem dL_law_1033 : decode cL_law 1033 = .ok (.invokevirtual 146, 3) := dg_e105.2.2.2.2.2.2.2.2.2.2.2.2.2.2.2
theorem dg_e106 : (decode cL_law 1036 = .ok (.pop, 1)) ∧ (decode cL_law 1037 = .ok (.aload_n 2, 1)) ∧ (decode cL_law 1038 = .ok (.aload_n 0, 1)) ∧ (decode cL_law 1039 = .ok (.iload_n 3, 1)) ∧ (decode cL_law 1040 = .ok (.iconst 1, 1)) ∧ (decode cL_law 1041 = .ok (.iadd, 1)) ∧ (decode cL_law 1042 = .ok (.iaload, 1)) ∧ (decode cL_law 1043 = .ok (.aload_n 0, 1)) ∧ (decode cL_law 1044 = .ok (.iload_n 3, 1)) ∧ (decode cL_law 1045 = .ok (.iconst 2, 1)) ∧ (decode cL_law 1046 = .ok (.iadd, 1)) ∧ (decode cL_law 1047 = .ok (.iaload, 1)) ∧ (decode cL_law 1048 = .ok (.aload_n 0, 1)) ∧ (decode cL_law 1049 = .ok (.iload_n 3, 1)) ∧ (decode cL_law 1050 = .ok (.iconst 3, 1)) ∧ (decode cL_law 1051 = .ok (.iadd, 1)) := by decide +kernel
theorem dL_law_1036 : decode cL_law 1036 = .ok (.pop, 1) := dg_e106.1
theorem dL_law_1037 : decode cL_law 1037 = .ok (.aload_n 2, 1) := dg_e106.2.1
theorem dL_law_1038 : decode cL_law 1038 = .ok (.aload_n 0, 1) := dg_e106.2.2.1
theorem dL_law_1039 : decode cL_law 1039 = .ok (.iload_n 3, 1) := dg_e106.2.2.2.1
theorem dL_law_1040 : decode cL_law 1040 = .ok (.iconst 1, 1) := dg_e106.2.2.2.2.1
theorem dL_law_1041 : decode cL_law 1041 = .ok (.iadd, 1) := dg_e106.2.2.2.2.2.1
theorem dL_law_1042 : decode cL_law 1042 = .ok (.iaload, 1) := dg_e106.2.2.2.2.2.2.1
theorem dL_law_1043 : decode cL_law 1043 = .ok (.aload_n 0, 1) := dg_e106.2.2.2.2.2.2.2.1
theorem dL_law_1044 : decode cL_law 1044 = .ok (.iload_n 3, 1) := dg_e106.2.2.2.2.2.2.2.2.1
theorem dL_law_1045 : decode cL_law 1045 = .ok (.iconst 2, 1) := dg_e106.2.2.2.2.2.2.2.2.2.1
theorem dL_law_1046 : decode cL_law 1046 = .ok (.iadd, 1) := dg_e106.2.2.2.2.2.2.2.2.2.2.1
theorem dL_law_1047 : decode cL_law 1047 = .ok (.iaload, 1) := dg_e106.2.2.2.2.2.2.2.2.2.2.2.1
theorem dL_law_1048 : decode cL_law 1048 = .ok (.aload_n 0, 1) := dg_e106.2.2.2.2.2.2.2.2.2.2.2.2.1
theorem dL_law_1049 : decode cL_law 1049 = .ok (.iload_n 3, 1) := dg_e106.2.2.2.2.2.2.2.2.2.2.2.2.2.1
theorem dL_law_1050 : decode cL_law 1050 = .ok (.iconst 3, 1) := dg_e106.2.2.2.2.2.2.2.2.2.2.2.2.2.2.1
theorem dL_law_1051 : decode cL_law 1051 = .ok (.iadd, 1) := dg_e106.2.2.2.2.2.2.2.2.2.2.2.2.2.2.2
theorem dg_e107 : (decode cL_law 1052 = .ok (.iaload, 1)) ∧ (decode cL_law 1053 = .ok (.invokevirtual 150, 3)) ∧ (decode cL_law 1056 = .ok (.pop, 1)) ∧ (decode cL_law 1057 = .ok (.goto 224, 3)) ∧ (decode cL_law 1060 = .ok (.aload_n 1, 1)) ∧ (decode cL_law 1061 = .ok (.aload_n 0, 1)) ∧ (decode cL_law 1062 = .ok (.iload_n 3, 1)) ∧ (decode cL_law 1063 = .ok (.iconst 1, 1)) ∧ (decode cL_law 1064 = .ok (.iadd, 1)) ∧ (decode cL_law 1065 = .ok (.iaload, 1)) ∧ (decode cL_law 1066 = .ok (.invokevirtual 151, 3)) ∧ (decode cL_law 1069 = .ok (.pop, 1)) ∧ (decode cL_law 1070 = .ok (.aload_n 2, 1)) ∧ (decode cL_law 1071 = .ok (.aload_n 0, 1)) ∧ (decode cL_law 1072 = .ok (.iload_n 3, 1)) ∧ (decode cL_law 1073 = .ok (.iconst 1, 1)) := by decide +kernel
theorem dL_law_1052 : decode cL_law 1052 = .ok (.iaload, 1) := dg_e107.1
theorem dL_law_1053 : decode cL_law 1053 = .ok (.invokevirtual 150, 3) := dg_e107.2.1
theorem dL_law_1056 : decode cL_law 1056 = .ok (.pop, 1) := dg_e107.2.2.1
theorem dL_law_1057 : decode cL_law 1057 = .ok (.goto 224, 3) := dg_e107.2.2.2.1
theorem dL_law_1060 : decode cL_law 1060 = .ok (.aload_n 1, 1) := dg_e107.2.2.2.2.1
theorem dL_law_1061 : decode cL_law 1061 = .ok (.aload_n 0, 1) := dg_e107.2.2.2.2.2.1
theorem dL_law_1062 : decode cL_law 1062 = .ok (.iload_n 3, 1) := dg_e107.2.2.2.2.2.2.1
theorem dL_law_1063 : decode cL_law 1063 = .ok (.iconst 1, 1) := dg_e107.2.2.2.2.2.2.2.1
theorem dL_law_1064 : decode cL_law 1064 = .ok (.iadd, 1) := dg_e107.2.2.2.2.2.2.2.2.1
theorem dL_law_1065 : decode cL_law 1065 = .ok (.iaload, 1) := dg_e107.2.2.2.2.2.2.2.2.2.1
theorem dL_law_1066 : decode cL_law 1066 = .ok (.invokevirtual 151, 3) := dg_e107.2.2.2.2.2.2.2.2.2.2.1
theorem dL_law_1069 : decode cL_law 1069 = .ok (.pop, 1) := dg_e107.2.2.2.2.2.2.2.2.2.2.2.1
theorem dL_law_1070 : decode cL_law 1070 = .ok (.aload_n 2, 1) := dg_e107.2.2.2.2.2.2.2.2.2.2.2.2.1
theorem dL_law_1071 : decode cL_law 1071 = .ok (.aload_n 0, 1) := dg_e107.2.2.2.2.2.2.2.2.2.2.2.2.2.1
theorem dL_law_1072 : decode cL_law 1072 = .ok (.iload_n 3, 1) := dg_e107.2.2.2.2.2.2.2.2.2.2.2.2.2.2.1
theorem dL_law_1073 : decode cL_law 1073 = .ok (.iconst 1, 1) := dg_e107.2.2.2.2.2.2.2.2.2.2.2.2.2.2.2
theorem dg_e108 : (decode cL_law 1074 = .ok (.iadd, 1)) ∧ (decode cL_law 1075 = .ok (.iaload, 1)) ∧ (decode cL_law 1076 = .ok (.invokevirtual 154, 3)) := by decide +kernel
theorem dL_law_1074 : decode cL_law 1074 = .ok (.iadd, 1) := dg_e108.1
theorem dL_law_1075 : decode cL_law 1075 = .ok (.iaload, 1) := dg_e108.2.1
theorem dL_law_1076 : decode cL_law 1076 = .ok (.invokevirtual 154, 3) := dg_e108.2.2
