theorem dg_c0 : (decode cX7_fits 21 = .ok (.getfield 19, 3)) ∧ (decode cX7_fits 24 = .ok (.getfield 94, 3)) ∧ (decode cX7_fits 27 = .ok (.ishl, 1)) ∧ (decode cX7_fits 28 = .ok (.if_icmp .ge 58, 3)) ∧ (decode cX7_fits 31 = .ok (.aload_n 0, 1)) ∧ (decode cX7_fits 32 = .ok (.getfield 26, 3)) ∧ (decode cX7_fits 35 = .ok (.aload_n 0, 1)) ∧ (decode cX7_fits 36 = .ok (.getfield 19, 3)) ∧ (decode cX7_fits 39 = .ok (.invokevirtual 206, 3)) ∧ (decode cX7_fits 42 = .ok (.aload_n 0, 1)) ∧ (decode cX7_fits 43 = .ok (.getfield 26, 3)) ∧ (decode cX7_fits 46 = .ok (.getfield 212, 3)) ∧ (decode cX7_fits 49 = .ok (.iload 4, 2)) ∧ (decode cX7_fits 51 = .ok (.putfield 187, 3)) ∧ (decode cX7_fits 54 = .ok (.aload_n 0, 1)) ∧ (decode cX7_fits 55 = .ok (.getfield 26, 3)) := by decide +kernel
theorem dX7_fits_21 : decode cX7_fits 21 = .ok (.getfield 19, 3) := dg_c0.1
theorem dX7_fits_24 : decode cX7_fits 24 = .ok (.getfield 94, 3) := dg_c0.2.1
theorem dX7_fits_27 : decode cX7_fits 27 = .ok (.ishl, 1) := dg_c0.2.2.1
theorem dX7_fits_28 : decode cX7_fits 28 = .ok (.if_icmp .ge 58, 3) := dg_c0.2.2.2.1
theorem dX7_fits_31 : decode cX7_fits 31 = .ok (.aload_n 0, 1) := dg_c0.2.2.2.2.1
theorem dX7_fits_32 : decode cX7_fits 32 = .ok (.getfield 26, 3) := dg_c0.2.2.2.2.2.1
theorem dX7_fits_35 : decode cX7_fits 35 = .ok (.aload_n 0, 1) := dg_c0.2.2.2.2.2.2.1
theorem dX7_fits_36 : decode cX7_fits 36 = .ok (.getfield 19, 3) := dg_c0.2.2.2.2.2.2.2.1
theorem dX7_fits_39 : decode cX7_fits 39 = .ok (.invokevirtual 206, 3) := dg_c0.2.2.2.2.2.2.2.2.1
theorem dX7_fits_42 : decode cX7_fits 42 = .ok (.aload_n 0, 1) := dg_c0.2.2.2.2.2.2.2.2.2.1
theorem dX7_fits_43 : decode cX7_fits 43 = .ok (.getfield 26, 3) := dg_c0.2.2.2.2.2.2.2.2.2.2.1
theorem dX7_fits_46 : decode cX7_fits 46 = .ok (.getfield 212, 3) := dg_c0.2.2.2.2.2.2.2.2.2.2.2.1
theorem dX7_fits_49 : decode cX7_fits 49 = .ok (.iload 4, 2) := dg_c0.2.2.2.2.2.2.2.2.2.2.2.2.1
theorem dX7_fits_51 : decode cX7_fits 51 = .ok (.putfield 187, 3) := dg_c0.2.2.2.2.2.2.2.2.2.2.2.2.2.1
theorem dX7_fits_54 : decode cX7_fits 54 = .ok (.aload_n 0, 1) := dg_c0.2.2.2.2.2.2.2.2.2.2.2.2.2.2.1
theorem dX7_fits_55 : decode cX7_fits 55 = .ok (.getfield 26, 3) := dg_c0.2.2.2.2.2.2.2.2.2.2.2.2.2.2.2
theorem dg_c1 : (decode cX7_fits 58 = .ok (.invokevirtual 285, 3)) ∧ (decode cX7_fits 61 = .ok (.ifCond .eq 19, 3)) ∧ (decode cX7_fits 64 = .ok (.iinc 2 1, 3)) ∧ (decode cX7_fits 67 = .ok (.iload_n 3, 1)) ∧ (decode cX7_fits 68 = .ok (.bipush (-4), 2)) ∧ (decode cX7_fits 70 = .ok (.if_icmp .ne 8, 3)) ∧ (decode cX7_fits 73 = .ok (.iload 4, 2)) ∧ (decode cX7_fits 75 = .ok (.goto 4, 3)) ∧ (decode cX7_fits 78 = .ok (.iload_n 3, 1)) ∧ (decode cX7_fits 79 = .ok (.istore_n 3, 1)) ∧ (decode cX7_fits 80 = .ok (.iinc 4 1, 3)) ∧ (decode cX7_fits 83 = .ok (.goto (-66), 3)) ∧ (decode cX7_fits 86 = .ok (.iload_n 1, 1)) ∧ (decode cX7_fits 87 = .ok (.ifCond .ne 7, 3)) ∧ (decode cX7_fits 90 = .ok (.iload_n 2, 1)) ∧ (decode cX7_fits 91 = .ok (.goto 4, 3)) := by decide +kernel
theorem dX7_fits_58 : decode cX7_fits 58 = .ok (.invokevirtual 285, 3) := dg_c1.1
theorem dX7_fits_61 : decode cX7_fits 61 = .ok (.ifCond .eq 19, 3) := dg_c1.2.1
theorem dX7_fits_64 : decode cX7_fits 64 = .ok (.iinc 2 1, 3) := dg_c1.2.2.1
theorem dX7_fits_67 : decode cX7_fits 67 = .ok (.iload_n 3, 1) := dg_c1.2.2.2.1
theorem dX7_fits_68 : decode cX7_fits 68 = .ok (.bipush (-4), 2) := dg_c1.2.2.2.2.1
theorem dX7_fits_70 : decode cX7_fits 70 = .ok (.if_icmp .ne 8, 3) := dg_c1.2.2.2.2.2.1
theorem dX7_fits_73 : decode cX7_fits 73 = .ok (.iload 4, 2) := dg_c1.2.2.2.2.2.2.1
theorem dX7_fits_75 : decode cX7_fits 75 = .ok (.goto 4, 3) := dg_c1.2.2.2.2.2.2.2.1
theorem dX7_fits_78 : decode cX7_fits 78 = .ok (.iload_n 3, 1) := dg_c1.2.2.2.2.2.2.2.2.1
theorem dX7_fits_79 : decode cX7_fits 79 = .ok (.istore_n 3, 1) := dg_c1.2.2.2.2.2.2.2.2.2.1
theorem dX7_fits_80 : decode cX7_fits 80 = .ok (.iinc 4 1, 3) := dg_c1.2.2.2.2.2.2.2.2.2.2.1
theorem dX7_fits_83 : decode cX7_fits 83 = .ok (.goto (-66), 3) := dg_c1.2.2.2.2.2.2.2.2.2.2.2.1
theorem dX7_fits_86 : decode cX7_fits 86 = .ok (.iload_n 1, 1) := dg_c1.2.2.2.2.2.2.2.2.2.2.2.2.1
theorem dX7_fits_87 : decode cX7_fits 87 = .ok (.ifCond .ne 7, 3) := dg_c1.2.2.2.2.2.2.2.2.2.2.2.2.2.1
theorem dX7_fits_90 : decode cX7_fits 90 = .ok (.iload_n 2, 1) := dg_c1.2.2.2.2.2.2.2.2.2.2.2.2.2.2.1
theorem dX7_fits_91 : decode cX7_fits 91 = .ok (.goto 4, 3) := dg_c1.2.2.2.2.2.2.2.2.2.2.2.2.2.2.2
theorem dg_c2 : (decode cX7_fits 94 = .ok (.iload_n 3, 1)) ∧ (decode cX7_fits 95 = .ok (.ireturn, 1)) := by decide +kernel
theorem dX7_fits_94 : decode cX7_fits 94 = .ok (.iload_n 3, 1) := dg_c2.1
theorem dX7_fits_95 : decode cX7_fits 95 = .ok (.ireturn, 1) := dg_c2.2
theorem dg_c3 : (decode cX7_drift 0 = .ok (.iload_n 2, 1)) ∧ (decode cX7_drift 1 = .ok (.iconst 1, 1)) ∧ (decode cX7_drift 2 = .ok (.if_icmp .lt 16, 3)) ∧ (decode cX7_drift 5 = .ok (.iload_n 2, 1)) ∧ (decode cX7_drift 6 = .ok (.bipush 30, 2)) ∧ (decode cX7_drift 8 = .ok (.if_icmp .gt 10, 3)) ∧ (decode cX7_drift 11 = .ok (.iload_n 3, 1)) ∧ (decode cX7_drift 12 = .ok (.invokestatic 244, 3)) ∧ (decode cX7_drift 15 = .ok (.ifCond .ne 5, 3)) ∧ (decode cX7_drift 18 = .ok (.iconst (-1), 1)) ∧ (decode cX7_drift 19 = .ok (.ireturn, 1)) ∧ (decode cX7_drift 20 = .ok (.aload_n 0, 1)) ∧ (decode cX7_drift 21 = .ok (.getfield 47, 3)) ∧ (decode cX7_drift 24 = .ok (.iconst 0, 1)) ∧ (decode cX7_drift 25 = .ok (.putfield 124, 3)) ∧ (decode cX7_drift 28 = .ok (.aload_n 0, 1)) := by decide +kernel
theorem dX7_drift_0 : decode cX7_drift 0 = .ok (.iload_n 2, 1) := dg_c3.1
theorem dX7_drift_1 : decode cX7_drift 1 = .ok (.iconst 1, 1) := dg_c3.2.1
theorem dX7_drift_2 : decode cX7_drift 2 = .ok (.if_icmp .lt 16, 3) := dg_c3.2.2.1
theorem dX7_drift_5 : decode cX7_drift 5 = .ok (.iload_n 2, 1) := dg_c3.2.2.2.1
theorem dX7_drift_6 : decode cX7_drift 6 = .ok (.bipush 30, 2) := dg_c3.2.2.2.2.1
theorem dX7_drift_8 : decode cX7_drift 8 = .ok (.if_icmp .gt 10, 3) := dg_c3.2.2.2.2.2.1
theorem dX7_drift_11 : decode cX7_drift 11 = .ok (.iload_n 3, 1) := dg_c3.2.2.2.2.2.2.1
theorem dX7_drift_12 : decode cX7_drift 12 = .ok (.invokestatic 244, 3) := dg_c3.2.2.2.2.2.2.2.1
theorem dX7_drift_15 : decode cX7_drift 15 = .ok (.ifCond .ne 5, 3) := dg_c3.2.2.2.2.2.2.2.2.1
theorem dX7_drift_18 : decode cX7_drift 18 = .ok (.iconst (-1), 1) := dg_c3.2.2.2.2.2.2.2.2.2.1
theorem dX7_drift_19 : decode cX7_drift 19 = .ok (.ireturn, 1) := dg_c3.2.2.2.2.2.2.2.2.2.2.1
theorem dX7_drift_20 : decode cX7_drift 20 = .ok (.aload_n 0, 1) := dg_c3.2.2.2.2.2.2.2.2.2.2.2.1
theorem dX7_drift_21 : decode cX7_drift 21 = .ok (.getfield 47, 3) := dg_c3.2.2.2.2.2.2.2.2.2.2.2.2.1
theorem dX7_drift_24 : decode cX7_drift 24 = .ok (.iconst 0, 1) := dg_c3.2.2.2.2.2.2.2.2.2.2.2.2.2.1
theorem dX7_drift_25 : decode cX7_drift 25 = .ok (.putfield 124, 3) := dg_c3.2.2.2.2.2.2.2.2.2.2.2.2.2.2.1
theorem dX7_drift_28 : decode cX7_drift 28 = .ok (.aload_n 0, 1) := dg_c3.2.2.2.2.2.2.2.2.2.2.2.2.2.2.2
theorem dg_c4 : (decode cX7_drift 29 = .ok (.getfield 47, 3)) ∧ (decode cX7_drift 32 = .ok (.iconst 0, 1)) ∧ (decode cX7_drift 33 = .ok (.putfield 127, 3)) ∧ (decode cX7_drift 36 = .ok (.iload_n 1, 1)) ∧ (decode cX7_drift 37 = .ok (.istore 4, 2)) ∧ (decode cX7_drift 39 = .ok (.iconst 0, 1)) ∧ (decode cX7_drift 40 = .ok (.istore 5, 2)) ∧ (decode cX7_drift 42 = .ok (.iload 5, 2)) ∧ (decode cX7_drift 44 = .ok (.iload_n 2, 1)) ∧ (decode cX7_drift 45 = .ok (.if_icmp .ge 86, 3)) ∧ (decode cX7_drift 48 = .ok (.iload 4, 2)) ∧ (decode cX7_drift 50 = .ok (.ldc_w 288, 3)) ∧ (decode cX7_drift 53 = .ok (.imul, 1)) ∧ (decode cX7_drift 54 = .ok (.sipush 12345, 3)) ∧ (decode cX7_drift 57 = .ok (.iadd, 1)) ∧ (decode cX7_drift 58 = .ok (.istore 4, 2)) := by decide +kernel
theorem dX7_drift_29 : decode cX7_drift 29 = .ok (.getfield 47, 3) := dg_c4.1
theorem dX7_drift_32 : decode cX7_drift 32 = .ok (.iconst 0, 1) := dg_c4.2.1
theorem dX7_drift_33 : decode cX7_drift 33 = .ok (.putfield 127, 3) := dg_c4.2.2.1
theorem dX7_drift_36 : decode cX7_drift 36 = .ok (.iload_n 1, 1) := dg_c4.2.2.2.1
theorem dX7_drift_37 : decode cX7_drift 37 = .ok (.istore 4, 2) := dg_c4.2.2.2.2.1
theorem dX7_drift_39 : decode cX7_drift 39 = .ok (.iconst 0, 1) := dg_c4.2.2.2.2.2.1
theorem dX7_drift_40 : decode cX7_drift 40 = .ok (.istore 5, 2) := dg_c4.2.2.2.2.2.2.1
theorem dX7_drift_42 : decode cX7_drift 42 = .ok (.iload 5, 2) := dg_c4.2.2.2.2.2.2.2.1
theorem dX7_drift_44 : decode cX7_drift 44 = .ok (.iload_n 2, 1) := dg_c4.2.2.2.2.2.2.2.2.1
theorem dX7_drift_45 : decode cX7_drift 45 = .ok (.if_icmp .ge 86, 3) := dg_c4.2.2.2.2.2.2.2.2.2.1
theorem dX7_drift_48 : decode cX7_drift 48 = .ok (.iload 4, 2) := dg_c4.2.2.2.2.2.2.2.2.2.2.1
theorem dX7_drift_50 : decode cX7_drift 50 = .ok (.ldc_w 288, 3) := dg_c4.2.2.2.2.2.2.2.2.2.2.2.1
theorem dX7_drift_53 : decode cX7_drift 53 = .ok (.imul, 1) := dg_c4.2.2.2.2.2.2.2.2.2.2.2.2.1
theorem dX7_drift_54 : decode cX7_drift 54 = .ok (.sipush 12345, 3) := dg_c4.2.2.2.2.2.2.2.2.2.2.2.2.2.1
theorem dX7_drift_57 : decode cX7_drift 57 = .ok (.iadd, 1) := dg_c4.2.2.2.2.2.2.2.2.2.2.2.2.2.2.1
theorem dX7_drift_58 : decode cX7_drift 58 = .ok (.istore 4, 2) := dg_c4.2.2.2.2.2.2.2.2.2.2.2.2.2.2.2
theorem dg_c5 : (decode cX7_drift 60 = .ok (.iload 4, 2)) ∧ (decode cX7_drift 62 = .ok (.bipush 16, 2)) ∧ (decode cX7_drift 64 = .ok (.iushr, 1)) ∧ (decode cX7_drift 65 = .ok (.sipush 32767, 3)) ∧ (decode cX7_drift 68 = .ok (.iand, 1)) ∧ (decode cX7_drift 69 = .ok (.bipush 7, 2)) ∧ (decode cX7_drift 71 = .ok (.irem, 1)) ∧ (decode cX7_drift 72 = .ok (.istore 6, 2)) ∧ (decode cX7_drift 74 = .ok (.aload_n 0, 1)) ∧ (decode cX7_drift 75 = .ok (.getfield 47, 3)) ∧ (decode cX7_drift 78 = .ok (.iload 5, 2)) ∧ (decode cX7_drift 80 = .ok (.bipush 10, 2)) ∧ (decode cX7_drift 82 = .ok (.irem, 1)) ∧ (decode cX7_drift 83 = .ok (.putfield 121, 3)) ∧ (decode cX7_drift 86 = .ok (.aload_n 0, 1)) ∧ (decode cX7_drift 87 = .ok (.getfield 47, 3)) := by decide +kernel
theorem dX7_drift_60 : decode cX7_drift 60 = .ok (.iload 4, 2) := dg_c5.1
theorem dX7_drift_62 : decode cX7_drift 62 = .ok (.bipush 16, 2) := dg_c5.2.1
theorem dX7_drift_64 : decode cX7_drift 64 = .ok (.iushr, 1) := dg_c5.2.2.1
theorem dX7_drift_65 : decode cX7_drift 65 = .ok (.sipush 32767, 3) := dg_c5.2.2.2.1
theorem dX7_drift_68 : decode cX7_drift 68 = .ok (.iand, 1) := dg_c5.2.2.2.2.1
theorem dX7_drift_69 : decode cX7_drift 69 = .ok (.bipush 7, 2) := dg_c5.2.2.2.2.2.1
theorem dX7_drift_71 : decode cX7_drift 71 = .ok (.irem, 1) := dg_c5.2.2.2.2.2.2.1
theorem dX7_drift_72 : decode cX7_drift 72 = .ok (.istore 6, 2) := dg_c5.2.2.2.2.2.2.2.1
theorem dX7_drift_74 : decode cX7_drift 74 = .ok (.aload_n 0, 1) := dg_c5.2.2.2.2.2.2.2.2.1
theorem dX7_drift_75 : decode cX7_drift 75 = .ok (.getfield 47, 3) := dg_c5.2.2.2.2.2.2.2.2.2.1
theorem dX7_drift_78 : decode cX7_drift 78 = .ok (.iload 5, 2) := dg_c5.2.2.2.2.2.2.2.2.2.2.1
theorem dX7_drift_80 : decode cX7_drift 80 = .ok (.bipush 10, 2) := dg_c5.2.2.2.2.2.2.2.2.2.2.2.1
theorem dX7_drift_82 : decode cX7_drift 82 = .ok (.irem, 1) := dg_c5.2.2.2.2.2.2.2.2.2.2.2.2.1
theorem dX7_drift_83 : decode cX7_drift 83 = .ok (.putfield 121, 3) := dg_c5.2.2.2.2.2.2.2.2.2.2.2.2.2.1
theorem dX7_drift_86 : decode cX7_drift 86 = .ok (.aload_n 0, 1) := dg_c5.2.2.2.2.2.2.2.2.2.2.2.2.2.2.1
theorem dX7_drift_87 : decode cX7_drift 87 = .ok (.getfield 47, 3) := dg_c5.2.2.2.2.2.2.2.2.2.2.2.2.2.2.2
theorem dg_c6 : (decode cX7_drift 90 = .ok (.bipush 99, 2)) ∧ (decode cX7_drift 92 = .ok (.putfield 115, 3)) ∧ (decode cX7_drift 95 = .ok (.aload_n 0, 1)) ∧ (decode cX7_drift 96 = .ok (.getfield 19, 3)) ∧ (decode cX7_drift 99 = .ok (.aload_n 0, 1)) ∧ (decode cX7_drift 100 = .ok (.getfield 47, 3)) ∧ (decode cX7_drift 103 = .ok (.aload_n 0, 1)) ∧ (decode cX7_drift 104 = .ok (.getfield 19, 3)) ∧ (decode cX7_drift 107 = .ok (.iload 6, 2)) ∧ (decode cX7_drift 109 = .ok (.invokevirtual 190, 3)) ∧ (decode cX7_drift 112 = .ok (.ifCond .eq 8, 3)) ∧ (decode cX7_drift 115 = .ok (.iload 6, 2)) ∧ (decode cX7_drift 117 = .ok (.goto 4, 3)) ∧ (decode cX7_drift 120 = .ok (.iconst 5, 1)) ∧ (decode cX7_drift 121 = .ok (.invokevirtual 202, 3)) ∧ (decode cX7_drift 124 = .ok (.pop, 1)) := by decide +kernel
theorem dX7_drift_90 : decode cX7_drift 90 = .ok (.bipush 99, 2) := dg_c6.1
theorem dX7_drift_92 : decode cX7_drift 92 = .ok (.putfield 115, 3) := dg_c6.2.1
theorem dX7_drift_95 : decode cX7_drift 95 = .ok (.aload_n 0, 1) := dg_c6.2.2.1
theorem dX7_drift_96 : decode cX7_drift 96 = .ok (.getfield 19, 3) := dg_c6.2.2.2.1
theorem dX7_drift_99 : decode cX7_drift 99 = .ok (.aload_n 0, 1) := dg_c6.2.2.2.2.1
theorem dX7_drift_100 : decode cX7_drift 100 = .ok (.getfield 47, 3) := dg_c6.2.2.2.2.2.1
theorem dX7_drift_103 : decode cX7_drift 103 = .ok (.aload_n 0, 1) := dg_c6.2.2.2.2.2.2.1
theorem dX7_drift_104 : decode cX7_drift 104 = .ok (.getfield 19, 3) := dg_c6.2.2.2.2.2.2.2.1
theorem dX7_drift_107 : decode cX7_drift 107 = .ok (.iload 6, 2) := dg_c6.2.2.2.2.2.2.2.2.1
theorem dX7_drift_109 : decode cX7_drift 109 = .ok (.invokevirtual 190, 3) := dg_c6.2.2.2.2.2.2.2.2.2.1
theorem dX7_drift_112 : decode cX7_drift 112 = .ok (.ifCond .eq 8, 3) := dg_c6.2.2.2.2.2.2.2.2.2.2.1
theorem dX7_drift_115 : decode cX7_drift 115 = .ok (.iload 6, 2) := dg_c6.2.2.2.2.2.2.2.2.2.2.2.1
theorem dX7_drift_117 : decode cX7_drift 117 = .ok (.goto 4, 3) := dg_c6.2.2.2.2.2.2.2.2.2.2.2.2.1
theorem dX7_drift_120 : decode cX7_drift 120 = .ok (.iconst 5, 1) := dg_c6.2.2.2.2.2.2.2.2.2.2.2.2.2.1
theorem dX7_drift_121 : decode cX7_drift 121 = .ok (.invokevirtual 202, 3) := dg_c6.2.2.2.2.2.2.2.2.2.2.2.2.2.2.1
theorem dX7_drift_124 : decode cX7_drift 124 = .ok (.pop, 1) := dg_c6.2.2.2.2.2.2.2.2.2.2.2.2.2.2.2
theorem dg_c7 : (decode cX7_drift 125 = .ok (.iinc 5 1, 3)) ∧ (decode cX7_drift 128 = .ok (.goto (-86), 3)) ∧ (decode cX7_drift 131 = .ok (.iload_n 3, 1)) ∧ (decode cX7_drift 132 = .ok (.ifCond .ne 13, 3)) ∧ (decode cX7_drift 135 = .ok (.aload_n 0, 1)) ∧ (decode cX7_drift 136 = .ok (.getfield 47, 3)) ∧ (decode cX7_drift 139 = .ok (.getfield 124, 3)) ∧ (decode cX7_drift 142 = .ok (.goto 14, 3)) ∧ (decode cX7_drift 145 = .ok (.sipush 1000, 3)) ∧ (decode cX7_drift 148 = .ok (.aload_n 0, 1)) ∧ (decode cX7_drift 149 = .ok (.getfield 47, 3)) ∧ (decode cX7_drift 152 = .ok (.getfield 127, 3)) ∧ (decode cX7_drift 155 = .ok (.iadd, 1)) ∧ (decode cX7_drift 156 = .ok (.ireturn, 1)) := by decide +kernel
theorem dX7_drift_125 : decode cX7_drift 125 = .ok (.iinc 5 1, 3) := dg_c7.1
theorem dX7_drift_128 : decode cX7_drift 128 = .ok (.goto (-86), 3) := dg_c7.2.1
theorem dX7_drift_131 : decode cX7_drift 131 = .ok (.iload_n 3, 1) := dg_c7.2.2.1
theorem dX7_drift_132 : decode cX7_drift 132 = .ok (.ifCond .ne 13, 3) := dg_c7.2.2.2.1
theorem dX7_drift_135 : decode cX7_drift 135 = .ok (.aload_n 0, 1) := dg_c7.2.2.2.2.1
theorem dX7_drift_136 : decode cX7_drift 136 = .ok (.getfield 47, 3) := dg_c7.2.2.2.2.2.1
theorem dX7_drift_139 : decode cX7_drift 139 = .ok (.getfield 124, 3) := dg_c7.2.2.2.2.2.2.1
theorem dX7_drift_142 : decode cX7_drift 142 = .ok (.goto 14, 3) := dg_c7.2.2.2.2.2.2.2.1
theorem dX7_drift_145 : decode cX7_drift 145 = .ok (.sipush 1000, 3) := dg_c7.2.2.2.2.2.2.2.2.1
theorem dX7_drift_148 : decode cX7_drift 148 = .ok (.aload_n 0, 1) := dg_c7.2.2.2.2.2.2.2.2.2.1
theorem dX7_drift_149 : decode cX7_drift 149 = .ok (.getfield 47, 3) := dg_c7.2.2.2.2.2.2.2.2.2.2.1
theorem dX7_drift_152 : decode cX7_drift 152 = .ok (.getfield 127, 3) := dg_c7.2.2.2.2.2.2.2.2.2.2.2.1
theorem dX7_drift_155 : decode cX7_drift 155 = .ok (.iadd, 1) := dg_c7.2.2.2.2.2.2.2.2.2.2.2.2.1
theorem dX7_drift_156 : decode cX7_drift 156 = .ok (.ireturn, 1) := dg_c7.2.2.2.2.2.2.2.2.2.2.2.2.2
theorem dg_c8 : (decode cX7_keep 0 = .ok (.iload_n 1, 1)) ∧ (decode cX7_keep 1 = .ok (.ifCond .lt 8, 3)) ∧ (decode cX7_keep 4 = .ok (.iload_n 1, 1)) ∧ (decode cX7_keep 5 = .ok (.iconst 2, 1)) ∧ (decode cX7_keep 6 = .ok (.if_icmp .lt 5, 3)) ∧ (decode cX7_keep 9 = .ok (.iconst (-1), 1)) ∧ (decode cX7_keep 10 = .ok (.ireturn, 1)) ∧ (decode cX7_keep 11 = .ok (.aload_n 0, 1)) ∧ (decode cX7_keep 12 = .ok (.getfield 55, 3)) ∧ (decode cX7_keep 15 = .ok (.iload_n 1, 1)) ∧ (decode cX7_keep 16 = .ok (.baload, 1)) ∧ (decode cX7_keep 17 = .ok (.invokestatic 134, 3)) ∧ (decode cX7_keep 20 = .ok (.istore_n 2, 1)) ∧ (decode cX7_keep 21 = .ok (.aload_n 0, 1)) ∧ (decode cX7_keep 22 = .ok (.getfield 51, 3)) ∧ (decode cX7_keep 25 = .ok (.iload_n 1, 1)) := by decide +kernel
theorem dX7_keep_0 : decode cX7_keep 0 = .ok (.iload_n 1, 1) := dg_c8.1
theorem dX7_keep_1 : decode cX7_keep 1 = .ok (.ifCond .lt 8, 3) := dg_c8.2.1
theorem dX7_keep_4 : decode cX7_keep 4 = .ok (.iload_n 1, 1) := dg_c8.2.2.1
theorem dX7_keep_5 : decode cX7_keep 5 = .ok (.iconst 2, 1) := dg_c8.2.2.2.1
theorem dX7_keep_6 : decode cX7_keep 6 = .ok (.if_icmp .lt 5, 3) := dg_c8.2.2.2.2.1
theorem dX7_keep_9 : decode cX7_keep 9 = .ok (.iconst (-1), 1) := dg_c8.2.2.2.2.2.1
theorem dX7_keep_10 : decode cX7_keep 10 = .ok (.ireturn, 1) := dg_c8.2.2.2.2.2.2.1
theorem dX7_keep_11 : decode cX7_keep 11 = .ok (.aload_n 0, 1) := dg_c8.2.2.2.2.2.2.2.1
theorem dX7_keep_12 : decode cX7_keep 12 = .ok (.getfield 55, 3) := dg_c8.2.2.2.2.2.2.2.2.1
theorem dX7_keep_15 : decode cX7_keep 15 = .ok (.iload_n 1, 1) := dg_c8.2.2.2.2.2.2.2.2.2.1
theorem dX7_keep_16 : decode cX7_keep 16 = .ok (.baload, 1) := dg_c8.2.2.2.2.2.2.2.2.2.2.1
theorem dX7_keep_17 : decode cX7_keep 17 = .ok (.invokestatic 134, 3) := dg_c8.2.2.2.2.2.2.2.2.2.2.2.1
theorem dX7_keep_20 : decode cX7_keep 20 = .ok (.istore_n 2, 1) := dg_c8.2.2.2.2.2.2.2.2.2.2.2.2.1
theorem dX7_keep_21 : decode cX7_keep 21 = .ok (.aload_n 0, 1) := dg_c8.2.2.2.2.2.2.2.2.2.2.2.2.2.1
theorem dX7_keep_22 : decode cX7_keep 22 = .ok (.getfield 51, 3) := dg_c8.2.2.2.2.2.2.2.2.2.2.2.2.2.2.1
theorem dX7_keep_25 : decode cX7_keep 25 = .ok (.iload_n 1, 1) := dg_c8.2.2.2.2.2.2.2.2.2.2.2.2.2.2.2
theorem dg_c9 : (decode cX7_keep 26 = .ok (.aaload, 1)) ∧ (decode cX7_keep 27 = .ok (.aload_n 0, 1)) ∧ (decode cX7_keep 28 = .ok (.getfield 19, 3)) ∧ (decode cX7_keep 31 = .ok (.invokevirtual 90, 3)) ∧ (decode cX7_keep 34 = .ok (.aload_n 0, 1)) ∧ (decode cX7_keep 35 = .ok (.getfield 55, 3)) ∧ (decode cX7_keep 38 = .ok (.iload_n 1, 1)) ∧ (decode cX7_keep 39 = .ok (.iconst 1, 1)) ∧ (decode cX7_keep 40 = .ok (.bastore, 1)) ∧ (decode cX7_keep 41 = .ok (.iload_n 2, 1)) ∧ (decode cX7_keep 42 = .ok (.ireturn, 1)) := by decide +kernel
theorem dX7_keep_26 : decode cX7_keep 26 = .ok (.aaload, 1) := dg_c9.1
theorem dX7_keep_27 : decode cX7_keep 27 = .ok (.aload_n 0, 1) := dg_c9.2.1
theorem dX7_keep_28 : decode cX7_keep 28 = .ok (.getfield 19, 3) := dg_c9.2.2.1
theorem dX7_keep_31 : decode cX7_keep 31 = .ok (.invokevirtual 90, 3) := dg_c9.2.2.2.1
theorem dX7_keep_34 : decode cX7_keep 34 = .ok (.aload_n 0, 1) := dg_c9.2.2.2.2.1
theorem dX7_keep_35 : decode cX7_keep 35 = .ok (.getfield 55, 3) := dg_c9.2.2.2.2.2.1
theorem dX7_keep_38 : decode cX7_keep 38 = .ok (.iload_n 1, 1) := dg_c9.2.2.2.2.2.2.1
theorem dX7_keep_39 : decode cX7_keep 39 = .ok (.iconst 1, 1) := dg_c9.2.2.2.2.2.2.2.1
theorem dX7_keep_40 : decode cX7_keep 40 = .ok (.bastore, 1) := dg_c9.2.2.2.2.2.2.2.2.1
theorem dX7_keep_41 : decode cX7_keep 41 = .ok (.iload_n 2, 1) := dg_c9.2.2.2.2.2.2.2.2.2.1
theorem dX7_keep_42 : decode cX7_keep 42 = .ok (.ireturn, 1) := dg_c9.2.2.2.2.2.2.2.2.2.2
theorem dg_c10 : (decode cX7_back 0 = .ok (.iload_n 1, 1)) ∧ (decode cX7_back 1 = .ok (.ifCond .lt 8, 3)) ∧ (decode cX7_back 4 = .ok (.iload_n 1, 1)) ∧ (decode cX7_back 5 = .ok (.iconst 2, 1)) ∧ (decode cX7_back 6 = .ok (.if_icmp .lt 5, 3)) ∧ (decode cX7_back 9 = .ok (.iconst (-1), 1)) ∧ (decode cX7_back 10 = .ok (.ireturn, 1)) ∧ (decode cX7_back 11 = .ok (.aload_n 0, 1)) ∧ (decode cX7_back 12 = .ok (.getfield 55, 3)) ∧ (decode cX7_back 15 = .ok (.iload_n 1, 1)) ∧ (decode cX7_back 16 = .ok (.baload, 1)) ∧ (decode cX7_back 17 = .ok (.ifCond .ne 6, 3)) ∧ (decode cX7_back 20 = .ok (.bipush (-2), 2)) ∧ (decode cX7_back 22 = .ok (.ireturn, 1)) ∧ (decode cX7_back 23 = .ok (.aload_n 0, 1)) ∧ (decode cX7_back 24 = .ok (.getfield 19, 3)) := by decide +kernel
theorem dX7_back_0 : decode cX7_back 0 = .ok (.iload_n 1, 1) := dg_c10.1
theorem dX7_back_1 : decode cX7_back 1 = .ok (.ifCond .lt 8, 3) := dg_c10.2.1
theorem dX7_back_4 : decode cX7_back 4 = .ok (.iload_n 1, 1) := dg_c10.2.2.1
theorem dX7_back_5 : decode cX7_back 5 = .ok (.iconst 2, 1) := dg_c10.2.2.2.1
theorem dX7_back_6 : decode cX7_back 6 = .ok (.if_icmp .lt 5, 3) := dg_c10.2.2.2.2.1
theorem dX7_back_9 : decode cX7_back 9 = .ok (.iconst (-1), 1) := dg_c10.2.2.2.2.2.1
theorem dX7_back_10 : decode cX7_back 10 = .ok (.ireturn, 1) := dg_c10.2.2.2.2.2.2.1
theorem dX7_back_11 : decode cX7_back 11 = .ok (.aload_n 0, 1) := dg_c10.2.2.2.2.2.2.2.1
theorem dX7_back_12 : decode cX7_back 12 = .ok (.getfield 55, 3) := dg_c10.2.2.2.2.2.2.2.2.1
theorem dX7_back_15 : decode cX7_back 15 = .ok (.iload_n 1, 1) := dg_c10.2.2.2.2.2.2.2.2.2.1
theorem dX7_back_16 : decode cX7_back 16 = .ok (.baload, 1) := dg_c10.2.2.2.2.2.2.2.2.2.2.1
theorem dX7_back_17 : decode cX7_back 17 = .ok (.ifCond .ne 6, 3) := dg_c10.2.2.2.2.2.2.2.2.2.2.2.1
theorem dX7_back_20 : decode cX7_back 20 = .ok (.bipush (-2), 2) := dg_c10.2.2.2.2.2.2.2.2.2.2.2.2.1
theorem dX7_back_22 : decode cX7_back 22 = .ok (.ireturn, 1) := dg_c10.2.2.2.2.2.2.2.2.2.2.2.2.2.1
theorem dX7_back_23 : decode cX7_back 23 = .ok (.aload_n 0, 1) := dg_c10.2.2.2.2.2.2.2.2.2.2.2.2.2.2.1
theorem dX7_back_24 : decode cX7_back 24 = .ok (.getfield 19, 3) := dg_c10.2.2.2.2.2.2.2.2.2.2.2.2.2.2.2
theorem dg_c11 : (decode cX7_back 27 = .ok (.aload_n 0, 1)) ∧ (decode cX7_back 28 = .ok (.getfield 51, 3)) ∧ (decode cX7_back 31 = .ok (.iload_n 1, 1)) ∧ (decode cX7_back 32 = .ok (.aaload, 1)) ∧ (decode cX7_back 33 = .ok (.invokevirtual 90, 3)) ∧ (decode cX7_back 36 = .ok (.aload_n 0, 1)) ∧ (decode cX7_back 37 = .ok (.getfield 19, 3)) ∧ (decode cX7_back 40 = .ok (.getfield 112, 3)) ∧ (decode cX7_back 43 = .ok (.getfield 121, 3)) ∧ (decode cX7_back 46 = .ok (.ireturn, 1)) := by decide +kernel
theorem dX7_back_27 : decode cX7_back 27 = .ok (.aload_n 0, 1) := dg_c11.1
theorem dX7_back_28 : decode cX7_back 28 = .ok (.getfield 51, 3) := dg_c11.2.1
theorem dX7_back_31 : decode cX7_back 31 = .ok (.iload_n 1, 1) := dg_c11.2.2.1
theorem dX7_back_32 : decode cX7_back 32 = .ok (.aaload, 1) := dg_c11.2.2.2.1
theorem dX7_back_33 : decode cX7_back 33 = .ok (.invokevirtual 90, 3) := dg_c11.2.2.2.2.1
theorem dX7_back_36 : decode cX7_back 36 = .ok (.aload_n 0, 1) := dg_c11.2.2.2.2.2.1
theorem dX7_back_37 : decode cX7_back 37 = .ok (.getfield 19, 3) := dg_c11.2.2.2.2.2.2.1
theorem dX7_back_40 : decode cX7_back 40 = .ok (.getfield 112, 3) := dg_c11.2.2.2.2.2.2.2.1
theorem dX7_back_43 : decode cX7_back 43 = .ok (.getfield 121, 3) := dg_c11.2.2.2.2.2.2.2.2.1
theorem dX7_back_46 : decode cX7_back 46 = .ok (.ireturn, 1) := dg_c11.2.2.2.2.2.2.2.2.2
theorem dg_c12 : (decode cX7_sheet 0 = .ok (.iload_n 1, 1)) ∧ (decode cX7_sheet 1 = .ok (.invokestatic 289, 3)) ∧ (decode cX7_sheet 4 = .ok (.ifCond .eq 16, 3)) ∧ (decode cX7_sheet 7 = .ok (.iload_n 2, 1)) ∧ (decode cX7_sheet 8 = .ok (.invokestatic 292, 3)) ∧ (decode cX7_sheet 11 = .ok (.ifCond .eq 9, 3)) ∧ (decode cX7_sheet 14 = .ok (.iload_n 3, 1)) ∧ (decode cX7_sheet 15 = .ok (.bipush 40, 2)) ∧ (decode cX7_sheet 17 = .ok (.if_icmp .le 5, 3)) ∧ (decode cX7_sheet 20 = .ok (.iconst (-1), 1)) ∧ (decode cX7_sheet 21 = .ok (.ireturn, 1)) ∧ (decode cX7_sheet 22 = .ok (.iload_n 3, 1)) ∧ (decode cX7_sheet 23 = .ok (.ifCond .ge 6, 3)) ∧ (decode cX7_sheet 26 = .ok (.bipush (-14), 2)) ∧ (decode cX7_sheet 28 = .ok (.ireturn, 1)) ∧ (decode cX7_sheet 29 = .ok (.aload_n 0, 1)) := by decide +kernel
theorem dX7_sheet_0 : decode cX7_sheet 0 = .ok (.iload_n 1, 1) := dg_c12.1
theorem dX7_sheet_1 : decode cX7_sheet 1 = .ok (.invokestatic 289, 3) := dg_c12.2.1
theorem dX7_sheet_4 : decode cX7_sheet 4 = .ok (.ifCond .eq 16, 3) := dg_c12.2.2.1
theorem dX7_sheet_7 : decode cX7_sheet 7 = .ok (.iload_n 2, 1) := dg_c12.2.2.2.1
theorem dX7_sheet_8 : decode cX7_sheet 8 = .ok (.invokestatic 292, 3) := dg_c12.2.2.2.2.1
theorem dX7_sheet_11 : decode cX7_sheet 11 = .ok (.ifCond .eq 9, 3) := dg_c12.2.2.2.2.2.1
theorem dX7_sheet_14 : decode cX7_sheet 14 = .ok (.iload_n 3, 1) := dg_c12.2.2.2.2.2.2.1
theorem dX7_sheet_15 : decode cX7_sheet 15 = .ok (.bipush 40, 2) := dg_c12.2.2.2.2.2.2.2.1
theorem dX7_sheet_17 : decode cX7_sheet 17 = .ok (.if_icmp .le 5, 3) := dg_c12.2.2.2.2.2.2.2.2.1
theorem dX7_sheet_20 : decode cX7_sheet 20 = .ok (.iconst (-1), 1) := dg_c12.2.2.2.2.2.2.2.2.2.1
theorem dX7_sheet_21 : decode cX7_sheet 21 = .ok (.ireturn, 1) := dg_c12.2.2.2.2.2.2.2.2.2.2.1
theorem dX7_sheet_22 : decode cX7_sheet 22 = .ok (.iload_n 3, 1) := dg_c12.2.2.2.2.2.2.2.2.2.2.2.1
theorem dX7_sheet_23 : decode cX7_sheet 23 = .ok (.ifCond .ge 6, 3) := dg_c12.2.2.2.2.2.2.2.2.2.2.2.2.1
theorem dX7_sheet_26 : decode cX7_sheet 26 = .ok (.bipush (-14), 2) := dg_c12.2.2.2.2.2.2.2.2.2.2.2.2.2.1
theorem dX7_sheet_28 : decode cX7_sheet 28 = .ok (.ireturn, 1) := dg_c12.2.2.2.2.2.2.2.2.2.2.2.2.2.2.1
theorem dX7_sheet_29 : decode cX7_sheet 29 = .ok (.aload_n 0, 1) := dg_c12.2.2.2.2.2.2.2.2.2.2.2.2.2.2.2
theorem dg_c13 : (decode cX7_sheet 30 = .ok (.getfield 61, 3)) ∧ (decode cX7_sheet 33 = .ok (.iload_n 1, 1)) ∧ (decode cX7_sheet 34 = .ok (.aaload, 1)) ∧ (decode cX7_sheet 35 = .ok (.iload_n 2, 1)) ∧ (decode cX7_sheet 36 = .ok (.iload_n 3, 1)) ∧ (decode cX7_sheet 37 = .ok (.invokevirtual 295, 3)) ∧ (decode cX7_sheet 40 = .ok (.iconst 1, 1)) ∧ (decode cX7_sheet 41 = .ok (.ireturn, 1)) := by decide +kernel
theorem dX7_sheet_30 : decode cX7_sheet 30 = .ok (.getfield 61, 3) := dg_c13.1
theorem dX7_sheet_33 : decode cX7_sheet 33 = .ok (.iload_n 1, 1) := dg_c13.2.1
theorem dX7_sheet_34 : decode cX7_sheet 34 = .ok (.aaload, 1) := dg_c13.2.2.1
theorem dX7_sheet_35 : decode cX7_sheet 35 = .ok (.iload_n 2, 1) := dg_c13.2.2.2.1
theorem dX7_sheet_36 : decode cX7_sheet 36 = .ok (.iload_n 3, 1) := dg_c13.2.2.2.2.1
theorem dX7_sheet_37 : decode cX7_sheet 37 = .ok (.invokevirtual 295, 3) := dg_c13.2.2.2.2.2.1
theorem dX7_sheet_40 : decode cX7_sheet 40 = .ok (.iconst 1, 1) := dg_c13.2.2.2.2.2.2.1
theorem dX7_sheet_41 : decode cX7_sheet 41 = .ok (.ireturn, 1) := dg_c13.2.2.2.2.2.2.2
theorem dg_c14 : (decode cX7_lay 0 = .ok (.iload_n 1, 1)) ∧ (decode cX7_lay 1 = .ok (.invokestatic 289, 3)) ∧ (decode cX7_lay 4 = .ok (.ifCond .ne 5, 3)) ∧ (decode cX7_lay 7 = .ok (.iconst (-1), 1)) ∧ (decode cX7_lay 8 = .ok (.ireturn, 1)) ∧ (decode cX7_lay 9 = .ok (.aload_n 0, 1)) ∧ (decode cX7_lay 10 = .ok (.getfield 61, 3)) ∧ (decode cX7_lay 13 = .ok (.iload_n 1, 1)) ∧ (decode cX7_lay 14 = .ok (.aaload, 1)) ∧ (decode cX7_lay 15 = .ok (.astore 4, 2)) ∧ (decode cX7_lay 17 = .ok (.aload 4, 2)) ∧ (decode cX7_lay 19 = .ok (.aload 4, 2)) ∧ (decode cX7_lay 21 = .ok (.getfield 299, 3)) ∧ (decode cX7_lay 24 = .ok (.iload_n 2, 1)) ∧ (decode cX7_lay 25 = .ok (.invokevirtual 302, 3)) ∧ (decode cX7_lay 28 = .ok (.istore 5, 2)) := by decide +kernel
theorem dX7_lay_0 : decode cX7_lay 0 = .ok (.iload_n 1, 1) := dg_c14.1
theorem dX7_lay_1 : decode cX7_lay 1 = .ok (.invokestatic 289, 3) := dg_c14.2.1
theorem dX7_lay_4 : decode cX7_lay 4 = .ok (.ifCond .ne 5, 3) := dg_c14.2.2.1
theorem dX7_lay_7 : decode cX7_lay 7 = .ok (.iconst (-1), 1) := dg_c14.2.2.2.1
theorem dX7_lay_8 : decode cX7_lay 8 = .ok (.ireturn, 1) := dg_c14.2.2.2.2.1
theorem dX7_lay_9 : decode cX7_lay 9 = .ok (.aload_n 0, 1) := dg_c14.2.2.2.2.2.1
theorem dX7_lay_10 : decode cX7_lay 10 = .ok (.getfield 61, 3) := dg_c14.2.2.2.2.2.2.1
theorem dX7_lay_13 : decode cX7_lay 13 = .ok (.iload_n 1, 1) := dg_c14.2.2.2.2.2.2.2.1
theorem dX7_lay_14 : decode cX7_lay 14 = .ok (.aaload, 1) := dg_c14.2.2.2.2.2.2.2.2.1
theorem dX7_lay_15 : decode cX7_lay 15 = .ok (.astore 4, 2) := dg_c14.2.2.2.2.2.2.2.2.2.1
theorem dX7_lay_17 : decode cX7_lay 17 = .ok (.aload 4, 2) := dg_c14.2.2.2.2.2.2.2.2.2.2.1
theorem dX7_lay_19 : decode cX7_lay 19 = .ok (.aload 4, 2) := dg_c14.2.2.2.2.2.2.2.2.2.2.2.1
theorem dX7_lay_21 : decode cX7_lay 21 = .ok (.getfield 299, 3) := dg_c14.2.2.2.2.2.2.2.2.2.2.2.2.1
theorem dX7_lay_24 : decode cX7_lay 24 = .ok (.iload_n 2, 1) := dg_c14.2.2.2.2.2.2.2.2.2.2.2.2.2.1
theorem dX7_lay_25 : decode cX7_lay 25 = .ok (.invokevirtual 302, 3) := dg_c14.2.2.2.2.2.2.2.2.2.2.2.2.2.2.1
theorem dX7_lay_28 : decode cX7_lay 28 = .ok (.istore 5, 2) := dg_c14.2.2.2.2.2.2.2.2.2.2.2.2.2.2.2
theorem dg_c15 : (decode cX7_lay 30 = .ok (.iload 5, 2)) ∧ (decode cX7_lay 32 = .ok (.ifCond .eq 9, 3)) ∧ (decode cX7_lay 35 = .ok (.bipush (-10), 2)) ∧ (decode cX7_lay 37 = .ok (.iload 5, 2)) ∧ (decode cX7_lay 39 = .ok (.isub, 1)) ∧ (decode cX7_lay 40 = .ok (.ireturn, 1)) ∧ (decode cX7_lay 41 = .ok (.aload 4, 2)) ∧ (decode cX7_lay 43 = .ok (.getfield 306, 3)) ∧ (decode cX7_lay 46 = .ok (.iload_n 2, 1)) ∧ (decode cX7_lay 47 = .ok (.aload 4, 2)) ∧ (decode cX7_lay 49 = .ok (.iload_n 3, 1)) ∧ (decode cX7_lay 50 = .ok (.invokevirtual 309, 3)) ∧ (decode cX7_lay 53 = .ok (.iastore, 1)) ∧ (decode cX7_lay 54 = .ok (.iconst 1, 1)) ∧ (decode cX7_lay 55 = .ok (.ireturn, 1)) := by decide +kernel
theorem dX7_lay_30 : decode cX7_lay 30 = .ok (.iload 5, 2) := dg_c15.1
theorem dX7_lay_32 : decode cX7_lay 32 = .ok (.ifCond .eq 9, 3) := dg_c15.2.1
theorem dX7_lay_35 : decode cX7_lay 35 = .ok (.bipush (-10), 2) := dg_c15.2.2.1
theorem dX7_lay_37 : decode cX7_lay 37 = .ok (.iload 5, 2) := dg_c15.2.2.2.1
theorem dX7_lay_39 : decode cX7_lay 39 = .ok (.isub, 1) := dg_c15.2.2.2.2.1
theorem dX7_lay_40 : decode cX7_lay 40 = .ok (.ireturn, 1) := dg_c15.2.2.2.2.2.1
theorem dX7_lay_41 : decode cX7_lay 41 = .ok (.aload 4, 2) := dg_c15.2.2.2.2.2.2.1
theorem dX7_lay_43 : decode cX7_lay 43 = .ok (.getfield 306, 3) := dg_c15.2.2.2.2.2.2.2.1
theorem dX7_lay_46 : decode cX7_lay 46 = .ok (.iload_n 2, 1) := dg_c15.2.2.2.2.2.2.2.2.1
theorem dX7_lay_47 : decode cX7_lay 47 = .ok (.aload 4, 2) := dg_c15.2.2.2.2.2.2.2.2.2.1
theorem dX7_lay_49 : decode cX7_lay 49 = .ok (.iload_n 3, 1) := dg_c15.2.2.2.2.2.2.2.2.2.2.1
theorem dX7_lay_50 : decode cX7_lay 50 = .ok (.invokevirtual 309, 3) := dg_c15.2.2.2.2.2.2.2.2.2.2.2.1
theorem dX7_lay_53 : decode cX7_lay 53 = .ok (.iastore, 1) := dg_c15.2.2.2.2.2.2.2.2.2.2.2.2.1
theorem dX7_lay_54 : decode cX7_lay 54 = .ok (.iconst 1, 1) := dg_c15.2.2.2.2.2.2.2.2.2.2.2.2.2.1
theorem dX7_lay_55 : decode cX7_lay 55 = .ok (.ireturn, 1) := dg_c15.2.2.2.2.2.2.2.2.2.2.2.2.2.2
theorem dg_c16 : (decode cX7_read 0 = .ok (.iload_n 1, 1)) ∧ (decode cX7_read 1 = .ok (.invokestatic 289, 3)) ∧ (decode cX7_read 4 = .ok (.ifCond .eq 22, 3)) ∧ (decode cX7_read 7 = .ok (.iload_n 2, 1)) ∧ (decode cX7_read 8 = .ok (.invokestatic 292, 3)) ∧ (decode cX7_read 11 = .ok (.ifCond .eq 15, 3)) ∧ (decode cX7_read 14 = .ok (.iload 4, 2)) ∧ (decode cX7_read 16 = .ok (.ifCond .lt 10, 3)) ∧ (decode cX7_read 19 = .ok (.iload 4, 2)) ∧ (decode cX7_read 21 = .ok (.bipush 10, 2)) ∧ (decode cX7_read 23 = .ok (.if_icmp .le 5, 3)) ∧ (decode cX7_read 26 = .ok (.iconst (-1), 1)) ∧ (decode cX7_read 27 = .ok (.ireturn, 1)) ∧ (decode cX7_read 28 = .ok (.aload_n 0, 1)) ∧ (decode cX7_read 29 = .ok (.getfield 61, 3)) ∧ (decode cX7_read 32 = .ok (.iload_n 1, 1)) := by decide +kernel
theorem dX7_read_0 : decode cX7_read 0 = .ok (.iload_n 1, 1) := dg_c16.1
theorem dX7_read_1 : decode cX7_read 1 = .ok (.invokestatic 289, 3) := dg_c16.2.1
theorem dX7_read_4 : decode cX7_read 4 = .ok (.ifCond .eq 22, 3) := dg_c16.2.2.1
theorem dX7_read_7 : decode cX7_read 7 = .ok (.iload_n 2, 1) := dg_c16.2.2.2.1
theorem dX7_read_8 : decode cX7_read 8 = .ok (.invokestatic 292, 3) := dg_c16.2.2.2.2.1
theorem dX7_read_11 : decode cX7_read 11 = .ok (.ifCond .eq 15, 3) := dg_c16.2.2.2.2.2.1
theorem dX7_read_14 : decode cX7_read 14 = .ok (.iload 4, 2) := dg_c16.2.2.2.2.2.2.1
theorem dX7_read_16 : decode cX7_read 16 = .ok (.ifCond .lt 10, 3) := dg_c16.2.2.2.2.2.2.2.1
theorem dX7_read_19 : decode cX7_read 19 = .ok (.iload 4, 2) := dg_c16.2.2.2.2.2.2.2.2.1
theorem dX7_read_21 : decode cX7_read 21 = .ok (.bipush 10, 2) := dg_c16.2.2.2.2.2.2.2.2.2.1
theorem dX7_read_23 : decode cX7_read 23 = .ok (.if_icmp .le 5, 3) := dg_c16.2.2.2.2.2.2.2.2.2.2.1
theorem dX7_read_26 : decode cX7_read 26 = .ok (.iconst (-1), 1) := dg_c16.2.2.2.2.2.2.2.2.2.2.2.1
theorem dX7_read_27 : decode cX7_read 27 = .ok (.ireturn, 1) := dg_c16.2.2.2.2.2.2.2.2.2.2.2.2.1
theorem dX7_read_28 : decode cX7_read 28 = .ok (.aload_n 0, 1) := dg_c16.2.2.2.2.2.2.2.2.2.2.2.2.2.1
theorem dX7_read_29 : decode cX7_read 29 = .ok (.getfield 61, 3) := dg_c16.2.2.2.2.2.2.2.2.2.2.2.2.2.2.1
theorem dX7_read_32 : decode cX7_read 32 = .ok (.iload_n 1, 1) := dg_c16.2.2.2.2.2.2.2.2.2.2.2.2.2.2.2
theorem dg_c17 : (decode cX7_read 33 = .ok (.aaload, 1)) ∧ (decode cX7_read 34 = .ok (.astore 5, 2)) ∧ (decode cX7_read 36 = .ok (.aload_n 0, 1)) ∧ (decode cX7_read 37 = .ok (.getfield 47, 3)) ∧ (decode cX7_read 40 = .ok (.aload_n 0, 1)) ∧ (decode cX7_read 41 = .ok (.getfield 19, 3)) ∧ (decode cX7_read 44 = .ok (.getfield 112, 3)) ∧ (decode cX7_read 47 = .ok (.invokevirtual 225, 3)) ∧ (decode cX7_read 50 = .ok (.iconst 0, 1)) ∧ (decode cX7_read 51 = .ok (.istore 6, 2)) ∧ (decode cX7_read 53 = .ok (.iload 6, 2)) ∧ (decode cX7_read 55 = .ok (.iload 4, 2)) ∧ (decode cX7_read 57 = .ok (.if_icmp .ge 65, 3)) ∧ (decode cX7_read 60 = .ok (.aload 5, 2)) ∧ (decode cX7_read 62 = .ok (.iload_n 2, 1)) ∧ (decode cX7_read 63 = .ok (.iload_n 3, 1)) := by decide +kernel
theorem dX7_read_33 : decode cX7_read 33 = .ok (.aaload, 1) := dg_c17.1
theorem dX7_read_34 : decode cX7_read 34 = .ok (.astore 5, 2) := dg_c17.2.1
theorem dX7_read_36 : decode cX7_read 36 = .ok (.aload_n 0, 1) := dg_c17.2.2.1
theorem dX7_read_37 : decode cX7_read 37 = .ok (.getfield 47, 3) := dg_c17.2.2.2.1
theorem dX7_read_40 : decode cX7_read 40 = .ok (.aload_n 0, 1) := dg_c17.2.2.2.2.1
theorem dX7_read_41 : decode cX7_read 41 = .ok (.getfield 19, 3) := dg_c17.2.2.2.2.2.1
theorem dX7_read_44 : decode cX7_read 44 = .ok (.getfield 112, 3) := dg_c17.2.2.2.2.2.2.1
theorem dX7_read_47 : decode cX7_read 47 = .ok (.invokevirtual 225, 3) := dg_c17.2.2.2.2.2.2.2.1
theorem dX7_read_50 : decode cX7_read 50 = .ok (.iconst 0, 1) := dg_c17.2.2.2.2.2.2.2.2.1
theorem dX7_read_51 : decode cX7_read 51 = .ok (.istore 6, 2) := dg_c17.2.2.2.2.2.2.2.2.2.1
theorem dX7_read_53 : decode cX7_read 53 = .ok (.iload 6, 2) := dg_c17.2.2.2.2.2.2.2.2.2.2.1
theorem dX7_read_55 : decode cX7_read 55 = .ok (.iload 4, 2) := dg_c17.2.2.2.2.2.2.2.2.2.2.2.1
theorem dX7_read_57 : decode cX7_read 57 = .ok (.if_icmp .ge 65, 3) := dg_c17.2.2.2.2.2.2.2.2.2.2.2.2.1
theorem dX7_read_60 : decode cX7_read 60 = .ok (.aload 5, 2) := dg_c17.2.2.2.2.2.2.2.2.2.2.2.2.2.1
theorem dX7_read_62 : decode cX7_read 62 = .ok (.iload_n 2, 1) := dg_c17.2.2.2.2.2.2.2.2.2.2.2.2.2.2.1
theorem dX7_read_63 : decode cX7_read 63 = .ok (.iload_n 3, 1) := dg_c17.2.2.2.2.2.2.2.2.2.2.2.2.2.2.2
theorem dg_c18 : (decode cX7_read 64 = .ok (.iload 6, 2)) ∧ (decode cX7_read 66 = .ok (.iadd, 1)) ∧ (decode cX7_read 67 = .ok (.invokevirtual 302, 3)) ∧ (decode cX7_read 70 = .ok (.istore 7, 2)) ∧ (decode cX7_read 72 = .ok (.iload 7, 2)) ∧ (decode cX7_read 74 = .ok (.ifCond .eq 12, 3)) ∧ (decode cX7_read 77 = .ok (.aload_n 0, 1)) ∧ (decode cX7_read 78 = .ok (.iload 6, 2)) ∧ (decode cX7_read 80 = .ok (.iload 7, 2)) ∧ (decode cX7_read 82 = .ok (.invokevirtual 312, 3)) ∧ (decode cX7_read 85 = .ok (.ireturn, 1)) ∧ (decode cX7_read 86 = .ok (.aload_n 0, 1)) ∧ (decode cX7_read 87 = .ok (.getfield 19, 3)) ∧ (decode cX7_read 90 = .ok (.aload_n 0, 1)) ∧ (decode cX7_read 91 = .ok (.getfield 47, 3)) ∧ (decode cX7_read 94 = .ok (.aload 5, 2)) := by decide +kernel
theorem dX7_read_64 : decode cX7_read 64 = .ok (.iload 6, 2) := dg_c18.1
theorem dX7_read_66 : decode cX7_read 66 = .ok (.iadd, 1) := dg_c18.2.1
theorem dX7_read_67 : decode cX7_read 67 = .ok (.invokevirtual 302, 3) := dg_c18.2.2.1
theorem dX7_read_70 : decode cX7_read 70 = .ok (.istore 7, 2) := dg_c18.2.2.2.1
theorem dX7_read_72 : decode cX7_read 72 = .ok (.iload 7, 2) := dg_c18.2.2.2.2.1
theorem dX7_read_74 : decode cX7_read 74 = .ok (.ifCond .eq 12, 3) := dg_c18.2.2.2.2.2.1
theorem dX7_read_77 : decode cX7_read 77 = .ok (.aload_n 0, 1) := dg_c18.2.2.2.2.2.2.1
theorem dX7_read_78 : decode cX7_read 78 = .ok (.iload 6, 2) := dg_c18.2.2.2.2.2.2.2.1
theorem dX7_read_80 : decode cX7_read 80 = .ok (.iload 7, 2) := dg_c18.2.2.2.2.2.2.2.2.1
theorem dX7_read_82 : decode cX7_read 82 = .ok (.invokevirtual 312, 3) := dg_c18.2.2.2.2.2.2.2.2.2.1
theorem dX7_read_85 : decode cX7_read 85 = .ok (.ireturn, 1) := dg_c18.2.2.2.2.2.2.2.2.2.2.1
theorem dX7_read_86 : decode cX7_read 86 = .ok (.aload_n 0, 1) := dg_c18.2.2.2.2.2.2.2.2.2.2.2.1
theorem dX7_read_87 : decode cX7_read 87 = .ok (.getfield 19, 3) := dg_c18.2.2.2.2.2.2.2.2.2.2.2.2.1
theorem dX7_read_90 : decode cX7_read 90 = .ok (.aload_n 0, 1) := dg_c18.2.2.2.2.2.2.2.2.2.2.2.2.2.1
theorem dX7_read_91 : decode cX7_read 91 = .ok (.getfield 47, 3) := dg_c18.2.2.2.2.2.2.2.2.2.2.2.2.2.2.1
theorem dX7_read_94 : decode cX7_read 94 = .ok (.aload 5, 2) := dg_c18.2.2.2.2.2.2.2.2.2.2.2.2.2.2.2
theorem dg_c19 : (decode cX7_read 96 = .ok (.getfield 306, 3)) ∧ (decode cX7_read 99 = .ok (.iload_n 3, 1)) ∧ (decode cX7_read 100 = .ok (.iload 6, 2)) ∧ (decode cX7_read 102 = .ok (.iadd, 1)) ∧ (decode cX7_read 103 = .ok (.iaload, 1)) ∧ (decode cX7_read 104 = .ok (.invokevirtual 202, 3)) ∧ (decode cX7_read 107 = .ok (.ifCond .ne 9, 3)) ∧ (decode cX7_read 110 = .ok (.bipush (-20), 2)) ∧ (decode cX7_read 112 = .ok (.iload 6, 2)) ∧ (decode cX7_read 114 = .ok (.isub, 1)) ∧ (decode cX7_read 115 = .ok (.ireturn, 1)) ∧ (decode cX7_read 116 = .ok (.iinc 6 1, 3)) ∧ (decode cX7_read 119 = .ok (.goto (-66), 3)) ∧ (decode cX7_read 122 = .ok (.aload_n 0, 1)) ∧ (decode cX7_read 123 = .ok (.iload 4, 2)) ∧ (decode cX7_read 125 = .ok (.iconst 0, 1)) := by decide +kernel
theorem dX7_read_96 : decode cX7_read 96 = .ok (.getfield 306, 3) := dg_c19.1
theorem dX7_read_99 : decode cX7_read 99 = .ok (.iload_n 3, 1) := dg_c19.2.1
theorem dX7_read_100 : decode cX7_read 100 = .ok (.iload 6, 2) := dg_c19.2.2.1
theorem dX7_read_102 : decode cX7_read 102 = .ok (.iadd, 1) := dg_c19.2.2.2.1
theorem dX7_read_103 : decode cX7_read 103 = .ok (.iaload, 1) := dg_c19.2.2.2.2.1
theorem dX7_read_104 : decode cX7_read 104 = .ok (.invokevirtual 202, 3) := dg_c19.2.2.2.2.2.1
theorem dX7_read_107 : decode cX7_read 107 = .ok (.ifCond .ne 9, 3) := dg_c19.2.2.2.2.2.2.1
theorem dX7_read_110 : decode cX7_read 110 = .ok (.bipush (-20), 2) := dg_c19.2.2.2.2.2.2.2.1
theorem dX7_read_112 : decode cX7_read 112 = .ok (.iload 6, 2) := dg_c19.2.2.2.2.2.2.2.2.1
theorem dX7_read_114 : decode cX7_read 114 = .ok (.isub, 1) := dg_c19.2.2.2.2.2.2.2.2.2.1
theorem dX7_read_115 : decode cX7_read 115 = .ok (.ireturn, 1) := dg_c19.2.2.2.2.2.2.2.2.2.2.1
theorem dX7_read_116 : decode cX7_read 116 = .ok (.iinc 6 1, 3) := dg_c19.2.2.2.2.2.2.2.2.2.2.2.1
theorem dX7_read_119 : decode cX7_read 119 = .ok (.goto (-66), 3) := dg_c19.2.2.2.2.2.2.2.2.2.2.2.2.1
theorem dX7_read_122 : decode cX7_read 122 = .ok (.aload_n 0, 1) := dg_c19.2.2.2.2.2.2.2.2.2.2.2.2.2.1
theorem dX7_read_123 : decode cX7_read 123 = .ok (.iload 4, 2) := dg_c19.2.2.2.2.2.2.2.2.2.2.2.2.2.2.1
theorem dX7_read_125 : decode cX7_read 125 = .ok (.iconst 0, 1) := dg_c19.2.2.2.2.2.2.2.2.2.2.2.2.2.2.2
theorem dg_c20 : (decode cX7_read 126 = .ok (.invokevirtual 312, 3)) ∧ (decode cX7_read 129 = .ok (.ireturn, 1)) := by decide +kernel
theorem dX7_read_126 : decode cX7_read 126 = .ok (.invokevirtual 312, 3) := dg_c20.1
theorem dX7_read_129 : decode cX7_read 129 = .ok (.ireturn, 1) := dg_c20.2
theorem dg_c21 : (decode cX7_endRead 0 = .ok (.aload_n 0, 1)) ∧ (decode cX7_endRead 1 = .ok (.getfield 19, 3)) ∧ (decode cX7_endRead 4 = .ok (.getfield 112, 3)) ∧ (decode cX7_endRead 7 = .ok (.aload_n 0, 1)) ∧ (decode cX7_endRead 8 = .ok (.getfield 47, 3)) ∧ (decode cX7_endRead 11 = .ok (.invokevirtual 225, 3)) ∧ (decode cX7_endRead 14 = .ok (.aload_n 0, 1)) ∧ (decode cX7_endRead 15 = .ok (.iload_n 2, 1)) ∧ (decode cX7_endRead 16 = .ok (.putfield 315, 3)) ∧ (decode cX7_endRead 19 = .ok (.iload_n 1, 1)) ∧ (decode cX7_endRead 20 = .ok (.ireturn, 1)) := by decide +kernel
theorem dX7_endRead_0 : decode cX7_endRead 0 = .ok (.aload_n 0, 1) := dg_c21.1
theorem dX7_endRead_1 : decode cX7_endRead 1 = .ok (.getfield 19, 3) := dg_c21.2.1
theorem dX7_endRead_4 : decode cX7_endRead 4 = .ok (.getfield 112, 3) := dg_c21.2.2.1
theorem dX7_endRead_7 : decode cX7_endRead 7 = .ok (.aload_n 0, 1) := dg_c21.2.2.2.1
theorem dX7_endRead_8 : decode cX7_endRead 8 = .ok (.getfield 47, 3) := dg_c21.2.2.2.2.1
theorem dX7_endRead_11 : decode cX7_endRead 11 = .ok (.invokevirtual 225, 3) := dg_c21.2.2.2.2.2.1
theorem dX7_endRead_14 : decode cX7_endRead 14 = .ok (.aload_n 0, 1) := dg_c21.2.2.2.2.2.2.1
theorem dX7_endRead_15 : decode cX7_endRead 15 = .ok (.iload_n 2, 1) := dg_c21.2.2.2.2.2.2.2.1
theorem dX7_endRead_16 : decode cX7_endRead 16 = .ok (.putfield 315, 3) := dg_c21.2.2.2.2.2.2.2.2.1
theorem dX7_endRead_19 : decode cX7_endRead 19 = .ok (.iload_n 1, 1) := dg_c21.2.2.2.2.2.2.2.2.2.1
theorem dX7_endRead_20 : decode cX7_endRead 20 = .ok (.ireturn, 1) := dg_c21.2.2.2.2.2.2.2.2.2.2
theorem dg_c22 : (decode cX7_torn 0 = .ok (.aload_n 0, 1)) ∧ (decode cX7_torn 1 = .ok (.getfield 315, 3)) ∧ (decode cX7_torn 4 = .ok (.ireturn, 1)) := by decide +kernel
theorem dX7_torn_0 : decode cX7_torn 0 = .ok (.aload_n 0, 1) := dg_c22.1
theorem dX7_torn_1 : decode cX7_torn 1 = .ok (.getfield 315, 3) := dg_c22.2.1
theorem dX7_torn_4 : decode cX7_torn 4 = .ok (.ireturn, 1) := dg_c22.2.2
theorem dg_c23 : (decode cX7_count 0 = .ok (.iload_n 1, 1)) ∧ (decode cX7_count 1 = .ok (.tableswitch 110 0 4 #[35, 46, 54, 74, 82], 35)) ∧ (decode cX7_count 36 = .ok (.aload_n 0, 1)) ∧ (decode cX7_count 37 = .ok (.getfield 19, 3)) ∧ (decode cX7_count 40 = .ok (.getfield 187, 3)) ∧ (decode cX7_count 43 = .ok (.invokestatic 252, 3)) ∧ (decode cX7_count 46 = .ok (.ireturn, 1)) ∧ (decode cX7_count 47 = .ok (.aload_n 0, 1)) ∧ (decode cX7_count 48 = .ok (.getfield 19, 3)) ∧ (decode cX7_count 51 = .ok (.getfield 276, 3)) ∧ (decode cX7_count 54 = .ok (.ireturn, 1)) ∧ (decode cX7_count 55 = .ok (.aload_n 0, 1)) ∧ (decode cX7_count 56 = .ok (.getfield 55, 3)) ∧ (decode cX7_count 59 = .ok (.iconst 0, 1)) ∧ (decode cX7_count 60 = .ok (.baload, 1)) ∧ (decode cX7_count 61 = .ok (.invokestatic 134, 3)) := by decide +kernel
theorem dX7_count_0 : decode cX7_count 0 = .ok (.iload_n 1, 1) := dg_c23.1
theorem dX7_count_1 : decode cX7_count 1 = .ok (.tableswitch 110 0 4 #[35, 46, 54, 74, 82], 35) := dg_c23.2.1
theorem dX7_count_36 : decode cX7_count 36 = .ok (.aload_n 0, 1) := dg_c23.2.2.1
theorem dX7_count_37 : decode cX7_count 37 = .ok (.getfield 19, 3) := dg_c23.2.2.2.1
theorem dX7_count_40 : decode cX7_count 40 = .ok (.getfield 187, 3) := dg_c23.2.2.2.2.1
theorem dX7_count_43 : decode cX7_count 43 = .ok (.invokestatic 252, 3) := dg_c23.2.2.2.2.2.1
theorem dX7_count_46 : decode cX7_count 46 = .ok (.ireturn, 1) := dg_c23.2.2.2.2.2.2.1
theorem dX7_count_47 : decode cX7_count 47 = .ok (.aload_n 0, 1) := dg_c23.2.2.2.2.2.2.2.1
theorem dX7_count_48 : decode cX7_count 48 = .ok (.getfield 19, 3) := dg_c23.2.2.2.2.2.2.2.2.1
theorem dX7_count_51 : decode cX7_count 51 = .ok (.getfield 276, 3) := dg_c23.2.2.2.2.2.2.2.2.2.1
theorem dX7_count_54 : decode cX7_count 54 = .ok (.ireturn, 1) := dg_c23.2.2.2.2.2.2.2.2.2.2.1
theorem dX7_count_55 : decode cX7_count 55 = .ok (.aload_n 0, 1) := dg_c23.2.2.2.2.2.2.2.2.2.2.2.1
theorem dX7_count_56 : decode cX7_count 56 = .ok (.getfield 55, 3) := dg_c23.2.2.2.2.2.2.2.2.2.2.2.2.1
theorem dX7_count_59 : decode cX7_count 59 = .ok (.iconst 0, 1) := dg_c23.2.2.2.2.2.2.2.2.2.2.2.2.2.1
theorem dX7_count_60 : decode cX7_count 60 = .ok (.baload, 1) := dg_c23.2.2.2.2.2.2.2.2.2.2.2.2.2.2.1
theorem dX7_count_61 : decode cX7_count 61 = .ok (.invokestatic 134, 3) := dg_c23.2.2.2.2.2.2.2.2.2.2.2.2.2.2.2
theorem dg_c24 : (decode cX7_count 64 = .ok (.aload_n 0, 1)) ∧ (decode cX7_count 65 = .ok (.getfield 55, 3)) ∧ (decode cX7_count 68 = .ok (.iconst 1, 1)) ∧ (decode cX7_count 69 = .ok (.baload, 1)) ∧ (decode cX7_count 70 = .ok (.invokestatic 134, 3)) ∧ (decode cX7_count 73 = .ok (.iadd, 1)) ∧ (decode cX7_count 74 = .ok (.ireturn, 1)) ∧ (decode cX7_count 75 = .ok (.aload_n 0, 1)) ∧ (decode cX7_count 76 = .ok (.getfield 10, 3)) ∧ (decode cX7_count 79 = .ok (.getfield 70, 3)) ∧ (decode cX7_count 82 = .ok (.ireturn, 1)) ∧ (decode cX7_count 83 = .ok (.aload_n 0, 1)) ∧ (decode cX7_count 84 = .ok (.getfield 61, 3)) ∧ (decode cX7_count 87 = .ok (.iconst 0, 1)) ∧ (decode cX7_count 88 = .ok (.aaload, 1)) ∧ (decode cX7_count 89 = .ok (.getfield 299, 3)) := by decide +kernel
theorem dX7_count_64 : decode cX7_count 64 = .ok (.aload_n 0, 1) := dg_c24.1
theorem dX7_count_65 : decode cX7_count 65 = .ok (.getfield 55, 3) := dg_c24.2.1
theorem dX7_count_68 : decode cX7_count 68 = .ok (.iconst 1, 1) := dg_c24.2.2.1
theorem dX7_count_69 : decode cX7_count 69 = .ok (.baload, 1) := dg_c24.2.2.2.1
theorem dX7_count_70 : decode cX7_count 70 = .ok (.invokestatic 134, 3) := dg_c24.2.2.2.2.1
theorem dX7_count_73 : decode cX7_count 73 = .ok (.iadd, 1) := dg_c24.2.2.2.2.2.1
theorem dX7_count_74 : decode cX7_count 74 = .ok (.ireturn, 1) := dg_c24.2.2.2.2.2.2.1
theorem dX7_count_75 : decode cX7_count 75 = .ok (.aload_n 0, 1) := dg_c24.2.2.2.2.2.2.2.1
theorem dX7_count_76 : decode cX7_count 76 = .ok (.getfield 10, 3) := dg_c24.2.2.2.2.2.2.2.2.1
theorem dX7_count_79 : decode cX7_count 79 = .ok (.getfield 70, 3) := dg_c24.2.2.2.2.2.2.2.2.2.1
theorem dX7_count_82 : decode cX7_count 82 = .ok (.ireturn, 1) := dg_c24.2.2.2.2.2.2.2.2.2.2.1
theorem dX7_count_83 : decode cX7_count 83 = .ok (.aload_n 0, 1) := dg_c24.2.2.2.2.2.2.2.2.2.2.2.1
theorem dX7_count_84 : decode cX7_count 84 = .ok (.getfield 61, 3) := dg_c24.2.2.2.2.2.2.2.2.2.2.2.2.1
theorem dX7_count_87 : decode cX7_count 87 = .ok (.iconst 0, 1) := dg_c24.2.2.2.2.2.2.2.2.2.2.2.2.2.1
theorem dX7_count_88 : decode cX7_count 88 = .ok (.aaload, 1) := dg_c24.2.2.2.2.2.2.2.2.2.2.2.2.2.2.1
theorem dX7_count_89 : decode cX7_count 89 = .ok (.getfield 299, 3) := dg_c24.2.2.2.2.2.2.2.2.2.2.2.2.2.2.2
theorem dg_c25 : (decode cX7_count 92 = .ok (.iconst (-1), 1)) ∧ (decode cX7_count 93 = .ok (.if_icmp .ne 8, 3)) ∧ (decode cX7_count 96 = .ok (.bipush (-4), 2)) ∧ (decode cX7_count 98 = .ok (.goto 12, 3)) ∧ (decode cX7_count 101 = .ok (.aload_n 0, 1)) ∧ (decode cX7_count 102 = .ok (.getfield 61, 3)) ∧ (decode cX7_count 105 = .ok (.iconst 0, 1)) ∧ (decode cX7_count 106 = .ok (.aaload, 1)) ∧ (decode cX7_count 107 = .ok (.getfield 318, 3)) ∧ (decode cX7_count 110 = .ok (.ireturn, 1)) ∧ (decode cX7_count 111 = .ok (.iconst (-1), 1)) ∧ (decode cX7_count 112 = .ok (.ireturn, 1)) := by decide +kernel
theorem dX7_count_92 : decode cX7_count 92 = .ok (.iconst (-1), 1) := dg_c25.1
theorem dX7_count_93 : decode cX7_count 93 = .ok (.if_icmp .ne 8, 3) := dg_c25.2.1
theorem dX7_count_96 : decode cX7_count 96 = .ok (.bipush (-4), 2) := dg_c25.2.2.1
theorem dX7_count_98 : decode cX7_count 98 = .ok (.goto 12, 3) := dg_c25.2.2.2.1
theorem dX7_count_101 : decode cX7_count 101 = .ok (.aload_n 0, 1) := dg_c25.2.2.2.2.1
theorem dX7_count_102 : decode cX7_count 102 = .ok (.getfield 61, 3) := dg_c25.2.2.2.2.2.1
theorem dX7_count_105 : decode cX7_count 105 = .ok (.iconst 0, 1) := dg_c25.2.2.2.2.2.2.1
theorem dX7_count_106 : decode cX7_count 106 = .ok (.aaload, 1) := dg_c25.2.2.2.2.2.2.2.1
theorem dX7_count_107 : decode cX7_count 107 = .ok (.getfield 318, 3) := dg_c25.2.2.2.2.2.2.2.2.1
theorem dX7_count_110 : decode cX7_count 110 = .ok (.ireturn, 1) := dg_c25.2.2.2.2.2.2.2.2.2.1
theorem dX7_count_111 : decode cX7_count 111 = .ok (.iconst (-1), 1) := dg_c25.2.2.2.2.2.2.2.2.2.2.1
theorem dX7_count_112 : decode cX7_count 112 = .ok (.ireturn, 1) := dg_c25.2.2.2.2.2.2.2.2.2.2.2
theorem dg_c26 : (decode cX7_oneIf 0 = .ok (.iload_n 0, 1)) ∧ (decode cX7_oneIf 1 = .ok (.ifCond .eq 7, 3)) ∧ (decode cX7_oneIf 4 = .ok (.iconst 1, 1)) ∧ (decode cX7_oneIf 5 = .ok (.goto 4, 3)) ∧ (decode cX7_oneIf 8 = .ok (.iconst 0, 1)) ∧ (decode cX7_oneIf 9 = .ok (.ireturn, 1)) := by decide +kernel
theorem dX7_oneIf_0 : decode cX7_oneIf 0 = .ok (.iload_n 0, 1) := dg_c26.1
theorem dX7_oneIf_1 : decode cX7_oneIf 1 = .ok (.ifCond .eq 7, 3) := dg_c26.2.1
theorem dX7_oneIf_4 : decode cX7_oneIf 4 = .ok (.iconst 1, 1) := dg_c26.2.2.1
theorem dX7_oneIf_5 : decode cX7_oneIf 5 = .ok (.goto 4, 3) := dg_c26.2.2.2.1
theorem dX7_oneIf_8 : decode cX7_oneIf 8 = .ok (.iconst 0, 1) := dg_c26.2.2.2.2.1
theorem dX7_oneIf_9 : decode cX7_oneIf 9 = .ok (.ireturn, 1) := dg_c26.2.2.2.2.2
theorem dg_c27 : (decode cX7_withBit 0 = .ok (.iload_n 2, 1)) ∧ (decode cX7_withBit 1 = .ok (.ifCond .eq 11, 3)) ∧ (decode cX7_withBit 4 = .ok (.iload_n 0, 1)) ∧ (decode cX7_withBit 5 = .ok (.iconst 1, 1)) ∧ (decode cX7_withBit 6 = .ok (.iload_n 1, 1)) ∧ (decode cX7_withBit 7 = .ok (.ishl, 1)) ∧ (decode cX7_withBit 8 = .ok (.ior, 1)) ∧ (decode cX7_withBit 9 = .ok (.goto 10, 3)) ∧ (decode cX7_withBit 12 = .ok (.iload_n 0, 1)) ∧ (decode cX7_withBit 13 = .ok (.iconst 1, 1)) ∧ (decode cX7_withBit 14 = .ok (.iload_n 1, 1)) ∧ (decode cX7_withBit 15 = .ok (.ishl, 1)) ∧ (decode cX7_withBit 16 = .ok (.iconst (-1), 1)) ∧ (decode cX7_withBit 17 = .ok (.ixor, 1)) ∧ (decode cX7_withBit 18 = .ok (.iand, 1)) ∧ (decode cX7_withBit 19 = .ok (.ireturn, 1)) := by decide +kernel
theorem dX7_withBit_0 : decode cX7_withBit 0 = .ok (.iload_n 2, 1) := dg_c27.1
theorem dX7_withBit_1 : decode cX7_withBit 1 = .ok (.ifCond .eq 11, 3) := dg_c27.2.1
theorem dX7_withBit_4 : decode cX7_withBit 4 = .ok (.iload_n 0, 1) := dg_c27.2.2.1
theorem dX7_withBit_5 : decode cX7_withBit 5 = .ok (.iconst 1, 1) := dg_c27.2.2.2.1
theorem dX7_withBit_6 : decode cX7_withBit 6 = .ok (.iload_n 1, 1) := dg_c27.2.2.2.2.1
theorem dX7_withBit_7 : decode cX7_withBit 7 = .ok (.ishl, 1) := dg_c27.2.2.2.2.2.1
theorem dX7_withBit_8 : decode cX7_withBit 8 = .ok (.ior, 1) := dg_c27.2.2.2.2.2.2.1
theorem dX7_withBit_9 : decode cX7_withBit 9 = .ok (.goto 10, 3) := dg_c27.2.2.2.2.2.2.2.1
theorem dX7_withBit_12 : decode cX7_withBit 12 = .ok (.iload_n 0, 1) := dg_c27.2.2.2.2.2.2.2.2.1
theorem dX7_withBit_13 : decode cX7_withBit 13 = .ok (.iconst 1, 1) := dg_c27.2.2.2.2.2.2.2.2.2.1
theorem dX7_withBit_14 : decode cX7_withBit 14 = .ok (.iload_n 1, 1) := dg_c27.2.2.2.2.2.2.2.2.2.2.1
theorem dX7_withBit_15 : decode cX7_withBit 15 = .ok (.ishl, 1) := dg_c27.2.2.2.2.2.2.2.2.2.2.2.1
theorem dX7_withBit_16 : decode cX7_withBit 16 = .ok (.iconst (-1), 1) := dg_c27.2.2.2.2.2.2.2.2.2.2.2.2.1
theorem dX7_withBit_17 : decode cX7_withBit 17 = .ok (.ixor, 1) := dg_c27.2.2.2.2.2.2.2.2.2.2.2.2.2.1
theorem dX7_withBit_18 : decode cX7_withBit 18 = .ok (.iand, 1) := dg_c27.2.2.2.2.2.2.2.2.2.2.2.2.2.2.1
theorem dX7_withBit_19 : decode cX7_withBit 19 = .ok (.ireturn, 1) := dg_c27.2.2.2.2.2.2.2.2.2.2.2.2.2.2.2
theorem dg_c28 : (decode cX7_isZeroOrOne 0 = .ok (.iload_n 0, 1)) ∧ (decode cX7_isZeroOrOne 1 = .ok (.ifCond .eq 8, 3)) ∧ (decode cX7_isZeroOrOne 4 = .ok (.iload_n 0, 1)) ∧ (decode cX7_isZeroOrOne 5 = .ok (.iconst 1, 1)) ∧ (decode cX7_isZeroOrOne 6 = .ok (.if_icmp .ne 7, 3)) ∧ (decode cX7_isZeroOrOne 9 = .ok (.iconst 1, 1)) ∧ (decode cX7_isZeroOrOne 10 = .ok (.goto 4, 3)) ∧ (decode cX7_isZeroOrOne 13 = .ok (.iconst 0, 1)) ∧ (decode cX7_isZeroOrOne 14 = .ok (.ireturn, 1)) := by decide +kernel
theorem dX7_isZeroOrOne_0 : decode cX7_isZeroOrOne 0 = .ok (.iload_n 0, 1) := dg_c28.1
theorem dX7_isZeroOrOne_1 : decode cX7_isZeroOrOne 1 = .ok (.ifCond .eq 8, 3) := dg_c28.2.1
theorem dX7_isZeroOrOne_4 : decode cX7_isZeroOrOne 4 = .ok (.iload_n 0, 1) := dg_c28.2.2.1
theorem dX7_isZeroOrOne_5 : decode cX7_isZeroOrOne 5 = .ok (.iconst 1, 1) := dg_c28.2.2.2.1
theorem dX7_isZeroOrOne_6 : decode cX7_isZeroOrOne 6 = .ok (.if_icmp .ne 7, 3) := dg_c28.2.2.2.2.1
theorem dX7_isZeroOrOne_9 : decode cX7_isZeroOrOne 9 = .ok (.iconst 1, 1) := dg_c28.2.2.2.2.2.1
theorem dX7_isZeroOrOne_10 : decode cX7_isZeroOrOne 10 = .ok (.goto 4, 3) := dg_c28.2.2.2.2.2.2.1
theorem dX7_isZeroOrOne_13 : decode cX7_isZeroOrOne 13 = .ok (.iconst 0, 1) := dg_c28.2.2.2.2.2.2.2.1
theorem dX7_isZeroOrOne_14 : decode cX7_isZeroOrOne 14 = .ok (.ireturn, 1) := dg_c28.2.2.2.2.2.2.2.2
theorem dg_c29 : (decode cX7_isHour 0 = .ok (.iload_n 0, 1)) ∧ (decode cX7_isHour 1 = .ok (.ifCond .lt 13, 3)) ∧ (decode cX7_isHour 4 = .ok (.iload_n 0, 1)) ∧ (decode cX7_isHour 5 = .ok (.bipush 10, 2)) ∧ (decode cX7_isHour 7 = .ok (.if_icmp .ge 7, 3)) ∧ (decode cX7_isHour 10 = .ok (.iconst 1, 1)) ∧ (decode cX7_isHour 11 = .ok (.goto 4, 3)) ∧ (decode cX7_isHour 14 = .ok (.iconst 0, 1)) ∧ (decode cX7_isHour 15 = .ok (.ireturn, 1)) := by decide +kernel
theorem dX7_isHour_0 : decode cX7_isHour 0 = .ok (.iload_n 0, 1) := dg_c29.1
theorem dX7_isHour_1 : decode cX7_isHour 1 = .ok (.ifCond .lt 13, 3) := dg_c29.2.1
theorem dX7_isHour_4 : decode cX7_isHour 4 = .ok (.iload_n 0, 1) := dg_c29.2.2.1
theorem dX7_isHour_5 : decode cX7_isHour 5 = .ok (.bipush 10, 2) := dg_c29.2.2.2.1
theorem dX7_isHour_7 : decode cX7_isHour 7 = .ok (.if_icmp .ge 7, 3) := dg_c29.2.2.2.2.1
theorem dX7_isHour_10 : decode cX7_isHour 10 = .ok (.iconst 1, 1) := dg_c29.2.2.2.2.2.1
theorem dX7_isHour_11 : decode cX7_isHour 11 = .ok (.goto 4, 3) := dg_c29.2.2.2.2.2.2.1
theorem dX7_isHour_14 : decode cX7_isHour 14 = .ok (.iconst 0, 1) := dg_c29.2.2.2.2.2.2.2.1
theorem dX7_isHour_15 : decode cX7_isHour 15 = .ok (.ireturn, 1) := dg_c29.2.2.2.2.2.2.2.2
theorem dg_c30 : (decode cX7_isSheet 0 = .ok (.iload_n 0, 1)) ∧ (decode cX7_isSheet 1 = .ok (.ifCond .lt 12, 3)) ∧ (decode cX7_isSheet 4 = .ok (.iload_n 0, 1)) ∧ (decode cX7_isSheet 5 = .ok (.iconst 4, 1)) ∧ (decode cX7_isSheet 6 = .ok (.if_icmp .ge 7, 3)) ∧ (decode cX7_isSheet 9 = .ok (.iconst 1, 1)) ∧ (decode cX7_isSheet 10 = .ok (.goto 4, 3)) ∧ (decode cX7_isSheet 13 = .ok (.iconst 0, 1)) ∧ (decode cX7_isSheet 14 = .ok (.ireturn, 1)) := by decide +kernel
theorem dX7_isSheet_0 : decode cX7_isSheet 0 = .ok (.iload_n 0, 1) := dg_c30.1
theorem dX7_isSheet_1 : decode cX7_isSheet 1 = .ok (.ifCond .lt 12, 3) := dg_c30.2.1
theorem dX7_isSheet_4 : decode cX7_isSheet 4 = .ok (.iload_n 0, 1) := dg_c30.2.2.1
theorem dX7_isSheet_5 : decode cX7_isSheet 5 = .ok (.iconst 4, 1) := dg_c30.2.2.2.1
theorem dX7_isSheet_6 : decode cX7_isSheet 6 = .ok (.if_icmp .ge 7, 3) := dg_c30.2.2.2.2.1
theorem dX7_isSheet_9 : decode cX7_isSheet 9 = .ok (.iconst 1, 1) := dg_c30.2.2.2.2.2.1
theorem dX7_isSheet_10 : decode cX7_isSheet 10 = .ok (.goto 4, 3) := dg_c30.2.2.2.2.2.2.1
theorem dX7_isSheet_13 : decode cX7_isSheet 13 = .ok (.iconst 0, 1) := dg_c30.2.2.2.2.2.2.2.1
theorem dX7_isSheet_14 : decode cX7_isSheet 14 = .ok (.ireturn, 1) := dg_c30.2.2.2.2.2.2.2.2
theorem dg_c31 : (decode cX7_isLane 0 = .ok (.iload_n 0, 1)) ∧ (decode cX7_isLane 1 = .ok (.ifCond .lt 12, 3)) ∧ (decode cX7_isLane 4 = .ok (.iload_n 0, 1)) ∧ (decode cX7_isLane 5 = .ok (.iconst 3, 1)) ∧ (decode cX7_isLane 6 = .ok (.if_icmp .ge 7, 3)) ∧ (decode cX7_isLane 9 = .ok (.iconst 1, 1)) ∧ (decode cX7_isLane 10 = .ok (.goto 4, 3)) ∧ (decode cX7_isLane 13 = .ok (.iconst 0, 1)) ∧ (decode cX7_isLane 14 = .ok (.ireturn, 1)) := by decide +kernel
theorem dX7_isLane_0 : decode cX7_isLane 0 = .ok (.iload_n 0, 1) := dg_c31.1
theorem dX7_isLane_1 : decode cX7_isLane 1 = .ok (.ifCond .lt 12, 3) := dg_c31.2.1
theorem dX7_isLane_4 : decode cX7_isLane 4 = .ok (.iload_n 0, 1) := dg_c31.2.2.1
theorem dX7_isLane_5 : decode cX7_isLane 5 = .ok (.iconst 3, 1) := dg_c31.2.2.2.1
theorem dX7_isLane_6 : decode cX7_isLane 6 = .ok (.if_icmp .ge 7, 3) := dg_c31.2.2.2.2.1
theorem dX7_isLane_9 : decode cX7_isLane 9 = .ok (.iconst 1, 1) := dg_c31.2.2.2.2.2.1
theorem dX7_isLane_10 : decode cX7_isLane 10 = .ok (.goto 4, 3) := dg_c31.2.2.2.2.2.2.1
theorem dX7_isLane_13 : decode cX7_isLane 13 = .ok (.iconst 0, 1) := dg_c31.2.2.2.2.2.2.2.1
theorem dX7_isLane_14 : decode cX7_isLane 14 = .ok (.ireturn, 1) := dg_c31.2.2.2.2.2.2.2.2
theorem dg_c32 : (decode cX8_init 0 = .ok (.aload_n 0, 1)) ∧ (decode cX8_init 1 = .ok (.invokespecial 1, 3)) ∧ (decode cX8_init 4 = .ok (.aload_n 0, 1)) ∧ (decode cX8_init 5 = .ok (.sipush 162, 3)) ∧ (decode cX8_init 8 = .ok (.newarray .int, 2)) ∧ (decode cX8_init 10 = .ok (.putfield 7, 3)) ∧ (decode cX8_init 13 = .ok (.aload_n 0, 1)) ∧ (decode cX8_init 14 = .ok (.bipush 54, 2)) ∧ (decode cX8_init 16 = .ok (.newarray .int, 2)) ∧ (decode cX8_init 18 = .ok (.putfield 13, 3)) ∧ (decode cX8_init 21 = .ok (.aload_n 0, 1)) ∧ (decode cX8_init 22 = .ok (.iconst 2, 1)) ∧ (decode cX8_init 23 = .ok (.newarray .boolean, 2)) ∧ (decode cX8_init 25 = .ok (.putfield 16, 3)) ∧ (decode cX8_init 28 = .ok (.aload_n 0, 1)) ∧ (decode cX8_init 29 = .ok (.bipush 54, 2)) := by decide +kernel
theorem dX8_init_0 : decode cX8_init 0 = .ok (.aload_n 0, 1) := dg_c32.1
theorem dX8_init_1 : decode cX8_init 1 = .ok (.invokespecial 1, 3) := dg_c32.2.1
theorem dX8_init_4 : decode cX8_init 4 = .ok (.aload_n 0, 1) := dg_c32.2.2.1
theorem dX8_init_5 : decode cX8_init 5 = .ok (.sipush 162, 3) := dg_c32.2.2.2.1
theorem dX8_init_8 : decode cX8_init 8 = .ok (.newarray .int, 2) := dg_c32.2.2.2.2.1
theorem dX8_init_10 : decode cX8_init 10 = .ok (.putfield 7, 3) := dg_c32.2.2.2.2.2.1
theorem dX8_init_13 : decode cX8_init 13 = .ok (.aload_n 0, 1) := dg_c32.2.2.2.2.2.2.1
theorem dX8_init_14 : decode cX8_init 14 = .ok (.bipush 54, 2) := dg_c32.2.2.2.2.2.2.2.1
theorem dX8_init_16 : decode cX8_init 16 = .ok (.newarray .int, 2) := dg_c32.2.2.2.2.2.2.2.2.1
theorem dX8_init_18 : decode cX8_init 18 = .ok (.putfield 13, 3) := dg_c32.2.2.2.2.2.2.2.2.2.1
theorem dX8_init_21 : decode cX8_init 21 = .ok (.aload_n 0, 1) := dg_c32.2.2.2.2.2.2.2.2.2.2.1
theorem dX8_init_22 : decode cX8_init 22 = .ok (.iconst 2, 1) := dg_c32.2.2.2.2.2.2.2.2.2.2.2.1
theorem dX8_init_23 : decode cX8_init 23 = .ok (.newarray .boolean, 2) := dg_c32.2.2.2.2.2.2.2.2.2.2.2.2.1
theorem dX8_init_25 : decode cX8_init 25 = .ok (.putfield 16, 3) := dg_c32.2.2.2.2.2.2.2.2.2.2.2.2.2.1
theorem dX8_init_28 : decode cX8_init 28 = .ok (.aload_n 0, 1) := dg_c32.2.2.2.2.2.2.2.2.2.2.2.2.2.2.1
theorem dX8_init_29 : decode cX8_init 29 = .ok (.bipush 54, 2) := dg_c32.2.2.2.2.2.2.2.2.2.2.2.2.2.2.2
theorem dg_c33 : (decode cX8_init 31 = .ok (.newarray .int, 2)) ∧ (decode cX8_init 33 = .ok (.putfield 20, 3)) ∧ (decode cX8_init 36 = .ok (.aload_n 0, 1)) ∧ (decode cX8_init 37 = .ok (.sipush 160, 3)) ∧ (decode cX8_init 40 = .ok (.newarray .int, 2)) ∧ (decode cX8_init 42 = .ok (.putfield 23, 3)) ∧ (decode cX8_init 45 = .ok (.aload_n 0, 1)) ∧ (decode cX8_init 46 = .ok (.iconst 4, 1)) ∧ (decode cX8_init 47 = .ok (.newarray .int, 2)) ∧ (decode cX8_init 49 = .ok (.putfield 26, 3)) ∧ (decode cX8_init 52 = .ok (.aload_n 0, 1)) ∧ (decode cX8_init 53 = .ok (.iconst 4, 1)) ∧ (decode cX8_init 54 = .ok (.newarray .int, 2)) ∧ (decode cX8_init 56 = .ok (.putfield 29, 3)) ∧ (decode cX8_init 59 = .ok (.aload_n 0, 1)) ∧ (decode cX8_init 60 = .ok (.sipush 160, 3)) := by decide +kernel
theorem dX8_init_31 : decode cX8_init 31 = .ok (.newarray .int, 2) := dg_c33.1
theorem dX8_init_33 : decode cX8_init 33 = .ok (.putfield 20, 3) := dg_c33.2.1
theorem dX8_init_36 : decode cX8_init 36 = .ok (.aload_n 0, 1) := dg_c33.2.2.1
theorem dX8_init_37 : decode cX8_init 37 = .ok (.sipush 160, 3) := dg_c33.2.2.2.1
theorem dX8_init_40 : decode cX8_init 40 = .ok (.newarray .int, 2) := dg_c33.2.2.2.2.1
theorem dX8_init_42 : decode cX8_init 42 = .ok (.putfield 23, 3) := dg_c33.2.2.2.2.2.1
theorem dX8_init_45 : decode cX8_init 45 = .ok (.aload_n 0, 1) := dg_c33.2.2.2.2.2.2.1
theorem dX8_init_46 : decode cX8_init 46 = .ok (.iconst 4, 1) := dg_c33.2.2.2.2.2.2.2.1
theorem dX8_init_47 : decode cX8_init 47 = .ok (.newarray .int, 2) := dg_c33.2.2.2.2.2.2.2.2.1
theorem dX8_init_49 : decode cX8_init 49 = .ok (.putfield 26, 3) := dg_c33.2.2.2.2.2.2.2.2.2.1
theorem dX8_init_52 : decode cX8_init 52 = .ok (.aload_n 0, 1) := dg_c33.2.2.2.2.2.2.2.2.2.2.1
theorem dX8_init_53 : decode cX8_init 53 = .ok (.iconst 4, 1) := dg_c33.2.2.2.2.2.2.2.2.2.2.2.1
theorem dX8_init_54 : decode cX8_init 54 = .ok (.newarray .int, 2) := dg_c33.2.2.2.2.2.2.2.2.2.2.2.2.1
theorem dX8_init_56 : decode cX8_init 56 = .ok (.putfield 29, 3) := dg_c33.2.2.2.2.2.2.2.2.2.2.2.2.2.1
theorem dX8_init_59 : decode cX8_init 59 = .ok (.aload_n 0, 1) := dg_c33.2.2.2.2.2.2.2.2.2.2.2.2.2.2.1
theorem dX8_init_60 : decode cX8_init 60 = .ok (.sipush 160, 3) := dg_c33.2.2.2.2.2.2.2.2.2.2.2.2.2.2.2
theorem dg_c34 : (decode cX8_init 63 = .ok (.newarray .int, 2)) ∧ (decode cX8_init 65 = .ok (.putfield 32, 3)) ∧ (decode cX8_init 68 = .ok (.aload_n 0, 1)) ∧ (decode cX8_init 69 = .ok (.bipush 54, 2)) ∧ (decode cX8_init 71 = .ok (.newarray .int, 2)) ∧ (decode cX8_init 73 = .ok (.putfield 35, 3)) ∧ (decode cX8_init 76 = .ok (.iconst 0, 1)) ∧ (decode cX8_init 77 = .ok (.istore_n 1, 1)) ∧ (decode cX8_init 78 = .ok (.iload_n 1, 1)) ∧ (decode cX8_init 79 = .ok (.iconst 4, 1)) ∧ (decode cX8_init 80 = .ok (.if_icmp .ge 17, 3)) ∧ (decode cX8_init 83 = .ok (.aload_n 0, 1)) ∧ (decode cX8_init 84 = .ok (.getfield 26, 3)) ∧ (decode cX8_init 87 = .ok (.iload_n 1, 1)) ∧ (decode cX8_init 88 = .ok (.bipush (-4), 2)) ∧ (decode cX8_init 90 = .ok (.iastore, 1)) := by decide +kernel
theorem dX8_init_63 : decode cX8_init 63 = .ok (.newarray .int, 2) := dg_c34.1
theorem dX8_init_65 : decode cX8_init 65 = .ok (.putfield 32, 3) := dg_c34.2.1
theorem dX8_init_68 : decode cX8_init 68 = .ok (.aload_n 0, 1) := dg_c34.2.2.1
theorem dX8_init_69 : decode cX8_init 69 = .ok (.bipush 54, 2) := dg_c34.2.2.2.1
theorem dX8_init_71 : decode cX8_init 71 = .ok (.newarray .int, 2) := dg_c34.2.2.2.2.1
theorem dX8_init_73 : decode cX8_init 73 = .ok (.putfield 35, 3) := dg_c34.2.2.2.2.2.1
theorem dX8_init_76 : decode cX8_init 76 = .ok (.iconst 0, 1) := dg_c34.2.2.2.2.2.2.1
theorem dX8_init_77 : decode cX8_init 77 = .ok (.istore_n 1, 1) := dg_c34.2.2.2.2.2.2.2.1
theorem dX8_init_78 : decode cX8_init 78 = .ok (.iload_n 1, 1) := dg_c34.2.2.2.2.2.2.2.2.1
theorem dX8_init_79 : decode cX8_init 79 = .ok (.iconst 4, 1) := dg_c34.2.2.2.2.2.2.2.2.2.1
theorem dX8_init_80 : decode cX8_init 80 = .ok (.if_icmp .ge 17, 3) := dg_c34.2.2.2.2.2.2.2.2.2.2.1
theorem dX8_init_83 : decode cX8_init 83 = .ok (.aload_n 0, 1) := dg_c34.2.2.2.2.2.2.2.2.2.2.2.1
theorem dX8_init_84 : decode cX8_init 84 = .ok (.getfield 26, 3) := dg_c34.2.2.2.2.2.2.2.2.2.2.2.2.1
theorem dX8_init_87 : decode cX8_init 87 = .ok (.iload_n 1, 1) := dg_c34.2.2.2.2.2.2.2.2.2.2.2.2.2.1
theorem dX8_init_88 : decode cX8_init 88 = .ok (.bipush (-4), 2) := dg_c34.2.2.2.2.2.2.2.2.2.2.2.2.2.2.1
theorem dX8_init_90 : decode cX8_init 90 = .ok (.iastore, 1) := dg_c34.2.2.2.2.2.2.2.2.2.2.2.2.2.2.2
theorem dg_c35 : (decode cX8_init 91 = .ok (.iinc 1 1, 3)) ∧ (decode cX8_init 94 = .ok (.goto (-16), 3)) ∧ (decode cX8_init 97 = .ok (.aload_n 0, 1)) ∧ (decode cX8_init 98 = .ok (.invokevirtual 38, 3)) ∧ (decode cX8_init 101 = .ok (.aload_n 0, 1)) ∧ (decode cX8_init 102 = .ok (.invokevirtual 41, 3)) ∧ (decode cX8_init 105 = .ok (.return_, 1)) := by decide +kernel
theorem dX8_init_91 : decode cX8_init 91 = .ok (.iinc 1 1, 3) := dg_c35.1
theorem dX8_init_94 : decode cX8_init 94 = .ok (.goto (-16), 3) := dg_c35.2.1
theorem dX8_init_97 : decode cX8_init 97 = .ok (.aload_n 0, 1) := dg_c35.2.2.1
theorem dX8_init_98 : decode cX8_init 98 = .ok (.invokevirtual 38, 3) := dg_c35.2.2.2.1
theorem dX8_init_101 : decode cX8_init 101 = .ok (.aload_n 0, 1) := dg_c35.2.2.2.2.1
theorem dX8_init_102 : decode cX8_init 102 = .ok (.invokevirtual 41, 3) := dg_c35.2.2.2.2.2.1
theorem dX8_init_105 : decode cX8_init 105 = .ok (.return_, 1) := dg_c35.2.2.2.2.2.2
theorem dg_c36 : (decode cX8_in 0 = .ok (.lload_n 0, 1)) ∧ (decode cX8_in 1 = .ok (.lload_n 2, 1)) ∧ (decode cX8_in 2 = .ok (.lcmp, 1)) ∧ (decode cX8_in 3 = .ok (.ifCond .lt 14, 3)) ∧ (decode cX8_in 6 = .ok (.lload_n 0, 1)) ∧ (decode cX8_in 7 = .ok (.lload 4, 2)) ∧ (decode cX8_in 9 = .ok (.lcmp, 1)) ∧ (decode cX8_in 10 = .ok (.ifCond .gt 7, 3)) ∧ (decode cX8_in 13 = .ok (.iconst 1, 1)) ∧ (decode cX8_in 14 = .ok (.goto 4, 3)) ∧ (decode cX8_in 17 = .ok (.iconst 0, 1)) ∧ (decode cX8_in 18 = .ok (.ireturn, 1)) := by decide +kernel
theorem dX8_in_0 : decode cX8_in 0 = .ok (.lload_n 0, 1) := dg_c36.1
theorem dX8_in_1 : decode cX8_in 1 = .ok (.lload_n 2, 1) := dg_c36.2.1
theorem dX8_in_2 : decode cX8_in 2 = .ok (.lcmp, 1) := dg_c36.2.2.1
theorem dX8_in_3 : decode cX8_in 3 = .ok (.ifCond .lt 14, 3) := dg_c36.2.2.2.1
theorem dX8_in_6 : decode cX8_in 6 = .ok (.lload_n 0, 1) := dg_c36.2.2.2.2.1
theorem dX8_in_7 : decode cX8_in 7 = .ok (.lload 4, 2) := dg_c36.2.2.2.2.2.1
theorem dX8_in_9 : decode cX8_in 9 = .ok (.lcmp, 1) := dg_c36.2.2.2.2.2.2.1
theorem dX8_in_10 : decode cX8_in 10 = .ok (.ifCond .gt 7, 3) := dg_c36.2.2.2.2.2.2.2.1
theorem dX8_in_13 : decode cX8_in 13 = .ok (.iconst 1, 1) := dg_c36.2.2.2.2.2.2.2.2.1
theorem dX8_in_14 : decode cX8_in 14 = .ok (.goto 4, 3) := dg_c36.2.2.2.2.2.2.2.2.2.1
theorem dX8_in_17 : decode cX8_in 17 = .ok (.iconst 0, 1) := dg_c36.2.2.2.2.2.2.2.2.2.2.1
theorem dX8_in_18 : decode cX8_in 18 = .ok (.ireturn, 1) := dg_c36.2.2.2.2.2.2.2.2.2.2.2
theorem dg_c37 : (decode cX8_flag 0 = .ok (.iload_n 0, 1)) ∧ (decode cX8_flag 1 = .ok (.ifCond .eq 7, 3)) ∧ (decode cX8_flag 4 = .ok (.iconst 1, 1)) ∧ (decode cX8_flag 5 = .ok (.goto 4, 3)) ∧ (decode cX8_flag 8 = .ok (.iconst 0, 1)) ∧ (decode cX8_flag 9 = .ok (.ireturn, 1)) := by decide +kernel
theorem dX8_flag_0 : decode cX8_flag 0 = .ok (.iload_n 0, 1) := dg_c37.1
theorem dX8_flag_1 : decode cX8_flag 1 = .ok (.ifCond .eq 7, 3) := dg_c37.2.1
theorem dX8_flag_4 : decode cX8_flag 4 = .ok (.iconst 1, 1) := dg_c37.2.2.1
theorem dX8_flag_5 : decode cX8_flag 5 = .ok (.goto 4, 3) := dg_c37.2.2.2.1
theorem dX8_flag_8 : decode cX8_flag 8 = .ok (.iconst 0, 1) := dg_c37.2.2.2.2.1
theorem dX8_flag_9 : decode cX8_flag 9 = .ok (.ireturn, 1) := dg_c37.2.2.2.2.2
theorem dg_c38 : (decode cX8_firstDraft 0 = .ok (.iconst 0, 1)) ∧ (decode cX8_firstDraft 1 = .ok (.istore_n 1, 1)) ∧ (decode cX8_firstDraft 2 = .ok (.iload_n 1, 1)) ∧ (decode cX8_firstDraft 3 = .ok (.bipush 54, 2)) ∧ (decode cX8_firstDraft 5 = .ok (.if_icmp .ge 16, 3)) ∧ (decode cX8_firstDraft 8 = .ok (.aload_n 0, 1)) ∧ (decode cX8_firstDraft 9 = .ok (.getfield 20, 3)) ∧ (decode cX8_firstDraft 12 = .ok (.iload_n 1, 1)) ∧ (decode cX8_firstDraft 13 = .ok (.iconst 0, 1)) ∧ (decode cX8_firstDraft 14 = .ok (.iastore, 1)) ∧ (decode cX8_firstDraft 15 = .ok (.iinc 1 1, 3)) ∧ (decode cX8_firstDraft 18 = .ok (.goto (-16), 3)) ∧ (decode cX8_firstDraft 21 = .ok (.aload_n 0, 1)) ∧ (decode cX8_firstDraft 22 = .ok (.getfield 20, 3)) ∧ (decode cX8_firstDraft 25 = .ok (.bipush 24, 2)) ∧ (decode cX8_firstDraft 27 = .ok (.bipush 20, 2)) := by decide +kernel
theorem dX8_firstDraft_0 : decode cX8_firstDraft 0 = .ok (.iconst 0, 1) := dg_c38.1
theorem dX8_firstDraft_1 : decode cX8_firstDraft 1 = .ok (.istore_n 1, 1) := dg_c38.2.1
theorem dX8_firstDraft_2 : decode cX8_firstDraft 2 = .ok (.iload_n 1, 1) := dg_c38.2.2.1
theorem dX8_firstDraft_3 : decode cX8_firstDraft 3 = .ok (.bipush 54, 2) := dg_c38.2.2.2.1
theorem dX8_firstDraft_5 : decode cX8_firstDraft 5 = .ok (.if_icmp .ge 16, 3) := dg_c38.2.2.2.2.1
theorem dX8_firstDraft_8 : decode cX8_firstDraft 8 = .ok (.aload_n 0, 1) := dg_c38.2.2.2.2.2.1
theorem dX8_firstDraft_9 : decode cX8_firstDraft 9 = .ok (.getfield 20, 3) := dg_c38.2.2.2.2.2.2.1
theorem dX8_firstDraft_12 : decode cX8_firstDraft 12 = .ok (.iload_n 1, 1) := dg_c38.2.2.2.2.2.2.2.1
theorem dX8_firstDraft_13 : decode cX8_firstDraft 13 = .ok (.iconst 0, 1) := dg_c38.2.2.2.2.2.2.2.2.1
theorem dX8_firstDraft_14 : decode cX8_firstDraft 14 = .ok (.iastore, 1) := dg_c38.2.2.2.2.2.2.2.2.2.1
theorem dX8_firstDraft_15 : decode cX8_firstDraft 15 = .ok (.iinc 1 1, 3) := dg_c38.2.2.2.2.2.2.2.2.2.2.1
theorem dX8_firstDraft_18 : decode cX8_firstDraft 18 = .ok (.goto (-16), 3) := dg_c38.2.2.2.2.2.2.2.2.2.2.2.1
theorem dX8_firstDraft_21 : decode cX8_firstDraft 21 = .ok (.aload_n 0, 1) := dg_c38.2.2.2.2.2.2.2.2.2.2.2.2.1
theorem dX8_firstDraft_22 : decode cX8_firstDraft 22 = .ok (.getfield 20, 3) := dg_c38.2.2.2.2.2.2.2.2.2.2.2.2.2.1
theorem dX8_firstDraft_25 : decode cX8_firstDraft 25 = .ok (.bipush 24, 2) := dg_c38.2.2.2.2.2.2.2.2.2.2.2.2.2.2.1
theorem dX8_firstDraft_27 : decode cX8_firstDraft 27 = .ok (.bipush 20, 2) := dg_c38.2.2.2.2.2.2.2.2.2.2.2.2.2.2.2
theorem dg_c39 : (decode cX8_firstDraft 29 = .ok (.iastore, 1)) ∧ (decode cX8_firstDraft 30 = .ok (.aload_n 0, 1)) ∧ (decode cX8_firstDraft 31 = .ok (.getfield 20, 3)) ∧ (decode cX8_firstDraft 34 = .ok (.bipush 25, 2)) ∧ (decode cX8_firstDraft 36 = .ok (.iconst 2, 1)) ∧ (decode cX8_firstDraft 37 = .ok (.iastore, 1)) ∧ (decode cX8_firstDraft 38 = .ok (.aload_n 0, 1)) ∧ (decode cX8_firstDraft 39 = .ok (.getfield 20, 3)) ∧ (decode cX8_firstDraft 42 = .ok (.bipush 26, 2)) ∧ (decode cX8_firstDraft 44 = .ok (.iconst 3, 1)) ∧ (decode cX8_firstDraft 45 = .ok (.iastore, 1)) ∧ (decode cX8_firstDraft 46 = .ok (.aload_n 0, 1)) ∧ (decode cX8_firstDraft 47 = .ok (.getfield 20, 3)) ∧ (decode cX8_firstDraft 50 = .ok (.bipush 27, 2)) ∧ (decode cX8_firstDraft 52 = .ok (.bipush 20, 2)) ∧ (decode cX8_firstDraft 54 = .ok (.iastore, 1)) := by decide +kernel
theorem dX8_firstDraft_29 : decode cX8_firstDraft 29 = .ok (.iastore, 1) := dg_c39.1
theorem dX8_firstDraft_30 : decode cX8_firstDraft 30 = .ok (.aload_n 0, 1) := dg_c39.2.1
theorem dX8_firstDraft_31 : decode cX8_firstDraft 31 = .ok (.getfield 20, 3) := dg_c39.2.2.1
theorem dX8_firstDraft_34 : decode cX8_firstDraft 34 = .ok (.bipush 25, 2) := dg_c39.2.2.2.1
theorem dX8_firstDraft_36 : decode cX8_firstDraft 36 = .ok (.iconst 2, 1) := dg_c39.2.2.2.2.1
theorem dX8_firstDraft_37 : decode cX8_firstDraft 37 = .ok (.iastore, 1) := dg_c39.2.2.2.2.2.1
theorem dX8_firstDraft_38 : decode cX8_firstDraft 38 = .ok (.aload_n 0, 1) := dg_c39.2.2.2.2.2.2.1
theorem dX8_firstDraft_39 : decode cX8_firstDraft 39 = .ok (.getfield 20, 3) := dg_c39.2.2.2.2.2.2.2.1
theorem dX8_firstDraft_42 : decode cX8_firstDraft 42 = .ok (.bipush 26, 2) := dg_c39.2.2.2.2.2.2.2.2.1
theorem dX8_firstDraft_44 : decode cX8_firstDraft 44 = .ok (.iconst 3, 1) := dg_c39.2.2.2.2.2.2.2.2.2.1
theorem dX8_firstDraft_45 : decode cX8_firstDraft 45 = .ok (.iastore, 1) := dg_c39.2.2.2.2.2.2.2.2.2.2.1
theorem dX8_firstDraft_46 : decode cX8_firstDraft 46 = .ok (.aload_n 0, 1) := dg_c39.2.2.2.2.2.2.2.2.2.2.2.1
theorem dX8_firstDraft_47 : decode cX8_firstDraft 47 = .ok (.getfield 20, 3) := dg_c39.2.2.2.2.2.2.2.2.2.2.2.2.1
theorem dX8_firstDraft_50 : decode cX8_firstDraft 50 = .ok (.bipush 27, 2) := dg_c39.2.2.2.2.2.2.2.2.2.2.2.2.2.1
theorem dX8_firstDraft_52 : decode cX8_firstDraft 52 = .ok (.bipush 20, 2) := dg_c39.2.2.2.2.2.2.2.2.2.2.2.2.2.2.1
theorem dX8_firstDraft_54 : decode cX8_firstDraft 54 = .ok (.iastore, 1) := dg_c39.2.2.2.2.2.2.2.2.2.2.2.2.2.2.2
theorem dg_c40 : (decode cX8_firstDraft 55 = .ok (.aload_n 0, 1)) ∧ (decode cX8_firstDraft 56 = .ok (.iconst 0, 1)) ∧ (decode cX8_firstDraft 57 = .ok (.putfield 44, 3)) ∧ (decode cX8_firstDraft 60 = .ok (.aload_n 0, 1)) ∧ (decode cX8_firstDraft 61 = .ok (.iconst 0, 1)) ∧ (decode cX8_firstDraft 62 = .ok (.putfield 48, 3)) ∧ (decode cX8_firstDraft 65 = .ok (.aload_n 0, 1)) ∧ (decode cX8_firstDraft 66 = .ok (.iconst 0, 1)) ∧ (decode cX8_firstDraft 67 = .ok (.putfield 51, 3)) ∧ (decode cX8_firstDraft 70 = .ok (.aload_n 0, 1)) ∧ (decode cX8_firstDraft 71 = .ok (.iconst 0, 1)) ∧ (decode cX8_firstDraft 72 = .ok (.putfield 54, 3)) ∧ (decode cX8_firstDraft 75 = .ok (.aload_n 0, 1)) ∧ (decode cX8_firstDraft 76 = .ok (.bipush (-4), 2)) ∧ (decode cX8_firstDraft 78 = .ok (.putfield 57, 3)) ∧ (decode cX8_firstDraft 81 = .ok (.return_, 1)) := by decide +kernel
theorem dX8_firstDraft_55 : decode cX8_firstDraft 55 = .ok (.aload_n 0, 1) := dg_c40.1
theorem dX8_firstDraft_56 : decode cX8_firstDraft 56 = .ok (.iconst 0, 1) := dg_c40.2.1
theorem dX8_firstDraft_57 : decode cX8_firstDraft 57 = .ok (.putfield 44, 3) := dg_c40.2.2.1
theorem dX8_firstDraft_60 : decode cX8_firstDraft 60 = .ok (.aload_n 0, 1) := dg_c40.2.2.2.1
theorem dX8_firstDraft_61 : decode cX8_firstDraft 61 = .ok (.iconst 0, 1) := dg_c40.2.2.2.2.1
theorem dX8_firstDraft_62 : decode cX8_firstDraft 62 = .ok (.putfield 48, 3) := dg_c40.2.2.2.2.2.1
theorem dX8_firstDraft_65 : decode cX8_firstDraft 65 = .ok (.aload_n 0, 1) := dg_c40.2.2.2.2.2.2.1
theorem dX8_firstDraft_66 : decode cX8_firstDraft 66 = .ok (.iconst 0, 1) := dg_c40.2.2.2.2.2.2.2.1
theorem dX8_firstDraft_67 : decode cX8_firstDraft 67 = .ok (.putfield 51, 3) := dg_c40.2.2.2.2.2.2.2.2.1
theorem dX8_firstDraft_70 : decode cX8_firstDraft 70 = .ok (.aload_n 0, 1) := dg_c40.2.2.2.2.2.2.2.2.2.1
theorem dX8_firstDraft_71 : decode cX8_firstDraft 71 = .ok (.iconst 0, 1) := dg_c40.2.2.2.2.2.2.2.2.2.2.1
theorem dX8_firstDraft_72 : decode cX8_firstDraft 72 = .ok (.putfield 54, 3) := dg_c40.2.2.2.2.2.2.2.2.2.2.2.1
theorem dX8_firstDraft_75 : decode cX8_firstDraft 75 = .ok (.aload_n 0, 1) := dg_c40.2.2.2.2.2.2.2.2.2.2.2.2.1
theorem dX8_firstDraft_76 : decode cX8_firstDraft 76 = .ok (.bipush (-4), 2) := dg_c40.2.2.2.2.2.2.2.2.2.2.2.2.2.1
theorem dX8_firstDraft_78 : decode cX8_firstDraft 78 = .ok (.putfield 57, 3) := dg_c40.2.2.2.2.2.2.2.2.2.2.2.2.2.2.1
theorem dX8_firstDraft_81 : decode cX8_firstDraft 81 = .ok (.return_, 1) := dg_c40.2.2.2.2.2.2.2.2.2.2.2.2.2.2.2
theorem dg_c41 : (decode cX8_keepDraft 0 = .ok (.iconst 0, 1)) ∧ (decode cX8_keepDraft 1 = .ok (.istore_n 1, 1)) ∧ (decode cX8_keepDraft 2 = .ok (.iload_n 1, 1)) ∧ (decode cX8_keepDraft 3 = .ok (.bipush 54, 2)) ∧ (decode cX8_keepDraft 5 = .ok (.if_icmp .ge 21, 3)) ∧ (decode cX8_keepDraft 8 = .ok (.aload_n 0, 1)) ∧ (decode cX8_keepDraft 9 = .ok (.getfield 7, 3)) ∧ (decode cX8_keepDraft 12 = .ok (.iload_n 1, 1)) ∧ (decode cX8_keepDraft 13 = .ok (.aload_n 0, 1)) ∧ (decode cX8_keepDraft 14 = .ok (.getfield 20, 3)) ∧ (decode cX8_keepDraft 17 = .ok (.iload_n 1, 1)) ∧ (decode cX8_keepDraft 18 = .ok (.iaload, 1)) ∧ (decode cX8_keepDraft 19 = .ok (.iastore, 1)) ∧ (decode cX8_keepDraft 20 = .ok (.iinc 1 1, 3)) ∧ (decode cX8_keepDraft 23 = .ok (.goto (-21), 3)) ∧ (decode cX8_keepDraft 26 = .ok (.aload_n 0, 1)) := by decide +kernel
theorem dX8_keepDraft_0 : decode cX8_keepDraft 0 = .ok (.iconst 0, 1) := dg_c41.1
theorem dX8_keepDraft_1 : decode cX8_keepDraft 1 = .ok (.istore_n 1, 1) := dg_c41.2.1
theorem dX8_keepDraft_2 : decode cX8_keepDraft 2 = .ok (.iload_n 1, 1) := dg_c41.2.2.1
theorem dX8_keepDraft_3 : decode cX8_keepDraft 3 = .ok (.bipush 54, 2) := dg_c41.2.2.2.1
theorem dX8_keepDraft_5 : decode cX8_keepDraft 5 = .ok (.if_icmp .ge 21, 3) := dg_c41.2.2.2.2.1
theorem dX8_keepDraft_8 : decode cX8_keepDraft 8 = .ok (.aload_n 0, 1) := dg_c41.2.2.2.2.2.1
theorem dX8_keepDraft_9 : decode cX8_keepDraft 9 = .ok (.getfield 7, 3) := dg_c41.2.2.2.2.2.2.1
theorem dX8_keepDraft_12 : decode cX8_keepDraft 12 = .ok (.iload_n 1, 1) := dg_c41.2.2.2.2.2.2.2.1
theorem dX8_keepDraft_13 : decode cX8_keepDraft 13 = .ok (.aload_n 0, 1) := dg_c41.2.2.2.2.2.2.2.2.1
theorem dX8_keepDraft_14 : decode cX8_keepDraft 14 = .ok (.getfield 20, 3) := dg_c41.2.2.2.2.2.2.2.2.2.1
theorem dX8_keepDraft_17 : decode cX8_keepDraft 17 = .ok (.iload_n 1, 1) := dg_c41.2.2.2.2.2.2.2.2.2.2.1
theorem dX8_keepDraft_18 : decode cX8_keepDraft 18 = .ok (.iaload, 1) := dg_c41.2.2.2.2.2.2.2.2.2.2.2.1
theorem dX8_keepDraft_19 : decode cX8_keepDraft 19 = .ok (.iastore, 1) := dg_c41.2.2.2.2.2.2.2.2.2.2.2.2.1
theorem dX8_keepDraft_20 : decode cX8_keepDraft 20 = .ok (.iinc 1 1, 3) := dg_c41.2.2.2.2.2.2.2.2.2.2.2.2.2.1
theorem dX8_keepDraft_23 : decode cX8_keepDraft 23 = .ok (.goto (-21), 3) := dg_c41.2.2.2.2.2.2.2.2.2.2.2.2.2.2.1
theorem dX8_keepDraft_26 : decode cX8_keepDraft 26 = .ok (.aload_n 0, 1) := dg_c41.2.2.2.2.2.2.2.2.2.2.2.2.2.2.2
theorem dg_c42 : (decode cX8_keepDraft 27 = .ok (.aload_n 0, 1)) ∧ (decode cX8_keepDraft 28 = .ok (.getfield 44, 3)) ∧ (decode cX8_keepDraft 31 = .ok (.putfield 60, 3)) ∧ (decode cX8_keepDraft 34 = .ok (.aload_n 0, 1)) ∧ (decode cX8_keepDraft 35 = .ok (.aload_n 0, 1)) ∧ (decode cX8_keepDraft 36 = .ok (.getfield 48, 3)) ∧ (decode cX8_keepDraft 39 = .ok (.putfield 63, 3)) ∧ (decode cX8_keepDraft 42 = .ok (.iconst 0, 1)) ∧ (decode cX8_keepDraft 43 = .ok (.istore_n 1, 1)) ∧ (decode cX8_keepDraft 44 = .ok (.iload_n 1, 1)) ∧ (decode cX8_keepDraft 45 = .ok (.aload_n 0, 1)) ∧ (decode cX8_keepDraft 46 = .ok (.getfield 60, 3)) ∧ (decode cX8_keepDraft 49 = .ok (.if_icmp .ge 27, 3)) ∧ (decode cX8_keepDraft 52 = .ok (.aload_n 0, 1)) ∧ (decode cX8_keepDraft 53 = .ok (.getfield 7, 3)) ∧ (decode cX8_keepDraft 56 = .ok (.iconst 4, 1)) := by decide +kernel
theorem dX8_keepDraft_27 : decode cX8_keepDraft 27 = .ok (.aload_n 0, 1) := dg_c42.1
theorem dX8_keepDraft_28 : decode cX8_keepDraft 28 = .ok (.getfield 44, 3) := dg_c42.2.1
theorem dX8_keepDraft_31 : decode cX8_keepDraft 31 = .ok (.putfield 60, 3) := dg_c42.2.2.1
theorem dX8_keepDraft_34 : decode cX8_keepDraft 34 = .ok (.aload_n 0, 1) := dg_c42.2.2.2.1
theorem dX8_keepDraft_35 : decode cX8_keepDraft 35 = .ok (.aload_n 0, 1) := dg_c42.2.2.2.2.1
theorem dX8_keepDraft_36 : decode cX8_keepDraft 36 = .ok (.getfield 48, 3) := dg_c42.2.2.2.2.2.1
theorem dX8_keepDraft_39 : decode cX8_keepDraft 39 = .ok (.putfield 63, 3) := dg_c42.2.2.2.2.2.2.1
theorem dX8_keepDraft_42 : decode cX8_keepDraft 42 = .ok (.iconst 0, 1) := dg_c42.2.2.2.2.2.2.2.1
theorem dX8_keepDraft_43 : decode cX8_keepDraft 43 = .ok (.istore_n 1, 1) := dg_c42.2.2.2.2.2.2.2.2.1
theorem dX8_keepDraft_44 : decode cX8_keepDraft 44 = .ok (.iload_n 1, 1) := dg_c42.2.2.2.2.2.2.2.2.2.1
theorem dX8_keepDraft_45 : decode cX8_keepDraft 45 = .ok (.aload_n 0, 1) := dg_c42.2.2.2.2.2.2.2.2.2.2.1
theorem dX8_keepDraft_46 : decode cX8_keepDraft 46 = .ok (.getfield 60, 3) := dg_c42.2.2.2.2.2.2.2.2.2.2.2.1
theorem dX8_keepDraft_49 : decode cX8_keepDraft 49 = .ok (.if_icmp .ge 27, 3) := dg_c42.2.2.2.2.2.2.2.2.2.2.2.2.1
theorem dX8_keepDraft_52 : decode cX8_keepDraft 52 = .ok (.aload_n 0, 1) := dg_c42.2.2.2.2.2.2.2.2.2.2.2.2.2.1
theorem dX8_keepDraft_53 : decode cX8_keepDraft 53 = .ok (.getfield 7, 3) := dg_c42.2.2.2.2.2.2.2.2.2.2.2.2.2.2.1
theorem dX8_keepDraft_56 : decode cX8_keepDraft 56 = .ok (.iconst 4, 1) := dg_c42.2.2.2.2.2.2.2.2.2.2.2.2.2.2.2
theorem dg_c43 : (decode cX8_keepDraft 57 = .ok (.iload_n 1, 1)) ∧ (decode cX8_keepDraft 58 = .ok (.imul, 1)) ∧ (decode cX8_keepDraft 59 = .ok (.iconst 3, 1)) ∧ (decode cX8_keepDraft 60 = .ok (.iadd, 1)) ∧ (decode cX8_keepDraft 61 = .ok (.aload_n 0, 1)) ∧ (decode cX8_keepDraft 62 = .ok (.getfield 51, 3)) ∧ (decode cX8_keepDraft 65 = .ok (.iload_n 1, 1)) ∧ (decode cX8_keepDraft 66 = .ok (.ishr, 1)) ∧ (decode cX8_keepDraft 67 = .ok (.iconst 1, 1)) ∧ (decode cX8_keepDraft 68 = .ok (.iand, 1)) ∧ (decode cX8_keepDraft 69 = .ok (.iastore, 1)) ∧ (decode cX8_keepDraft 70 = .ok (.iinc 1 1, 3)) ∧ (decode cX8_keepDraft 73 = .ok (.goto (-29), 3)) ∧ (decode cX8_keepDraft 76 = .ok (.aload_n 0, 1)) ∧ (decode cX8_keepDraft 77 = .ok (.getfield 16, 3)) ∧ (decode cX8_keepDraft 80 = .ok (.iconst 0, 1)) := by decide +kernel
theorem dX8_keepDraft_57 : decode cX8_keepDraft 57 = .ok (.iload_n 1, 1) := dg_c43.1
theorem dX8_keepDraft_58 : decode cX8_keepDraft 58 = .ok (.imul, 1) := dg_c43.2.1
theorem dX8_keepDraft_59 : decode cX8_keepDraft 59 = .ok (.iconst 3, 1) := dg_c43.2.2.1
theorem dX8_keepDraft_60 : decode cX8_keepDraft 60 = .ok (.iadd, 1) := dg_c43.2.2.2.1
theorem dX8_keepDraft_61 : decode cX8_keepDraft 61 = .ok (.aload_n 0, 1) := dg_c43.2.2.2.2.1
theorem dX8_keepDraft_62 : decode cX8_keepDraft 62 = .ok (.getfield 51, 3) := dg_c43.2.2.2.2.2.1
theorem dX8_keepDraft_65 : decode cX8_keepDraft 65 = .ok (.iload_n 1, 1) := dg_c43.2.2.2.2.2.2.1
theorem dX8_keepDraft_66 : decode cX8_keepDraft 66 = .ok (.ishr, 1) := dg_c43.2.2.2.2.2.2.2.1
theorem dX8_keepDraft_67 : decode cX8_keepDraft 67 = .ok (.iconst 1, 1) := dg_c43.2.2.2.2.2.2.2.2.1
theorem dX8_keepDraft_68 : decode cX8_keepDraft 68 = .ok (.iand, 1) := dg_c43.2.2.2.2.2.2.2.2.2.1
theorem dX8_keepDraft_69 : decode cX8_keepDraft 69 = .ok (.iastore, 1) := dg_c43.2.2.2.2.2.2.2.2.2.2.1
theorem dX8_keepDraft_70 : decode cX8_keepDraft 70 = .ok (.iinc 1 1, 3) := dg_c43.2.2.2.2.2.2.2.2.2.2.2.1
theorem dX8_keepDraft_73 : decode cX8_keepDraft 73 = .ok (.goto (-29), 3) := dg_c43.2.2.2.2.2.2.2.2.2.2.2.2.1
theorem dX8_keepDraft_76 : decode cX8_keepDraft 76 = .ok (.aload_n 0, 1) := dg_c43.2.2.2.2.2.2.2.2.2.2.2.2.2.1
theorem dX8_keepDraft_77 : decode cX8_keepDraft 77 = .ok (.getfield 16, 3) := dg_c43.2.2.2.2.2.2.2.2.2.2.2.2.2.2.1
theorem dX8_keepDraft_80 : decode cX8_keepDraft 80 = .ok (.iconst 0, 1) := dg_c43.2.2.2.2.2.2.2.2.2.2.2.2.2.2.2
theorem dg_c44 : (decode cX8_keepDraft 81 = .ok (.iconst 0, 1)) ∧ (decode cX8_keepDraft 82 = .ok (.bastore, 1)) ∧ (decode cX8_keepDraft 83 = .ok (.aload_n 0, 1)) ∧ (decode cX8_keepDraft 84 = .ok (.getfield 16, 3)) ∧ (decode cX8_keepDraft 87 = .ok (.iconst 1, 1)) ∧ (decode cX8_keepDraft 88 = .ok (.iconst 0, 1)) ∧ (decode cX8_keepDraft 89 = .ok (.bastore, 1)) ∧ (decode cX8_keepDraft 90 = .ok (.return_, 1)) := by decide +kernel
theorem dX8_keepDraft_81 : decode cX8_keepDraft 81 = .ok (.iconst 0, 1) := dg_c44.1
theorem dX8_keepDraft_82 : decode cX8_keepDraft 82 = .ok (.bastore, 1) := dg_c44.2.1
theorem dX8_keepDraft_83 : decode cX8_keepDraft 83 = .ok (.aload_n 0, 1) := dg_c44.2.2.1
theorem dX8_keepDraft_84 : decode cX8_keepDraft 84 = .ok (.getfield 16, 3) := dg_c44.2.2.2.1
theorem dX8_keepDraft_87 : decode cX8_keepDraft 87 = .ok (.iconst 1, 1) := dg_c44.2.2.2.2.1
theorem dX8_keepDraft_88 : decode cX8_keepDraft 88 = .ok (.iconst 0, 1) := dg_c44.2.2.2.2.2.1
theorem dX8_keepDraft_89 : decode cX8_keepDraft 89 = .ok (.bastore, 1) := dg_c44.2.2.2.2.2.2.1
theorem dX8_keepDraft_90 : decode cX8_keepDraft 90 = .ok (.return_, 1) := dg_c44.2.2.2.2.2.2.2
theorem dg_c45 : (decode cX8_feed 0 = .ok (.iload_n 1, 1)) ∧ (decode cX8_feed 1 = .ok (.i2l, 1)) ∧ (decode cX8_feed 2 = .ok (.lconst 0, 1)) ∧ (decode cX8_feed 3 = .ok (.ldc2_w 66, 3)) ∧ (decode cX8_feed 6 = .ok (.invokestatic 68, 3)) ∧ (decode cX8_feed 9 = .ok (.ifCond .ne 5, 3)) ∧ (decode cX8_feed 12 = .ok (.iconst (-1), 1)) ∧ (decode cX8_feed 13 = .ok (.ireturn, 1)) ∧ (decode cX8_feed 14 = .ok (.aload_n 0, 1)) ∧ (decode cX8_feed 15 = .ok (.getfield 72, 3)) ∧ (decode cX8_feed 18 = .ok (.sipush 160, 3)) ∧ (decode cX8_feed 21 = .ok (.if_icmp .ne 6, 3)) ∧ (decode cX8_feed 24 = .ok (.bipush (-3), 2)) ∧ (decode cX8_feed 26 = .ok (.ireturn, 1)) ∧ (decode cX8_feed 27 = .ok (.aload_n 0, 1)) ∧ (decode cX8_feed 28 = .ok (.getfield 23, 3)) := by decide +kernel
theorem dX8_feed_0 : decode cX8_feed 0 = .ok (.iload_n 1, 1) := dg_c45.1
theorem dX8_feed_1 : decode cX8_feed 1 = .ok (.i2l, 1) := dg_c45.2.1
theorem dX8_feed_2 : decode cX8_feed 2 = .ok (.lconst 0, 1) := dg_c45.2.2.1
theorem dX8_feed_3 : decode cX8_feed 3 = .ok (.ldc2_w 66, 3) := dg_c45.2.2.2.1
theorem dX8_feed_6 : decode cX8_feed 6 = .ok (.invokestatic 68, 3) := dg_c45.2.2.2.2.1
theorem dX8_feed_9 : decode cX8_feed 9 = .ok (.ifCond .ne 5, 3) := dg_c45.2.2.2.2.2.1
theorem dX8_feed_12 : decode cX8_feed 12 = .ok (.iconst (-1), 1) := dg_c45.2.2.2.2.2.2.1
theorem dX8_feed_13 : decode cX8_feed 13 = .ok (.ireturn, 1) := dg_c45.2.2.2.2.2.2.2.1
theorem dX8_feed_14 : decode cX8_feed 14 = .ok (.aload_n 0, 1) := dg_c45.2.2.2.2.2.2.2.2.1
theorem dX8_feed_15 : decode cX8_feed 15 = .ok (.getfield 72, 3) := dg_c45.2.2.2.2.2.2.2.2.2.1
theorem dX8_feed_18 : decode cX8_feed 18 = .ok (.sipush 160, 3) := dg_c45.2.2.2.2.2.2.2.2.2.2.1
theorem dX8_feed_21 : decode cX8_feed 21 = .ok (.if_icmp .ne 6, 3) := dg_c45.2.2.2.2.2.2.2.2.2.2.2.1
theorem dX8_feed_24 : decode cX8_feed 24 = .ok (.bipush (-3), 2) := dg_c45.2.2.2.2.2.2.2.2.2.2.2.2.1
theorem dX8_feed_26 : decode cX8_feed 26 = .ok (.ireturn, 1) := dg_c45.2.2.2.2.2.2.2.2.2.2.2.2.2.1
theorem dX8_feed_27 : decode cX8_feed 27 = .ok (.aload_n 0, 1) := dg_c45.2.2.2.2.2.2.2.2.2.2.2.2.2.2.1
theorem dX8_feed_28 : decode cX8_feed 28 = .ok (.getfield 23, 3) := dg_c45.2.2.2.2.2.2.2.2.2.2.2.2.2.2.2
theorem dg_c46 : (decode cX8_feed 31 = .ok (.aload_n 0, 1)) ∧ (decode cX8_feed 32 = .ok (.getfield 72, 3)) ∧ (decode cX8_feed 35 = .ok (.iload_n 1, 1)) ∧ (decode cX8_feed 36 = .ok (.iastore, 1)) ∧ (decode cX8_feed 37 = .ok (.aload_n 0, 1)) ∧ (decode cX8_feed 38 = .ok (.dup, 1)) ∧ (decode cX8_feed 39 = .ok (.getfield 72, 3)) ∧ (decode cX8_feed 42 = .ok (.iconst 1, 1)) ∧ (decode cX8_feed 43 = .ok (.iadd, 1)) ∧ (decode cX8_feed 44 = .ok (.putfield 72, 3)) ∧ (decode cX8_feed 47 = .ok (.aload_n 0, 1)) ∧ (decode cX8_feed 48 = .ok (.getfield 72, 3)) ∧ (decode cX8_feed 51 = .ok (.ireturn, 1)) := by decide +kernel
theorem dX8_feed_31 : decode cX8_feed 31 = .ok (.aload_n 0, 1) := dg_c46.1
theorem dX8_feed_32 : decode cX8_feed 32 = .ok (.getfield 72, 3) := dg_c46.2.1
theorem dX8_feed_35 : decode cX8_feed 35 = .ok (.iload_n 1, 1) := dg_c46.2.2.1
theorem dX8_feed_36 : decode cX8_feed 36 = .ok (.iastore, 1) := dg_c46.2.2.2.1
theorem dX8_feed_37 : decode cX8_feed 37 = .ok (.aload_n 0, 1) := dg_c46.2.2.2.2.1
theorem dX8_feed_38 : decode cX8_feed 38 = .ok (.dup, 1) := dg_c46.2.2.2.2.2.1
theorem dX8_feed_39 : decode cX8_feed 39 = .ok (.getfield 72, 3) := dg_c46.2.2.2.2.2.2.1
theorem dX8_feed_42 : decode cX8_feed 42 = .ok (.iconst 1, 1) := dg_c46.2.2.2.2.2.2.2.1
theorem dX8_feed_43 : decode cX8_feed 43 = .ok (.iadd, 1) := dg_c46.2.2.2.2.2.2.2.2.1
theorem dX8_feed_44 : decode cX8_feed 44 = .ok (.putfield 72, 3) := dg_c46.2.2.2.2.2.2.2.2.2.1
theorem dX8_feed_47 : decode cX8_feed 47 = .ok (.aload_n 0, 1) := dg_c46.2.2.2.2.2.2.2.2.2.2.1
theorem dX8_feed_48 : decode cX8_feed 48 = .ok (.getfield 72, 3) := dg_c46.2.2.2.2.2.2.2.2.2.2.2.1
theorem dX8_feed_51 : decode cX8_feed 51 = .ok (.ireturn, 1) := dg_c46.2.2.2.2.2.2.2.2.2.2.2.2
theorem dg_c47 : (decode cX8_end 0 = .ok (.iload_n 1, 1)) ∧ (decode cX8_end 1 = .ok (.i2l, 1)) ∧ (decode cX8_end 2 = .ok (.lconst 0, 1)) ∧ (decode cX8_end 3 = .ok (.aload_n 0, 1)) ∧ (decode cX8_end 4 = .ok (.getfield 72, 3)) ∧ (decode cX8_end 7 = .ok (.i2l, 1)) ∧ (decode cX8_end 8 = .ok (.invokestatic 68, 3)) ∧ (decode cX8_end 11 = .ok (.ifCond .ne 5, 3)) ∧ (decode cX8_end 14 = .ok (.iconst (-1), 1)) ∧ (decode cX8_end 15 = .ok (.ireturn, 1)) ∧ (decode cX8_end 16 = .ok (.aload_n 0, 1)) ∧ (decode cX8_end 17 = .ok (.getfield 72, 3)) ∧ (decode cX8_end 20 = .ok (.istore_n 2, 1)) ∧ (decode cX8_end 21 = .ok (.aload_n 0, 1)) ∧ (decode cX8_end 22 = .ok (.iload_n 1, 1)) ∧ (decode cX8_end 23 = .ok (.putfield 72, 3)) := by decide +kernel
theorem dX8_end_0 : decode cX8_end 0 = .ok (.iload_n 1, 1) := dg_c47.1
theorem dX8_end_1 : decode cX8_end 1 = .ok (.i2l, 1) := dg_c47.2.1
theorem dX8_end_2 : decode cX8_end 2 = .ok (.lconst 0, 1) := dg_c47.2.2.1
theorem dX8_end_3 : decode cX8_end 3 = .ok (.aload_n 0, 1) := dg_c47.2.2.2.1
theorem dX8_end_4 : decode cX8_end 4 = .ok (.getfield 72, 3) := dg_c47.2.2.2.2.1
theorem dX8_end_7 : decode cX8_end 7 = .ok (.i2l, 1) := dg_c47.2.2.2.2.2.1
theorem dX8_end_8 : decode cX8_end 8 = .ok (.invokestatic 68, 3) := dg_c47.2.2.2.2.2.2.1
theorem dX8_end_11 : decode cX8_end 11 = .ok (.ifCond .ne 5, 3) := dg_c47.2.2.2.2.2.2.2.1
theorem dX8_end_14 : decode cX8_end 14 = .ok (.iconst (-1), 1) := dg_c47.2.2.2.2.2.2.2.2.1
theorem dX8_end_15 : decode cX8_end 15 = .ok (.ireturn, 1) := dg_c47.2.2.2.2.2.2.2.2.2.1
theorem dX8_end_16 : decode cX8_end 16 = .ok (.aload_n 0, 1) := dg_c47.2.2.2.2.2.2.2.2.2.2.1
theorem dX8_end_17 : decode cX8_end 17 = .ok (.getfield 72, 3) := dg_c47.2.2.2.2.2.2.2.2.2.2.2.1
theorem dX8_end_20 : decode cX8_end 20 = .ok (.istore_n 2, 1) := dg_c47.2.2.2.2.2.2.2.2.2.2.2.2.1
theorem dX8_end_21 : decode cX8_end 21 = .ok (.aload_n 0, 1) := dg_c47.2.2.2.2.2.2.2.2.2.2.2.2.2.1
theorem dX8_end_22 : decode cX8_end 22 = .ok (.iload_n 1, 1) := dg_c47.2.2.2.2.2.2.2.2.2.2.2.2.2.2.1
theorem dX8_end_23 : decode cX8_end 23 = .ok (.putfield 72, 3) := dg_c47.2.2.2.2.2.2.2.2.2.2.2.2.2.2.2
theorem dg_c48 : (decode cX8_end 26 = .ok (.iload_n 2, 1)) ∧ (decode cX8_end 27 = .ok (.ireturn, 1)) := by decide +kernel
theorem dX8_end_26 : decode cX8_end 26 = .ok (.iload_n 2, 1) := dg_c48.1
theorem dX8_end_27 : decode cX8_end 27 = .ok (.ireturn, 1) := dg_c48.2
theorem dg_c49 : (decode cX8_needs 0 = .ok (.iload_n 1, 1)) ∧ (decode cX8_needs 1 = .ok (.ifCond .ne 23, 3)) ∧ (decode cX8_needs 4 = .ok (.aload_n 0, 1)) ∧ (decode cX8_needs 5 = .ok (.getfield 75, 3)) ∧ (decode cX8_needs 8 = .ok (.ifCond .ne 16, 3)) ∧ (decode cX8_needs 11 = .ok (.aload_n 0, 1)) ∧ (decode cX8_needs 12 = .ok (.iload_n 2, 1)) ∧ (decode cX8_needs 13 = .ok (.putfield 75, 3)) ∧ (decode cX8_needs 16 = .ok (.aload_n 0, 1)) ∧ (decode cX8_needs 17 = .ok (.aload_n 0, 1)) ∧ (decode cX8_needs 18 = .ok (.getfield 78, 3)) ∧ (decode cX8_needs 21 = .ok (.putfield 81, 3)) ∧ (decode cX8_needs 24 = .ok (.return_, 1)) := by decide +kernel
theorem dX8_needs_0 : decode cX8_needs 0 = .ok (.iload_n 1, 1) := dg_c49.1
theorem dX8_needs_1 : decode cX8_needs 1 = .ok (.ifCond .ne 23, 3) := dg_c49.2.1
theorem dX8_needs_4 : decode cX8_needs 4 = .ok (.aload_n 0, 1) := dg_c49.2.2.1
theorem dX8_needs_5 : decode cX8_needs 5 = .ok (.getfield 75, 3) := dg_c49.2.2.2.1
theorem dX8_needs_8 : decode cX8_needs 8 = .ok (.ifCond .ne 16, 3) := dg_c49.2.2.2.2.1
theorem dX8_needs_11 : decode cX8_needs 11 = .ok (.aload_n 0, 1) := dg_c49.2.2.2.2.2.1
theorem dX8_needs_12 : decode cX8_needs 12 = .ok (.iload_n 2, 1) := dg_c49.2.2.2.2.2.2.1
theorem dX8_needs_13 : decode cX8_needs 13 = .ok (.putfield 75, 3) := dg_c49.2.2.2.2.2.2.2.1
theorem dX8_needs_16 : decode cX8_needs 16 = .ok (.aload_n 0, 1) := dg_c49.2.2.2.2.2.2.2.2.1
theorem dX8_needs_17 : decode cX8_needs 17 = .ok (.aload_n 0, 1) := dg_c49.2.2.2.2.2.2.2.2.2.1
theorem dX8_needs_18 : decode cX8_needs 18 = .ok (.getfield 78, 3) := dg_c49.2.2.2.2.2.2.2.2.2.2.1
theorem dX8_needs_21 : decode cX8_needs 21 = .ok (.putfield 81, 3) := dg_c49.2.2.2.2.2.2.2.2.2.2.2.1
theorem dX8_needs_24 : decode cX8_needs 24 = .ok (.return_, 1) := dg_c49.2.2.2.2.2.2.2.2.2.2.2.2
theorem dg_c50 : (decode cX8_byteAt 0 = .ok (.iload_n 1, 1)) ∧ (decode cX8_byteAt 1 = .ok (.aload_n 0, 1)) ∧ (decode cX8_byteAt 2 = .ok (.getfield 72, 3)) ∧ (decode cX8_byteAt 5 = .ok (.if_icmp .ge 12, 3)) ∧ (decode cX8_byteAt 8 = .ok (.aload_n 0, 1)) ∧ (decode cX8_byteAt 9 = .ok (.getfield 23, 3)) ∧ (decode cX8_byteAt 12 = .ok (.iload_n 1, 1)) ∧ (decode cX8_byteAt 13 = .ok (.iaload, 1)) ∧ (decode cX8_byteAt 14 = .ok (.goto 4, 3)) ∧ (decode cX8_byteAt 17 = .ok (.iconst (-1), 1)) ∧ (decode cX8_byteAt 18 = .ok (.ireturn, 1)) := by decide +kernel
theorem dX8_byteAt_0 : decode cX8_byteAt 0 = .ok (.iload_n 1, 1) := dg_c50.1
theorem dX8_byteAt_1 : decode cX8_byteAt 1 = .ok (.aload_n 0, 1) := dg_c50.2.1
theorem dX8_byteAt_2 : decode cX8_byteAt 2 = .ok (.getfield 72, 3) := dg_c50.2.2.1
theorem dX8_byteAt_5 : decode cX8_byteAt 5 = .ok (.if_icmp .ge 12, 3) := dg_c50.2.2.2.1
theorem dX8_byteAt_8 : decode cX8_byteAt 8 = .ok (.aload_n 0, 1) := dg_c50.2.2.2.2.1
theorem dX8_byteAt_9 : decode cX8_byteAt 9 = .ok (.getfield 23, 3) := dg_c50.2.2.2.2.2.1
theorem dX8_byteAt_12 : decode cX8_byteAt 12 = .ok (.iload_n 1, 1) := dg_c50.2.2.2.2.2.2.1
theorem dX8_byteAt_13 : decode cX8_byteAt 13 = .ok (.iaload, 1) := dg_c50.2.2.2.2.2.2.2.1
theorem dX8_byteAt_14 : decode cX8_byteAt 14 = .ok (.goto 4, 3) := dg_c50.2.2.2.2.2.2.2.2.1
theorem dX8_byteAt_17 : decode cX8_byteAt 17 = .ok (.iconst (-1), 1) := dg_c50.2.2.2.2.2.2.2.2.2.1
theorem dX8_byteAt_18 : decode cX8_byteAt 18 = .ok (.ireturn, 1) := dg_c50.2.2.2.2.2.2.2.2.2.2
theorem dg_c51 : (decode cX8_is 0 = .ok (.aload_n 0, 1)) ∧ (decode cX8_is 1 = .ok (.getfield 84, 3)) ∧ (decode cX8_is 4 = .ok (.aload_n 0, 1)) ∧ (decode cX8_is 5 = .ok (.getfield 78, 3)) ∧ (decode cX8_is 8 = .ok (.isub, 1)) ∧ (decode cX8_is 9 = .ok (.iload_n 1, 1)) ∧ (decode cX8_is 10 = .ok (.if_icmp .ne 48, 3)) ∧ (decode cX8_is 13 = .ok (.aload_n 0, 1)) ∧ (decode cX8_is 14 = .ok (.aload_n 0, 1)) ∧ (decode cX8_is 15 = .ok (.getfield 78, 3)) ∧ (decode cX8_is 18 = .ok (.invokevirtual 87, 3)) ∧ (decode cX8_is 21 = .ok (.iload_n 2, 1)) ∧ (decode cX8_is 22 = .ok (.if_icmp .ne 36, 3)) ∧ (decode cX8_is 25 = .ok (.aload_n 0, 1)) ∧ (decode cX8_is 26 = .ok (.aload_n 0, 1)) ∧ (decode cX8_is 27 = .ok (.getfield 78, 3)) := by decide +kernel
theorem dX8_is_0 : decode cX8_is 0 = .ok (.aload_n 0, 1) := dg_c51.1
theorem dX8_is_1 : decode cX8_is 1 = .ok (.getfield 84, 3) := dg_c51.2.1
theorem dX8_is_4 : decode cX8_is 4 = .ok (.aload_n 0, 1) := dg_c51.2.2.1
theorem dX8_is_5 : decode cX8_is 5 = .ok (.getfield 78, 3) := dg_c51.2.2.2.1
theorem dX8_is_8 : decode cX8_is 8 = .ok (.isub, 1) := dg_c51.2.2.2.2.1
theorem dX8_is_9 : decode cX8_is 9 = .ok (.iload_n 1, 1) := dg_c51.2.2.2.2.2.1
theorem dX8_is_10 : decode cX8_is 10 = .ok (.if_icmp .ne 48, 3) := dg_c51.2.2.2.2.2.2.1
theorem dX8_is_13 : decode cX8_is 13 = .ok (.aload_n 0, 1) := dg_c51.2.2.2.2.2.2.2.1
theorem dX8_is_14 : decode cX8_is 14 = .ok (.aload_n 0, 1) := dg_c51.2.2.2.2.2.2.2.2.1
theorem dX8_is_15 : decode cX8_is 15 = .ok (.getfield 78, 3) := dg_c51.2.2.2.2.2.2.2.2.2.1
theorem dX8_is_18 : decode cX8_is 18 = .ok (.invokevirtual 87, 3) := dg_c51.2.2.2.2.2.2.2.2.2.2.1
theorem dX8_is_21 : decode cX8_is 21 = .ok (.iload_n 2, 1) := dg_c51.2.2.2.2.2.2.2.2.2.2.2.1
theorem dX8_is_22 : decode cX8_is 22 = .ok (.if_icmp .ne 36, 3) := dg_c51.2.2.2.2.2.2.2.2.2.2.2.2.1
theorem dX8_is_25 : decode cX8_is 25 = .ok (.aload_n 0, 1) := dg_c51.2.2.2.2.2.2.2.2.2.2.2.2.2.1
theorem dX8_is_26 : decode cX8_is 26 = .ok (.aload_n 0, 1) := dg_c51.2.2.2.2.2.2.2.2.2.2.2.2.2.2.1
theorem dX8_is_27 : decode cX8_is 27 = .ok (.getfield 78, 3) := dg_c51.2.2.2.2.2.2.2.2.2.2.2.2.2.2.2
theorem dg_c52 : (decode cX8_is 30 = .ok (.iconst 1, 1)) ∧ (decode cX8_is 31 = .ok (.iadd, 1)) ∧ (decode cX8_is 32 = .ok (.invokevirtual 87, 3)) ∧ (decode cX8_is 35 = .ok (.iload_n 3, 1)) ∧ (decode cX8_is 36 = .ok (.if_icmp .ne 22, 3)) ∧ (decode cX8_is 39 = .ok (.aload_n 0, 1)) ∧ (decode cX8_is 40 = .ok (.aload_n 0, 1)) ∧ (decode cX8_is 41 = .ok (.getfield 78, 3)) ∧ (decode cX8_is 44 = .ok (.iconst 2, 1)) ∧ (decode cX8_is 45 = .ok (.iadd, 1)) ∧ (decode cX8_is 46 = .ok (.invokevirtual 87, 3)) ∧ (decode cX8_is 49 = .ok (.iload 4, 2)) ∧ (decode cX8_is 51 = .ok (.if_icmp .ne 7, 3)) ∧ (decode cX8_is 54 = .ok (.iconst 1, 1)) ∧ (decode cX8_is 55 = .ok (.goto 4, 3)) ∧ (decode cX8_is 58 = .ok (.iconst 0, 1)) := by decide +kernel
theorem dX8_is_30 : decode cX8_is 30 = .ok (.iconst 1, 1) := dg_c52.1
theorem dX8_is_31 : decode cX8_is 31 = .ok (.iadd, 1) := dg_c52.2.1
theorem dX8_is_32 : decode cX8_is 32 = .ok (.invokevirtual 87, 3) := dg_c52.2.2.1
theorem dX8_is_35 : decode cX8_is 35 = .ok (.iload_n 3, 1) := dg_c52.2.2.2.1
theorem dX8_is_36 : decode cX8_is 36 = .ok (.if_icmp .ne 22, 3) := dg_c52.2.2.2.2.1
theorem dX8_is_39 : decode cX8_is 39 = .ok (.aload_n 0, 1) := dg_c52.2.2.2.2.2.1
theorem dX8_is_40 : decode cX8_is 40 = .ok (.aload_n 0, 1) := dg_c52.2.2.2.2.2.2.1
theorem dX8_is_41 : decode cX8_is 41 = .ok (.getfield 78, 3) := dg_c52.2.2.2.2.2.2.2.1
theorem dX8_is_44 : decode cX8_is 44 = .ok (.iconst 2, 1) := dg_c52.2.2.2.2.2.2.2.2.1
theorem dX8_is_45 : decode cX8_is 45 = .ok (.iadd, 1) := dg_c52.2.2.2.2.2.2.2.2.2.1
theorem dX8_is_46 : decode cX8_is 46 = .ok (.invokevirtual 87, 3) := dg_c52.2.2.2.2.2.2.2.2.2.2.1
theorem dX8_is_49 : decode cX8_is 49 = .ok (.iload 4, 2) := dg_c52.2.2.2.2.2.2.2.2.2.2.2.1
theorem dX8_is_51 : decode cX8_is 51 = .ok (.if_icmp .ne 7, 3) := dg_c52.2.2.2.2.2.2.2.2.2.2.2.2.1
theorem dX8_is_54 : decode cX8_is 54 = .ok (.iconst 1, 1) := dg_c52.2.2.2.2.2.2.2.2.2.2.2.2.2.1
theorem dX8_is_55 : decode cX8_is 55 = .ok (.goto 4, 3) := dg_c52.2.2.2.2.2.2.2.2.2.2.2.2.2.2.1
theorem dX8_is_58 : decode cX8_is 58 = .ok (.iconst 0, 1) := dg_c52.2.2.2.2.2.2.2.2.2.2.2.2.2.2.2
theorem dX8_is_59 : decode cX8_is 59 = .ok (.ireturn, 1) := by decide +kernel
theorem dg_c53 : (decode cX8_ends 0 = .ok (.aload_n 0, 1)) ∧ (decode cX8_ends 1 = .ok (.aload_n 0, 1)) ∧ (decode cX8_ends 2 = .ok (.getfield 78, 3)) ∧ (decode cX8_ends 5 = .ok (.iconst 3, 1)) ∧ (decode cX8_ends 6 = .ok (.iadd, 1)) ∧ (decode cX8_ends 7 = .ok (.invokevirtual 87, 3)) ∧ (decode cX8_ends 10 = .ok (.iload_n 1, 1)) ∧ (decode cX8_ends 11 = .ok (.if_icmp .ne 25, 3)) ∧ (decode cX8_ends 14 = .ok (.iload_n 2, 1)) ∧ (decode cX8_ends 15 = .ok (.ifCond .eq 17, 3)) ∧ (decode cX8_ends 18 = .ok (.aload_n 0, 1)) ∧ (decode cX8_ends 19 = .ok (.aload_n 0, 1)) ∧ (decode cX8_ends 20 = .ok (.getfield 78, 3)) ∧ (decode cX8_ends 23 = .ok (.iconst 4, 1)) ∧ (decode cX8_ends 24 = .ok (.iadd, 1)) ∧ (decode cX8_ends 25 = .ok (.invokevirtual 87, 3)) := by decide +kernel
theorem dX8_ends_0 : decode cX8_ends 0 = .ok (.aload_n 0, 1) := dg_c53.1
theorem dX8_ends_1 : decode cX8_ends 1 = .ok (.aload_n 0, 1) := dg_c53.2.1
theorem dX8_ends_2 : decode cX8_ends 2 = .ok (.getfield 78, 3) := dg_c53.2.2.1
theorem dX8_ends_5 : decode cX8_ends 5 = .ok (.iconst 3, 1) := dg_c53.2.2.2.1
theorem dX8_ends_6 : decode cX8_ends 6 = .ok (.iadd, 1) := dg_c53.2.2.2.2.1
theorem dX8_ends_7 : decode cX8_ends 7 = .ok (.invokevirtual 87, 3) := dg_c53.2.2.2.2.2.1
theorem dX8_ends_10 : decode cX8_ends 10 = .ok (.iload_n 1, 1) := dg_c53.2.2.2.2.2.2.1
theorem dX8_ends_11 : decode cX8_ends 11 = .ok (.if_icmp .ne 25, 3) := dg_c53.2.2.2.2.2.2.2.1
theorem dX8_ends_14 : decode cX8_ends 14 = .ok (.iload_n 2, 1) := dg_c53.2.2.2.2.2.2.2.2.1
theorem dX8_ends_15 : decode cX8_ends 15 = .ok (.ifCond .eq 17, 3) := dg_c53.2.2.2.2.2.2.2.2.2.1
theorem dX8_ends_18 : decode cX8_ends 18 = .ok (.aload_n 0, 1) := dg_c53.2.2.2.2.2.2.2.2.2.2.1
theorem dX8_ends_19 : decode cX8_ends 19 = .ok (.aload_n 0, 1) := dg_c53.2.2.2.2.2.2.2.2.2.2.2.1
theorem dX8_ends_20 : decode cX8_ends 20 = .ok (.getfield 78, 3) := dg_c53.2.2.2.2.2.2.2.2.2.2.2.2.1
theorem dX8_ends_23 : decode cX8_ends 23 = .ok (.iconst 4, 1) := dg_c53.2.2.2.2.2.2.2.2.2.2.2.2.2.1
theorem dX8_ends_24 : decode cX8_ends 24 = .ok (.iadd, 1) := dg_c53.2.2.2.2.2.2.2.2.2.2.2.2.2.2.1
theorem dX8_ends_25 : decode cX8_ends 25 = .ok (.invokevirtual 87, 3) := dg_c53.2.2.2.2.2.2.2.2.2.2.2.2.2.2.2
theorem dg_c54 : (decode cX8_ends 28 = .ok (.iload_n 2, 1)) ∧ (decode cX8_ends 29 = .ok (.if_icmp .ne 7, 3)) ∧ (decode cX8_ends 32 = .ok (.iconst 1, 1)) ∧ (decode cX8_ends 33 = .ok (.goto 4, 3)) ∧ (decode cX8_ends 36 = .ok (.iconst 0, 1)) ∧ (decode cX8_ends 37 = .ok (.ireturn, 1)) := by decide +kernel
theorem dX8_ends_28 : decode cX8_ends 28 = .ok (.iload_n 2, 1) := dg_c54.1
theorem dX8_ends_29 : decode cX8_ends 29 = .ok (.if_icmp .ne 7, 3) := dg_c54.2.1
theorem dX8_ends_32 : decode cX8_ends 32 = .ok (.iconst 1, 1) := dg_c54.2.2.1
theorem dX8_ends_33 : decode cX8_ends 33 = .ok (.goto 4, 3) := dg_c54.2.2.2.1
theorem dX8_ends_36 : decode cX8_ends 36 = .ok (.iconst 0, 1) := dg_c54.2.2.2.2.1
theorem dX8_ends_37 : decode cX8_ends 37 = .ok (.ireturn, 1) := dg_c54.2.2.2.2.2
theorem dg_c55 : (decode cX8_lineNow 0 = .ok (.aload_n 0, 1)) ∧ (decode cX8_lineNow 1 = .ok (.iconst 5, 1)) ∧ (decode cX8_lineNow 2 = .ok (.bipush 112, 2)) ∧ (decode cX8_lineNow 4 = .ok (.bipush 108, 2)) ∧ (decode cX8_lineNow 6 = .ok (.bipush 97, 2)) ∧ (decode cX8_lineNow 8 = .ok (.invokevirtual 91, 3)) ∧ (decode cX8_lineNow 11 = .ok (.ifCond .eq 16, 3)) ∧ (decode cX8_lineNow 14 = .ok (.aload_n 0, 1)) ∧ (decode cX8_lineNow 15 = .ok (.bipush 105, 2)) ∧ (decode cX8_lineNow 17 = .ok (.bipush 110, 2)) ∧ (decode cX8_lineNow 19 = .ok (.invokevirtual 95, 3)) ∧ (decode cX8_lineNow 22 = .ok (.ifCond .eq 5, 3)) ∧ (decode cX8_lineNow 25 = .ok (.iconst 0, 1)) ∧ (decode cX8_lineNow 26 = .ok (.ireturn, 1)) ∧ (decode cX8_lineNow 27 = .ok (.aload_n 0, 1)) ∧ (decode cX8_lineNow 28 = .ok (.iconst 4, 1)) := by decide +kernel
theorem dX8_lineNow_0 : decode cX8_lineNow 0 = .ok (.aload_n 0, 1) := dg_c55.1
theorem dX8_lineNow_1 : decode cX8_lineNow 1 = .ok (.iconst 5, 1) := dg_c55.2.1
theorem dX8_lineNow_2 : decode cX8_lineNow 2 = .ok (.bipush 112, 2) := dg_c55.2.2.1
theorem dX8_lineNow_4 : decode cX8_lineNow 4 = .ok (.bipush 108, 2) := dg_c55.2.2.2.1
theorem dX8_lineNow_6 : decode cX8_lineNow 6 = .ok (.bipush 97, 2) := dg_c55.2.2.2.2.1
theorem dX8_lineNow_8 : decode cX8_lineNow 8 = .ok (.invokevirtual 91, 3) := dg_c55.2.2.2.2.2.1
theorem dX8_lineNow_11 : decode cX8_lineNow 11 = .ok (.ifCond .eq 16, 3) := dg_c55.2.2.2.2.2.2.1
theorem dX8_lineNow_14 : decode cX8_lineNow 14 = .ok (.aload_n 0, 1) := dg_c55.2.2.2.2.2.2.2.1
theorem dX8_lineNow_15 : decode cX8_lineNow 15 = .ok (.bipush 105, 2) := dg_c55.2.2.2.2.2.2.2.2.1
theorem dX8_lineNow_17 : decode cX8_lineNow 17 = .ok (.bipush 110, 2) := dg_c55.2.2.2.2.2.2.2.2.2.1
theorem dX8_lineNow_19 : decode cX8_lineNow 19 = .ok (.invokevirtual 95, 3) := dg_c55.2.2.2.2.2.2.2.2.2.2.1
theorem dX8_lineNow_22 : decode cX8_lineNow 22 = .ok (.ifCond .eq 5, 3) := dg_c55.2.2.2.2.2.2.2.2.2.2.2.1
theorem dX8_lineNow_25 : decode cX8_lineNow 25 = .ok (.iconst 0, 1) := dg_c55.2.2.2.2.2.2.2.2.2.2.2.2.1
theorem dX8_lineNow_26 : decode cX8_lineNow 26 = .ok (.ireturn, 1) := dg_c55.2.2.2.2.2.2.2.2.2.2.2.2.2.1
theorem dX8_lineNow_27 : decode cX8_lineNow 27 = .ok (.aload_n 0, 1) := dg_c55.2.2.2.2.2.2.2.2.2.2.2.2.2.2.1
theorem dX8_lineNow_28 : decode cX8_lineNow 28 = .ok (.iconst 4, 1) := dg_c55.2.2.2.2.2.2.2.2.2.2.2.2.2.2.2
theorem dg_c56 : (decode cX8_lineNow 29 = .ok (.bipush 108, 2)) ∧ (decode cX8_lineNow 31 = .ok (.bipush 97, 2)) ∧ (decode cX8_lineNow 33 = .ok (.bipush 109, 2)) ∧ (decode cX8_lineNow 35 = .ok (.invokevirtual 91, 3)) ∧ (decode cX8_lineNow 38 = .ok (.ifCond .eq 15, 3)) ∧ (decode cX8_lineNow 41 = .ok (.aload_n 0, 1)) ∧ (decode cX8_lineNow 42 = .ok (.bipush 101, 2)) ∧ (decode cX8_lineNow 44 = .ok (.iconst 0, 1)) ∧ (decode cX8_lineNow 45 = .ok (.invokevirtual 95, 3)) ∧ (decode cX8_lineNow 48 = .ok (.ifCond .eq 5, 3)) ∧ (decode cX8_lineNow 51 = .ok (.iconst 1, 1)) ∧ (decode cX8_lineNow 52 = .ok (.ireturn, 1)) ∧ (decode cX8_lineNow 53 = .ok (.aload_n 0, 1)) ∧ (decode cX8_lineNow 54 = .ok (.iconst 5, 1)) ∧ (decode cX8_lineNow 55 = .ok (.bipush 116, 2)) ∧ (decode cX8_lineNow 57 = .ok (.bipush 105, 2)) := by decide +kernel
theorem dX8_lineNow_29 : decode cX8_lineNow 29 = .ok (.bipush 108, 2) := dg_c56.1
theorem dX8_lineNow_31 : decode cX8_lineNow 31 = .ok (.bipush 97, 2) := dg_c56.2.1
theorem dX8_lineNow_33 : decode cX8_lineNow 33 = .ok (.bipush 109, 2) := dg_c56.2.2.1
theorem dX8_lineNow_35 : decode cX8_lineNow 35 = .ok (.invokevirtual 91, 3) := dg_c56.2.2.2.1
theorem dX8_lineNow_38 : decode cX8_lineNow 38 = .ok (.ifCond .eq 15, 3) := dg_c56.2.2.2.2.1
theorem dX8_lineNow_41 : decode cX8_lineNow 41 = .ok (.aload_n 0, 1) := dg_c56.2.2.2.2.2.1
theorem dX8_lineNow_42 : decode cX8_lineNow 42 = .ok (.bipush 101, 2) := dg_c56.2.2.2.2.2.2.1
theorem dX8_lineNow_44 : decode cX8_lineNow 44 = .ok (.iconst 0, 1) := dg_c56.2.2.2.2.2.2.2.1
theorem dX8_lineNow_45 : decode cX8_lineNow 45 = .ok (.invokevirtual 95, 3) := dg_c56.2.2.2.2.2.2.2.2.1
theorem dX8_lineNow_48 : decode cX8_lineNow 48 = .ok (.ifCond .eq 5, 3) := dg_c56.2.2.2.2.2.2.2.2.2.1
theorem dX8_lineNow_51 : decode cX8_lineNow 51 = .ok (.iconst 1, 1) := dg_c56.2.2.2.2.2.2.2.2.2.2.1
theorem dX8_lineNow_52 : decode cX8_lineNow 52 = .ok (.ireturn, 1) := dg_c56.2.2.2.2.2.2.2.2.2.2.2.1
theorem dX8_lineNow_53 : decode cX8_lineNow 53 = .ok (.aload_n 0, 1) := dg_c56.2.2.2.2.2.2.2.2.2.2.2.2.1
theorem dX8_lineNow_54 : decode cX8_lineNow 54 = .ok (.iconst 5, 1) := dg_c56.2.2.2.2.2.2.2.2.2.2.2.2.2.1
theorem dX8_lineNow_55 : decode cX8_lineNow 55 = .ok (.bipush 116, 2) := dg_c56.2.2.2.2.2.2.2.2.2.2.2.2.2.2.1
theorem dX8_lineNow_57 : decode cX8_lineNow 57 = .ok (.bipush 105, 2) := dg_c56.2.2.2.2.2.2.2.2.2.2.2.2.2.2.2
theorem dg_c57 : (decode cX8_lineNow 59 = .ok (.bipush 114, 2)) ∧ (decode cX8_lineNow 61 = .ok (.invokevirtual 91, 3)) ∧ (decode cX8_lineNow 64 = .ok (.ifCond .eq 16, 3)) ∧ (decode cX8_lineNow 67 = .ok (.aload_n 0, 1)) ∧ (decode cX8_lineNow 68 = .ok (.bipush 101, 2)) ∧ (decode cX8_lineNow 70 = .ok (.bipush 100, 2)) ∧ (decode cX8_lineNow 72 = .ok (.invokevirtual 95, 3)) ∧ (decode cX8_lineNow 75 = .ok (.ifCond .eq 5, 3)) ∧ (decode cX8_lineNow 78 = .ok (.iconst 2, 1)) ∧ (decode cX8_lineNow 79 = .ok (.ireturn, 1)) ∧ (decode cX8_lineNow 80 = .ok (.aload_n 0, 1)) ∧ (decode cX8_lineNow 81 = .ok (.iconst 5, 1)) ∧ (decode cX8_lineNow 82 = .ok (.bipush 103, 2)) ∧ (decode cX8_lineNow 84 = .ok (.bipush 117, 2)) ∧ (decode cX8_lineNow 86 = .ok (.bipush 105, 2)) ∧ (decode cX8_lineNow 88 = .ok (.invokevirtual 91, 3)) := by decide +kernel
theorem dX8_lineNow_59 : decode cX8_lineNow 59 = .ok (.bipush 114, 2) := dg_c57.1
theorem dX8_lineNow_61 : decode cX8_lineNow 61 = .ok (.invokevirtual 91, 3) := dg_c57.2.1
theorem dX8_lineNow_64 : decode cX8_lineNow 64 = .ok (.ifCond .eq 16, 3) := dg_c57.2.2.1
theorem dX8_lineNow_67 : decode cX8_lineNow 67 = .ok (.aload_n 0, 1) := dg_c57.2.2.2.1
theorem dX8_lineNow_68 : decode cX8_lineNow 68 = .ok (.bipush 101, 2) := dg_c57.2.2.2.2.1
theorem dX8_lineNow_70 : decode cX8_lineNow 70 = .ok (.bipush 100, 2) := dg_c57.2.2.2.2.2.1
theorem dX8_lineNow_72 : decode cX8_lineNow 72 = .ok (.invokevirtual 95, 3) := dg_c57.2.2.2.2.2.2.1
theorem dX8_lineNow_75 : decode cX8_lineNow 75 = .ok (.ifCond .eq 5, 3) := dg_c57.2.2.2.2.2.2.2.1
theorem dX8_lineNow_78 : decode cX8_lineNow 78 = .ok (.iconst 2, 1) := dg_c57.2.2.2.2.2.2.2.2.1
theorem dX8_lineNow_79 : decode cX8_lineNow 79 = .ok (.ireturn, 1) := dg_c57.2.2.2.2.2.2.2.2.2.1
theorem dX8_lineNow_80 : decode cX8_lineNow 80 = .ok (.aload_n 0, 1) := dg_c57.2.2.2.2.2.2.2.2.2.2.1
theorem dX8_lineNow_81 : decode cX8_lineNow 81 = .ok (.iconst 5, 1) := dg_c57.2.2.2.2.2.2.2.2.2.2.2.1
theorem dX8_lineNow_82 : decode cX8_lineNow 82 = .ok (.bipush 103, 2) := dg_c57.2.2.2.2.2.2.2.2.2.2.2.2.1
theorem dX8_lineNow_84 : decode cX8_lineNow 84 = .ok (.bipush 117, 2) := dg_c57.2.2.2.2.2.2.2.2.2.2.2.2.2.1
theorem dX8_lineNow_86 : decode cX8_lineNow 86 = .ok (.bipush 105, 2) := dg_c57.2.2.2.2.2.2.2.2.2.2.2.2.2.2.1
theorem dX8_lineNow_88 : decode cX8_lineNow 88 = .ok (.invokevirtual 91, 3) := dg_c57.2.2.2.2.2.2.2.2.2.2.2.2.2.2.2
theorem dg_c58 : (decode cX8_lineNow 91 = .ok (.ifCond .eq 16, 3)) ∧ (decode cX8_lineNow 94 = .ok (.aload_n 0, 1)) ∧ (decode cX8_lineNow 95 = .ok (.bipush 100, 2)) ∧ (decode cX8_lineNow 97 = .ok (.bipush 101, 2)) ∧ (decode cX8_lineNow 99 = .ok (.invokevirtual 95, 3)) ∧ (decode cX8_lineNow 102 = .ok (.ifCond .eq 5, 3)) ∧ (decode cX8_lineNow 105 = .ok (.iconst 3, 1)) ∧ (decode cX8_lineNow 106 = .ok (.ireturn, 1)) ∧ (decode cX8_lineNow 107 = .ok (.aload_n 0, 1)) ∧ (decode cX8_lineNow 108 = .ok (.iconst 4, 1)) ∧ (decode cX8_lineNow 109 = .ok (.bipush 115, 2)) ∧ (decode cX8_lineNow 111 = .ok (.bipush 116, 2)) ∧ (decode cX8_lineNow 113 = .ok (.bipush 97, 2)) ∧ (decode cX8_lineNow 115 = .ok (.invokevirtual 91, 3)) ∧ (decode cX8_lineNow 118 = .ok (.ifCond .eq 15, 3)) ∧ (decode cX8_lineNow 121 = .ok (.aload_n 0, 1)) := by decide +kernel
theorem dX8_lineNow_91 : decode cX8_lineNow 91 = .ok (.ifCond .eq 16, 3) := dg_c58.1
theorem dX8_lineNow_94 : decode cX8_lineNow 94 = .ok (.aload_n 0, 1) := dg_c58.2.1
theorem dX8_lineNow_95 : decode cX8_lineNow 95 = .ok (.bipush 100, 2) := dg_c58.2.2.1
theorem dX8_lineNow_97 : decode cX8_lineNow 97 = .ok (.bipush 101, 2) := dg_c58.2.2.2.1
theorem dX8_lineNow_99 : decode cX8_lineNow 99 = .ok (.invokevirtual 95, 3) := dg_c58.2.2.2.2.1
theorem dX8_lineNow_102 : decode cX8_lineNow 102 = .ok (.ifCond .eq 5, 3) := dg_c58.2.2.2.2.2.1
theorem dX8_lineNow_105 : decode cX8_lineNow 105 = .ok (.iconst 3, 1) := dg_c58.2.2.2.2.2.2.1
theorem dX8_lineNow_106 : decode cX8_lineNow 106 = .ok (.ireturn, 1) := dg_c58.2.2.2.2.2.2.2.1
theorem dX8_lineNow_107 : decode cX8_lineNow 107 = .ok (.aload_n 0, 1) := dg_c58.2.2.2.2.2.2.2.2.1
theorem dX8_lineNow_108 : decode cX8_lineNow 108 = .ok (.iconst 4, 1) := dg_c58.2.2.2.2.2.2.2.2.2.1
theorem dX8_lineNow_109 : decode cX8_lineNow 109 = .ok (.bipush 115, 2) := dg_c58.2.2.2.2.2.2.2.2.2.2.1
theorem dX8_lineNow_111 : decode cX8_lineNow 111 = .ok (.bipush 116, 2) := dg_c58.2.2.2.2.2.2.2.2.2.2.2.1
theorem dX8_lineNow_113 : decode cX8_lineNow 113 = .ok (.bipush 97, 2) := dg_c58.2.2.2.2.2.2.2.2.2.2.2.2.1
theorem dX8_lineNow_115 : decode cX8_lineNow 115 = .ok (.invokevirtual 91, 3) := dg_c58.2.2.2.2.2.2.2.2.2.2.2.2.2.1
theorem dX8_lineNow_118 : decode cX8_lineNow 118 = .ok (.ifCond .eq 15, 3) := dg_c58.2.2.2.2.2.2.2.2.2.2.2.2.2.2.1
theorem dX8_lineNow_121 : decode cX8_lineNow 121 = .ok (.aload_n 0, 1) := dg_c58.2.2.2.2.2.2.2.2.2.2.2.2.2.2.2
theorem dg_c59 : (decode cX8_lineNow 122 = .ok (.bipush 114, 2)) ∧ (decode cX8_lineNow 124 = .ok (.iconst 0, 1)) ∧ (decode cX8_lineNow 125 = .ok (.invokevirtual 95, 3)) ∧ (decode cX8_lineNow 128 = .ok (.ifCond .eq 5, 3)) ∧ (decode cX8_lineNow 131 = .ok (.iconst 4, 1)) ∧ (decode cX8_lineNow 132 = .ok (.ireturn, 1)) ∧ (decode cX8_lineNow 133 = .ok (.aload_n 0, 1)) ∧ (decode cX8_lineNow 134 = .ok (.iconst 5, 1)) ∧ (decode cX8_lineNow 135 = .ok (.bipush 107, 2)) ∧ (decode cX8_lineNow 137 = .ok (.bipush 110, 2)) ∧ (decode cX8_lineNow 139 = .ok (.bipush 111, 2)) ∧ (decode cX8_lineNow 141 = .ok (.invokevirtual 91, 3)) ∧ (decode cX8_lineNow 144 = .ok (.ifCond .eq 16, 3)) ∧ (decode cX8_lineNow 147 = .ok (.aload_n 0, 1)) ∧ (decode cX8_lineNow 148 = .ok (.bipush 119, 2)) ∧ (decode cX8_lineNow 150 = .ok (.bipush 110, 2)) := by decide +kernel
theorem dX8_lineNow_122 : decode cX8_lineNow 122 = .ok (.bipush 114, 2) := dg_c59.1
theorem dX8_lineNow_124 : decode cX8_lineNow 124 = .ok (.iconst 0, 1) := dg_c59.2.1
theorem dX8_lineNow_125 : decode cX8_lineNow 125 = .ok (.invokevirtual 95, 3) := dg_c59.2.2.1
theorem dX8_lineNow_128 : decode cX8_lineNow 128 = .ok (.ifCond .eq 5, 3) := dg_c59.2.2.2.1
theorem dX8_lineNow_131 : decode cX8_lineNow 131 = .ok (.iconst 4, 1) := dg_c59.2.2.2.2.1
theorem dX8_lineNow_132 : decode cX8_lineNow 132 = .ok (.ireturn, 1) := dg_c59.2.2.2.2.2.1
theorem dX8_lineNow_133 : decode cX8_lineNow 133 = .ok (.aload_n 0, 1) := dg_c59.2.2.2.2.2.2.1
theorem dX8_lineNow_134 : decode cX8_lineNow 134 = .ok (.iconst 5, 1) := dg_c59.2.2.2.2.2.2.2.1
theorem dX8_lineNow_135 : decode cX8_lineNow 135 = .ok (.bipush 107, 2) := dg_c59.2.2.2.2.2.2.2.2.1
theorem dX8_lineNow_137 : decode cX8_lineNow 137 = .ok (.bipush 110, 2) := dg_c59.2.2.2.2.2.2.2.2.2.1
theorem dX8_lineNow_139 : decode cX8_lineNow 139 = .ok (.bipush 111, 2) := dg_c59.2.2.2.2.2.2.2.2.2.2.1
theorem dX8_lineNow_141 : decode cX8_lineNow 141 = .ok (.invokevirtual 91, 3) := dg_c59.2.2.2.2.2.2.2.2.2.2.2.1
theorem dX8_lineNow_144 : decode cX8_lineNow 144 = .ok (.ifCond .eq 16, 3) := dg_c59.2.2.2.2.2.2.2.2.2.2.2.2.1
theorem dX8_lineNow_147 : decode cX8_lineNow 147 = .ok (.aload_n 0, 1) := dg_c59.2.2.2.2.2.2.2.2.2.2.2.2.2.1
theorem dX8_lineNow_148 : decode cX8_lineNow 148 = .ok (.bipush 119, 2) := dg_c59.2.2.2.2.2.2.2.2.2.2.2.2.2.2.1
theorem dX8_lineNow_150 : decode cX8_lineNow 150 = .ok (.bipush 110, 2) := dg_c59.2.2.2.2.2.2.2.2.2.2.2.2.2.2.2
theorem dg_c60 : (decode cX8_lineNow 152 = .ok (.invokevirtual 95, 3)) ∧ (decode cX8_lineNow 155 = .ok (.ifCond .eq 5, 3)) ∧ (decode cX8_lineNow 158 = .ok (.iconst 5, 1)) ∧ (decode cX8_lineNow 159 = .ok (.ireturn, 1)) ∧ (decode cX8_lineNow 160 = .ok (.aload_n 0, 1)) ∧ (decode cX8_lineNow 161 = .ok (.iconst 5, 1)) ∧ (decode cX8_lineNow 162 = .ok (.bipush 99, 2)) ∧ (decode cX8_lineNow 164 = .ok (.bipush 108, 2)) ∧ (decode cX8_lineNow 166 = .ok (.bipush 111, 2)) ∧ (decode cX8_lineNow 168 = .ok (.invokevirtual 91, 3)) ∧ (decode cX8_lineNow 171 = .ok (.ifCond .eq 17, 3)) ∧ (decode cX8_lineNow 174 = .ok (.aload_n 0, 1)) ∧ (decode cX8_lineNow 175 = .ok (.bipush 117, 2)) ∧ (decode cX8_lineNow 177 = .ok (.bipush 100, 2)) ∧ (decode cX8_lineNow 179 = .ok (.invokevirtual 95, 3)) ∧ (decode cX8_lineNow 182 = .ok (.ifCond .eq 6, 3)) := by decide +kernel
theorem dX8_lineNow_152 : decode cX8_lineNow 152 = .ok (.invokevirtual 95, 3) := dg_c60.1
theorem dX8_lineNow_155 : decode cX8_lineNow 155 = .ok (.ifCond .eq 5, 3) := dg_c60.2.1
theorem dX8_lineNow_158 : decode cX8_lineNow 158 = .ok (.iconst 5, 1) := dg_c60.2.2.1
theorem dX8_lineNow_159 : decode cX8_lineNow 159 = .ok (.ireturn, 1) := dg_c60.2.2.2.1
theorem dX8_lineNow_160 : decode cX8_lineNow 160 = .ok (.aload_n 0, 1) := dg_c60.2.2.2.2.1
theorem dX8_lineNow_161 : decode cX8_lineNow 161 = .ok (.iconst 5, 1) := dg_c60.2.2.2.2.2.1
theorem dX8_lineNow_162 : decode cX8_lineNow 162 = .ok (.bipush 99, 2) := dg_c60.2.2.2.2.2.2.1
theorem dX8_lineNow_164 : decode cX8_lineNow 164 = .ok (.bipush 108, 2) := dg_c60.2.2.2.2.2.2.2.1
theorem dX8_lineNow_166 : decode cX8_lineNow 166 = .ok (.bipush 111, 2) := dg_c60.2.2.2.2.2.2.2.2.1
theorem dX8_lineNow_168 : decode cX8_lineNow 168 = .ok (.invokevirtual 91, 3) := dg_c60.2.2.2.2.2.2.2.2.2.1
theorem dX8_lineNow_171 : decode cX8_lineNow 171 = .ok (.ifCond .eq 17, 3) := dg_c60.2.2.2.2.2.2.2.2.2.2.1
theorem dX8_lineNow_174 : decode cX8_lineNow 174 = .ok (.aload_n 0, 1) := dg_c60.2.2.2.2.2.2.2.2.2.2.2.1
theorem dX8_lineNow_175 : decode cX8_lineNow 175 = .ok (.bipush 117, 2) := dg_c60.2.2.2.2.2.2.2.2.2.2.2.2.1
theorem dX8_lineNow_177 : decode cX8_lineNow 177 = .ok (.bipush 100, 2) := dg_c60.2.2.2.2.2.2.2.2.2.2.2.2.2.1
theorem dX8_lineNow_179 : decode cX8_lineNow 179 = .ok (.invokevirtual 95, 3) := dg_c60.2.2.2.2.2.2.2.2.2.2.2.2.2.2.1
theorem dX8_lineNow_182 : decode cX8_lineNow 182 = .ok (.ifCond .eq 6, 3) := dg_c60.2.2.2.2.2.2.2.2.2.2.2.2.2.2.2
theorem dg_c61 : (decode cX8_lineNow 185 = .ok (.bipush 6, 2)) ∧ (decode cX8_lineNow 187 = .ok (.ireturn, 1)) ∧ (decode cX8_lineNow 188 = .ok (.aload_n 0, 1)) ∧ (decode cX8_lineNow 189 = .ok (.iconst 4, 1)) ∧ (decode cX8_lineNow 190 = .ok (.bipush 119, 2)) ∧ (decode cX8_lineNow 192 = .ok (.bipush 101, 2)) ∧ (decode cX8_lineNow 194 = .ok (.bipush 108, 2)) ∧ (decode cX8_lineNow 196 = .ok (.invokevirtual 91, 3)) ∧ (decode cX8_lineNow 199 = .ok (.ifCond .eq 16, 3)) ∧ (decode cX8_lineNow 202 = .ok (.aload_n 0, 1)) ∧ (decode cX8_lineNow 203 = .ok (.bipush 108, 2)) ∧ (decode cX8_lineNow 205 = .ok (.iconst 0, 1)) ∧ (decode cX8_lineNow 206 = .ok (.invokevirtual 95, 3)) ∧ (decode cX8_lineNow 209 = .ok (.ifCond .eq 6, 3)) ∧ (decode cX8_lineNow 212 = .ok (.bipush 7, 2)) ∧ (decode cX8_lineNow 214 = .ok (.ireturn, 1)) := by decide +kernel
theorem dX8_lineNow_185 : decode cX8_lineNow 185 = .ok (.bipush 6, 2) := dg_c61.1
theorem dX8_lineNow_187 : decode cX8_lineNow 187 = .ok (.ireturn, 1) := dg_c61.2.1
theorem dX8_lineNow_188 : decode cX8_lineNow 188 = .ok (.aload_n 0, 1) := dg_c61.2.2.1
theorem dX8_lineNow_189 : decode cX8_lineNow 189 = .ok (.iconst 4, 1) := dg_c61.2.2.2.1
theorem dX8_lineNow_190 : decode cX8_lineNow 190 = .ok (.bipush 119, 2) := dg_c61.2.2.2.2.1
theorem dX8_lineNow_192 : decode cX8_lineNow 192 = .ok (.bipush 101, 2) := dg_c61.2.2.2.2.2.1
theorem dX8_lineNow_194 : decode cX8_lineNow 194 = .ok (.bipush 108, 2) := dg_c61.2.2.2.2.2.2.1
theorem dX8_lineNow_196 : decode cX8_lineNow 196 = .ok (.invokevirtual 91, 3) := dg_c61.2.2.2.2.2.2.2.1
theorem dX8_lineNow_199 : decode cX8_lineNow 199 = .ok (.ifCond .eq 16, 3) := dg_c61.2.2.2.2.2.2.2.2.1
theorem dX8_lineNow_202 : decode cX8_lineNow 202 = .ok (.aload_n 0, 1) := dg_c61.2.2.2.2.2.2.2.2.2.1
theorem dX8_lineNow_203 : decode cX8_lineNow 203 = .ok (.bipush 108, 2) := dg_c61.2.2.2.2.2.2.2.2.2.2.1
theorem dX8_lineNow_205 : decode cX8_lineNow 205 = .ok (.iconst 0, 1) := dg_c61.2.2.2.2.2.2.2.2.2.2.2.1
theorem dX8_lineNow_206 : decode cX8_lineNow 206 = .ok (.invokevirtual 95, 3) := dg_c61.2.2.2.2.2.2.2.2.2.2.2.2.1
theorem dX8_lineNow_209 : decode cX8_lineNow 209 = .ok (.ifCond .eq 6, 3) := dg_c61.2.2.2.2.2.2.2.2.2.2.2.2.2.1
theorem dX8_lineNow_212 : decode cX8_lineNow 212 = .ok (.bipush 7, 2) := dg_c61.2.2.2.2.2.2.2.2.2.2.2.2.2.2.1
theorem dX8_lineNow_214 : decode cX8_lineNow 214 = .ok (.ireturn, 1) := dg_c61.2.2.2.2.2.2.2.2.2.2.2.2.2.2.2
theorem dg_c62 : (decode cX8_lineNow 215 = .ok (.aload_n 0, 1)) ∧ (decode cX8_lineNow 216 = .ok (.iconst 4, 1)) ∧ (decode cX8_lineNow 217 = .ok (.bipush 119, 2)) ∧ (decode cX8_lineNow 219 = .ok (.bipush 105, 2)) ∧ (decode cX8_lineNow 221 = .ok (.bipush 110, 2)) ∧ (decode cX8_lineNow 223 = .ok (.invokevirtual 91, 3)) ∧ (decode cX8_lineNow 226 = .ok (.ifCond .eq 16, 3)) ∧ (decode cX8_lineNow 229 = .ok (.aload_n 0, 1)) ∧ (decode cX8_lineNow 230 = .ok (.bipush 100, 2)) ∧ (decode cX8_lineNow 232 = .ok (.iconst 0, 1)) ∧ (decode cX8_lineNow 233 = .ok (.invokevirtual 95, 3)) ∧ (decode cX8_lineNow 236 = .ok (.ifCond .eq 6, 3)) ∧ (decode cX8_lineNow 239 = .ok (.bipush 8, 2)) ∧ (decode cX8_lineNow 241 = .ok (.ireturn, 1)) ∧ (decode cX8_lineNow 242 = .ok (.aload_n 0, 1)) ∧ (decode cX8_lineNow 243 = .ok (.iconst 5, 1)) := by decide +kernel
theorem dX8_lineNow_215 : decode cX8_lineNow 215 = .ok (.aload_n 0, 1) := dg_c62.1
theorem dX8_lineNow_216 : decode cX8_lineNow 216 = .ok (.iconst 4, 1) := dg_c62.2.1
theorem dX8_lineNow_217 : decode cX8_lineNow 217 = .ok (.bipush 119, 2) := dg_c62.2.2.1
theorem dX8_lineNow_219 : decode cX8_lineNow 219 = .ok (.bipush 105, 2) := dg_c62.2.2.2.1
theorem dX8_lineNow_221 : decode cX8_lineNow 221 = .ok (.bipush 110, 2) := dg_c62.2.2.2.2.1
theorem dX8_lineNow_223 : decode cX8_lineNow 223 = .ok (.invokevirtual 91, 3) := dg_c62.2.2.2.2.2.1
theorem dX8_lineNow_226 : decode cX8_lineNow 226 = .ok (.ifCond .eq 16, 3) := dg_c62.2.2.2.2.2.2.1
theorem dX8_lineNow_229 : decode cX8_lineNow 229 = .ok (.aload_n 0, 1) := dg_c62.2.2.2.2.2.2.2.1
theorem dX8_lineNow_230 : decode cX8_lineNow 230 = .ok (.bipush 100, 2) := dg_c62.2.2.2.2.2.2.2.2.1
theorem dX8_lineNow_232 : decode cX8_lineNow 232 = .ok (.iconst 0, 1) := dg_c62.2.2.2.2.2.2.2.2.2.1
theorem dX8_lineNow_233 : decode cX8_lineNow 233 = .ok (.invokevirtual 95, 3) := dg_c62.2.2.2.2.2.2.2.2.2.2.1
theorem dX8_lineNow_236 : decode cX8_lineNow 236 = .ok (.ifCond .eq 6, 3) := dg_c62.2.2.2.2.2.2.2.2.2.2.2.1
theorem dX8_lineNow_239 : decode cX8_lineNow 239 = .ok (.bipush 8, 2) := dg_c62.2.2.2.2.2.2.2.2.2.2.2.2.1
theorem dX8_lineNow_241 : decode cX8_lineNow 241 = .ok (.ireturn, 1) := dg_c62.2.2.2.2.2.2.2.2.2.2.2.2.2.1
theorem dX8_lineNow_242 : decode cX8_lineNow 242 = .ok (.aload_n 0, 1) := dg_c62.2.2.2.2.2.2.2.2.2.2.2.2.2.2.1
theorem dX8_lineNow_243 : decode cX8_lineNow 243 = .ok (.iconst 5, 1) := dg_c62.2.2.2.2.2.2.2.2.2.2.2.2.2.2.2
theorem dg_c63 : (decode cX8_lineNow 244 = .ok (.bipush 119, 2)) ∧ (decode cX8_lineNow 246 = .ok (.bipush 97, 2)) ∧ (decode cX8_lineNow 248 = .ok (.bipush 116, 2)) ∧ (decode cX8_lineNow 250 = .ok (.invokevirtual 91, 3)) ∧ (decode cX8_lineNow 253 = .ok (.ifCond .eq 19, 3)) ∧ (decode cX8_lineNow 256 = .ok (.aload_n 0, 1)) ∧ (decode cX8_lineNow 257 = .ok (.bipush 101, 2)) ∧ (decode cX8_lineNow 259 = .ok (.bipush 114, 2)) ∧ (decode cX8_lineNow 261 = .ok (.invokevirtual 95, 3)) ∧ (decode cX8_lineNow 264 = .ok (.ifCond .eq 8, 3)) ∧ (decode cX8_lineNow 267 = .ok (.bipush 9, 2)) ∧ (decode cX8_lineNow 269 = .ok (.goto 34, 3)) ∧ (decode cX8_lineNow 272 = .ok (.aload_n 0, 1)) ∧ (decode cX8_lineNow 273 = .ok (.iconst 4, 1)) ∧ (decode cX8_lineNow 274 = .ok (.bipush 112, 2)) ∧ (decode cX8_lineNow 276 = .ok (.bipush 108, 2)) := by decide +kernel
theorem dX8_lineNow_244 : decode cX8_lineNow 244 = .ok (.bipush 119, 2) := dg_c63.1
theorem dX8_lineNow_246 : decode cX8_lineNow 246 = .ok (.bipush 97, 2) := dg_c63.2.1
theorem dX8_lineNow_248 : decode cX8_lineNow 248 = .ok (.bipush 116, 2) := dg_c63.2.2.1
theorem dX8_lineNow_250 : decode cX8_lineNow 250 = .ok (.invokevirtual 91, 3) := dg_c63.2.2.2.1
theorem dX8_lineNow_253 : decode cX8_lineNow 253 = .ok (.ifCond .eq 19, 3) := dg_c63.2.2.2.2.1
theorem dX8_lineNow_256 : decode cX8_lineNow 256 = .ok (.aload_n 0, 1) := dg_c63.2.2.2.2.2.1
theorem dX8_lineNow_257 : decode cX8_lineNow 257 = .ok (.bipush 101, 2) := dg_c63.2.2.2.2.2.2.1
theorem dX8_lineNow_259 : decode cX8_lineNow 259 = .ok (.bipush 114, 2) := dg_c63.2.2.2.2.2.2.2.1
theorem dX8_lineNow_261 : decode cX8_lineNow 261 = .ok (.invokevirtual 95, 3) := dg_c63.2.2.2.2.2.2.2.2.1
theorem dX8_lineNow_264 : decode cX8_lineNow 264 = .ok (.ifCond .eq 8, 3) := dg_c63.2.2.2.2.2.2.2.2.2.1
theorem dX8_lineNow_267 : decode cX8_lineNow 267 = .ok (.bipush 9, 2) := dg_c63.2.2.2.2.2.2.2.2.2.2.1
theorem dX8_lineNow_269 : decode cX8_lineNow 269 = .ok (.goto 34, 3) := dg_c63.2.2.2.2.2.2.2.2.2.2.2.1
theorem dX8_lineNow_272 : decode cX8_lineNow 272 = .ok (.aload_n 0, 1) := dg_c63.2.2.2.2.2.2.2.2.2.2.2.2.1
theorem dX8_lineNow_273 : decode cX8_lineNow 273 = .ok (.iconst 4, 1) := dg_c63.2.2.2.2.2.2.2.2.2.2.2.2.2.1
theorem dX8_lineNow_274 : decode cX8_lineNow 274 = .ok (.bipush 112, 2) := dg_c63.2.2.2.2.2.2.2.2.2.2.2.2.2.2.1
theorem dX8_lineNow_276 : decode cX8_lineNow 276 = .ok (.bipush 108, 2) := dg_c63.2.2.2.2.2.2.2.2.2.2.2.2.2.2.2
theorem dg_c64 : (decode cX8_lineNow 278 = .ok (.bipush 97, 2)) ∧ (decode cX8_lineNow 280 = .ok (.invokevirtual 91, 3)) ∧ (decode cX8_lineNow 283 = .ok (.ifCond .eq 18, 3)) ∧ (decode cX8_lineNow 286 = .ok (.aload_n 0, 1)) ∧ (decode cX8_lineNow 287 = .ok (.bipush 110, 2)) ∧ (decode cX8_lineNow 289 = .ok (.iconst 0, 1)) ∧ (decode cX8_lineNow 290 = .ok (.invokevirtual 95, 3)) ∧ (decode cX8_lineNow 293 = .ok (.ifCond .eq 8, 3)) ∧ (decode cX8_lineNow 296 = .ok (.bipush 10, 2)) ∧ (decode cX8_lineNow 298 = .ok (.goto 5, 3)) ∧ (decode cX8_lineNow 301 = .ok (.bipush (-4), 2)) ∧ (decode cX8_lineNow 303 = .ok (.ireturn, 1)) := by decide +kernel
theorem dX8_lineNow_278 : decode cX8_lineNow 278 = .ok (.bipush 97, 2) := dg_c64.1
theorem dX8_lineNow_280 : decode cX8_lineNow 280 = .ok (.invokevirtual 91, 3) := dg_c64.2.1
theorem dX8_lineNow_283 : decode cX8_lineNow 283 = .ok (.ifCond .eq 18, 3) := dg_c64.2.2.1
theorem dX8_lineNow_286 : decode cX8_lineNow 286 = .ok (.aload_n 0, 1) := dg_c64.2.2.2.1
theorem dX8_lineNow_287 : decode cX8_lineNow 287 = .ok (.bipush 110, 2) := dg_c64.2.2.2.2.1
theorem dX8_lineNow_289 : decode cX8_lineNow 289 = .ok (.iconst 0, 1) := dg_c64.2.2.2.2.2.1
theorem dX8_lineNow_290 : decode cX8_lineNow 290 = .ok (.invokevirtual 95, 3) := dg_c64.2.2.2.2.2.2.1
theorem dX8_lineNow_293 : decode cX8_lineNow 293 = .ok (.ifCond .eq 8, 3) := dg_c64.2.2.2.2.2.2.2.1
theorem dX8_lineNow_296 : decode cX8_lineNow 296 = .ok (.bipush 10, 2) := dg_c64.2.2.2.2.2.2.2.2.1
theorem dX8_lineNow_298 : decode cX8_lineNow 298 = .ok (.goto 5, 3) := dg_c64.2.2.2.2.2.2.2.2.2.1
theorem dX8_lineNow_301 : decode cX8_lineNow 301 = .ok (.bipush (-4), 2) := dg_c64.2.2.2.2.2.2.2.2.2.2.1
theorem dX8_lineNow_303 : decode cX8_lineNow 303 = .ok (.ireturn, 1) := dg_c64.2.2.2.2.2.2.2.2.2.2.2
theorem dg_c65 : (decode cX8_next1 0 = .ok (.aload_n 0, 1)) ∧ (decode cX8_next1 1 = .ok (.getfield 75, 3)) ∧ (decode cX8_next1 4 = .ok (.ifCond .le 4, 3)) ∧ (decode cX8_next1 7 = .ok (.return_, 1)) ∧ (decode cX8_next1 8 = .ok (.aload_n 0, 1)) ∧ (decode cX8_next1 9 = .ok (.aload_n 0, 1)) ∧ (decode cX8_next1 10 = .ok (.getfield 84, 3)) ∧ (decode cX8_next1 13 = .ok (.invokevirtual 87, 3)) ∧ (decode cX8_next1 16 = .ok (.bipush 32, 2)) ∧ (decode cX8_next1 18 = .ok (.if_icmp .ne 16, 3)) ∧ (decode cX8_next1 21 = .ok (.aload_n 0, 1)) ∧ (decode cX8_next1 22 = .ok (.dup, 1)) ∧ (decode cX8_next1 23 = .ok (.getfield 84, 3)) ∧ (decode cX8_next1 26 = .ok (.iconst 1, 1)) ∧ (decode cX8_next1 27 = .ok (.iadd, 1)) ∧ (decode cX8_next1 28 = .ok (.putfield 84, 3)) := by decide +kernel
theorem dX8_next1_0 : decode cX8_next1 0 = .ok (.aload_n 0, 1) := dg_c65.1
theorem dX8_next1_1 : decode cX8_next1 1 = .ok (.getfield 75, 3) := dg_c65.2.1
theorem dX8_next1_4 : decode cX8_next1 4 = .ok (.ifCond .le 4, 3) := dg_c65.2.2.1
theorem dX8_next1_7 : decode cX8_next1 7 = .ok (.return_, 1) := dg_c65.2.2.2.1
theorem dX8_next1_8 : decode cX8_next1 8 = .ok (.aload_n 0, 1) := dg_c65.2.2.2.2.1
theorem dX8_next1_9 : decode cX8_next1 9 = .ok (.aload_n 0, 1) := dg_c65.2.2.2.2.2.1
theorem dX8_next1_10 : decode cX8_next1 10 = .ok (.getfield 84, 3) := dg_c65.2.2.2.2.2.2.1
theorem dX8_next1_13 : decode cX8_next1 13 = .ok (.invokevirtual 87, 3) := dg_c65.2.2.2.2.2.2.2.1
theorem dX8_next1_16 : decode cX8_next1 16 = .ok (.bipush 32, 2) := dg_c65.2.2.2.2.2.2.2.2.1
theorem dX8_next1_18 : decode cX8_next1 18 = .ok (.if_icmp .ne 16, 3) := dg_c65.2.2.2.2.2.2.2.2.2.1
theorem dX8_next1_21 : decode cX8_next1 21 = .ok (.aload_n 0, 1) := dg_c65.2.2.2.2.2.2.2.2.2.2.1
theorem dX8_next1_22 : decode cX8_next1 22 = .ok (.dup, 1) := dg_c65.2.2.2.2.2.2.2.2.2.2.2.1
theorem dX8_next1_23 : decode cX8_next1 23 = .ok (.getfield 84, 3) := dg_c65.2.2.2.2.2.2.2.2.2.2.2.2.1
theorem dX8_next1_26 : decode cX8_next1 26 = .ok (.iconst 1, 1) := dg_c65.2.2.2.2.2.2.2.2.2.2.2.2.2.1
theorem dX8_next1_27 : decode cX8_next1 27 = .ok (.iadd, 1) := dg_c65.2.2.2.2.2.2.2.2.2.2.2.2.2.2.1
theorem dX8_next1_28 : decode cX8_next1 28 = .ok (.putfield 84, 3) := dg_c65.2.2.2.2.2.2.2.2.2.2.2.2.2.2.2
theorem dg_c66 : (decode cX8_next1 31 = .ok (.goto (-23), 3)) ∧ (decode cX8_next1 34 = .ok (.aload_n 0, 1)) ∧ (decode cX8_next1 35 = .ok (.aload_n 0, 1)) ∧ (decode cX8_next1 36 = .ok (.getfield 84, 3)) ∧ (decode cX8_next1 39 = .ok (.putfield 78, 3)) ∧ (decode cX8_next1 42 = .ok (.aload_n 0, 1)) ∧ (decode cX8_next1 43 = .ok (.aload_n 0, 1)) ∧ (decode cX8_next1 44 = .ok (.getfield 84, 3)) ∧ (decode cX8_next1 47 = .ok (.invokevirtual 87, 3)) ∧ (decode cX8_next1 50 = .ok (.istore_n 1, 1)) ∧ (decode cX8_next1 51 = .ok (.iload_n 1, 1)) ∧ (decode cX8_next1 52 = .ok (.ifCond .ge 11, 3)) ∧ (decode cX8_next1 55 = .ok (.aload_n 0, 1)) ∧ (decode cX8_next1 56 = .ok (.iconst 0, 1)) ∧ (decode cX8_next1 57 = .ok (.putfield 99, 3)) ∧ (decode cX8_next1 60 = .ok (.goto 214, 3)) := by decide +kernel
theorem dX8_next1_31 : decode cX8_next1 31 = .ok (.goto (-23), 3) := dg_c66.1
theorem dX8_next1_34 : decode cX8_next1 34 = .ok (.aload_n 0, 1) := dg_c66.2.1
theorem dX8_next1_35 : decode cX8_next1 35 = .ok (.aload_n 0, 1) := dg_c66.2.2.1
theorem dX8_next1_36 : decode cX8_next1 36 = .ok (.getfield 84, 3) := dg_c66.2.2.2.1
theorem dX8_next1_39 : decode cX8_next1 39 = .ok (.putfield 78, 3) := dg_c66.2.2.2.2.1
theorem dX8_next1_42 : decode cX8_next1 42 = .ok (.aload_n 0, 1) := dg_c66.2.2.2.2.2.1
theorem dX8_next1_43 : decode cX8_next1 43 = .ok (.aload_n 0, 1) := dg_c66.2.2.2.2.2.2.1
theorem dX8_next1_44 : decode cX8_next1 44 = .ok (.getfield 84, 3) := dg_c66.2.2.2.2.2.2.2.1
theorem dX8_next1_47 : decode cX8_next1 47 = .ok (.invokevirtual 87, 3) := dg_c66.2.2.2.2.2.2.2.2.1
theorem dX8_next1_50 : decode cX8_next1 50 = .ok (.istore_n 1, 1) := dg_c66.2.2.2.2.2.2.2.2.2.1
theorem dX8_next1_51 : decode cX8_next1 51 = .ok (.iload_n 1, 1) := dg_c66.2.2.2.2.2.2.2.2.2.2.1
theorem dX8_next1_52 : decode cX8_next1 52 = .ok (.ifCond .ge 11, 3) := dg_c66.2.2.2.2.2.2.2.2.2.2.2.1
theorem dX8_next1_55 : decode cX8_next1 55 = .ok (.aload_n 0, 1) := dg_c66.2.2.2.2.2.2.2.2.2.2.2.2.1
theorem dX8_next1_56 : decode cX8_next1 56 = .ok (.iconst 0, 1) := dg_c66.2.2.2.2.2.2.2.2.2.2.2.2.2.1
theorem dX8_next1_57 : decode cX8_next1 57 = .ok (.putfield 99, 3) := dg_c66.2.2.2.2.2.2.2.2.2.2.2.2.2.2.1
theorem dX8_next1_60 : decode cX8_next1 60 = .ok (.goto 214, 3) := dg_c66.2.2.2.2.2.2.2.2.2.2.2.2.2.2.2
theorem dg_c67 : (decode cX8_next1 63 = .ok (.iload_n 1, 1)) ∧ (decode cX8_next1 64 = .ok (.i2l, 1)) ∧ (decode cX8_next1 65 = .ok (.ldc2_w 102, 3)) ∧ (decode cX8_next1 68 = .ok (.ldc2_w 104, 3)) ∧ (decode cX8_next1 71 = .ok (.invokestatic 68, 3)) ∧ (decode cX8_next1 74 = .ok (.ifCond .eq 42, 3)) ∧ (decode cX8_next1 77 = .ok (.aload_n 0, 1)) ∧ (decode cX8_next1 78 = .ok (.iconst 1, 1)) ∧ (decode cX8_next1 79 = .ok (.putfield 99, 3)) ∧ (decode cX8_next1 82 = .ok (.aload_n 0, 1)) ∧ (decode cX8_next1 83 = .ok (.aload_n 0, 1)) ∧ (decode cX8_next1 84 = .ok (.getfield 84, 3)) ∧ (decode cX8_next1 87 = .ok (.invokevirtual 87, 3)) ∧ (decode cX8_next1 90 = .ok (.i2l, 1)) ∧ (decode cX8_next1 91 = .ok (.ldc2_w 102, 3)) ∧ (decode cX8_next1 94 = .ok (.ldc2_w 104, 3)) := by decide +kernel
theorem dX8_next1_63 : decode cX8_next1 63 = .ok (.iload_n 1, 1) := dg_c67.1
theorem dX8_next1_64 : decode cX8_next1 64 = .ok (.i2l, 1) := dg_c67.2.1
theorem dX8_next1_65 : decode cX8_next1 65 = .ok (.ldc2_w 102, 3) := dg_c67.2.2.1
theorem dX8_next1_68 : decode cX8_next1 68 = .ok (.ldc2_w 104, 3) := dg_c67.2.2.2.1
theorem dX8_next1_71 : decode cX8_next1 71 = .ok (.invokestatic 68, 3) := dg_c67.2.2.2.2.1
theorem dX8_next1_74 : decode cX8_next1 74 = .ok (.ifCond .eq 42, 3) := dg_c67.2.2.2.2.2.1
theorem dX8_next1_77 : decode cX8_next1 77 = .ok (.aload_n 0, 1) := dg_c67.2.2.2.2.2.2.1
theorem dX8_next1_78 : decode cX8_next1 78 = .ok (.iconst 1, 1) := dg_c67.2.2.2.2.2.2.2.1
theorem dX8_next1_79 : decode cX8_next1 79 = .ok (.putfield 99, 3) := dg_c67.2.2.2.2.2.2.2.2.1
theorem dX8_next1_82 : decode cX8_next1 82 = .ok (.aload_n 0, 1) := dg_c67.2.2.2.2.2.2.2.2.2.1
theorem dX8_next1_83 : decode cX8_next1 83 = .ok (.aload_n 0, 1) := dg_c67.2.2.2.2.2.2.2.2.2.2.1
theorem dX8_next1_84 : decode cX8_next1 84 = .ok (.getfield 84, 3) := dg_c67.2.2.2.2.2.2.2.2.2.2.2.1
theorem dX8_next1_87 : decode cX8_next1 87 = .ok (.invokevirtual 87, 3) := dg_c67.2.2.2.2.2.2.2.2.2.2.2.2.1
theorem dX8_next1_90 : decode cX8_next1 90 = .ok (.i2l, 1) := dg_c67.2.2.2.2.2.2.2.2.2.2.2.2.2.1
theorem dX8_next1_91 : decode cX8_next1 91 = .ok (.ldc2_w 102, 3) := dg_c67.2.2.2.2.2.2.2.2.2.2.2.2.2.2.1
theorem dX8_next1_94 : decode cX8_next1 94 = .ok (.ldc2_w 104, 3) := dg_c67.2.2.2.2.2.2.2.2.2.2.2.2.2.2.2
theorem dg_c68 : (decode cX8_next1 97 = .ok (.invokestatic 68, 3)) ∧ (decode cX8_next1 100 = .ok (.ifCond .eq 174, 3)) ∧ (decode cX8_next1 103 = .ok (.aload_n 0, 1)) ∧ (decode cX8_next1 104 = .ok (.dup, 1)) ∧ (decode cX8_next1 105 = .ok (.getfield 84, 3)) ∧ (decode cX8_next1 108 = .ok (.iconst 1, 1)) ∧ (decode cX8_next1 109 = .ok (.iadd, 1)) ∧ (decode cX8_next1 110 = .ok (.putfield 84, 3)) ∧ (decode cX8_next1 113 = .ok (.goto (-31), 3)) ∧ (decode cX8_next1 116 = .ok (.iload_n 1, 1)) ∧ (decode cX8_next1 117 = .ok (.i2l, 1)) ∧ (decode cX8_next1 118 = .ok (.ldc2_w 106, 3)) ∧ (decode cX8_next1 121 = .ok (.ldc2_w 108, 3)) ∧ (decode cX8_next1 124 = .ok (.invokestatic 68, 3)) ∧ (decode cX8_next1 127 = .ok (.ifCond .eq 116, 3)) ∧ (decode cX8_next1 130 = .ok (.aload_n 0, 1)) := by decide +kernel
theorem dX8_next1_97 : decode cX8_next1 97 = .ok (.invokestatic 68, 3) := dg_c68.1
theorem dX8_next1_100 : decode cX8_next1 100 = .ok (.ifCond .eq 174, 3) := dg_c68.2.1
theorem dX8_next1_103 : decode cX8_next1 103 = .ok (.aload_n 0, 1) := dg_c68.2.2.1
theorem dX8_next1_104 : decode cX8_next1 104 = .ok (.dup, 1) := dg_c68.2.2.2.1
theorem dX8_next1_105 : decode cX8_next1 105 = .ok (.getfield 84, 3) := dg_c68.2.2.2.2.1
theorem dX8_next1_108 : decode cX8_next1 108 = .ok (.iconst 1, 1) := dg_c68.2.2.2.2.2.1
theorem dX8_next1_109 : decode cX8_next1 109 = .ok (.iadd, 1) := dg_c68.2.2.2.2.2.2.1
theorem dX8_next1_110 : decode cX8_next1 110 = .ok (.putfield 84, 3) := dg_c68.2.2.2.2.2.2.2.1
theorem dX8_next1_113 : decode cX8_next1 113 = .ok (.goto (-31), 3) := dg_c68.2.2.2.2.2.2.2.2.1
theorem dX8_next1_116 : decode cX8_next1 116 = .ok (.iload_n 1, 1) := dg_c68.2.2.2.2.2.2.2.2.2.1
theorem dX8_next1_117 : decode cX8_next1 117 = .ok (.i2l, 1) := dg_c68.2.2.2.2.2.2.2.2.2.2.1
theorem dX8_next1_118 : decode cX8_next1 118 = .ok (.ldc2_w 106, 3) := dg_c68.2.2.2.2.2.2.2.2.2.2.2.1
theorem dX8_next1_121 : decode cX8_next1 121 = .ok (.ldc2_w 108, 3) := dg_c68.2.2.2.2.2.2.2.2.2.2.2.2.1
theorem dX8_next1_124 : decode cX8_next1 124 = .ok (.invokestatic 68, 3) := dg_c68.2.2.2.2.2.2.2.2.2.2.2.2.2.1
theorem dX8_next1_127 : decode cX8_next1 127 = .ok (.ifCond .eq 116, 3) := dg_c68.2.2.2.2.2.2.2.2.2.2.2.2.2.2.1
theorem dX8_next1_130 : decode cX8_next1 130 = .ok (.aload_n 0, 1) := dg_c68.2.2.2.2.2.2.2.2.2.2.2.2.2.2.2
theorem dg_c69 : (decode cX8_next1 131 = .ok (.iconst 2, 1)) ∧ (decode cX8_next1 132 = .ok (.putfield 99, 3)) ∧ (decode cX8_next1 135 = .ok (.aload_n 0, 1)) ∧ (decode cX8_next1 136 = .ok (.iconst 0, 1)) ∧ (decode cX8_next1 137 = .ok (.putfield 110, 3)) ∧ (decode cX8_next1 140 = .ok (.aload_n 0, 1)) ∧ (decode cX8_next1 141 = .ok (.aload_n 0, 1)) ∧ (decode cX8_next1 142 = .ok (.getfield 84, 3)) ∧ (decode cX8_next1 145 = .ok (.invokevirtual 87, 3)) ∧ (decode cX8_next1 148 = .ok (.i2l, 1)) ∧ (decode cX8_next1 149 = .ok (.ldc2_w 106, 3)) ∧ (decode cX8_next1 152 = .ok (.ldc2_w 108, 3)) ∧ (decode cX8_next1 155 = .ok (.invokestatic 68, 3)) ∧ (decode cX8_next1 158 = .ok (.ifCond .eq 59, 3)) ∧ (decode cX8_next1 161 = .ok (.aload_n 0, 1)) ∧ (decode cX8_next1 162 = .ok (.aload_n 0, 1)) := by decide +kernel
theorem dX8_next1_131 : decode cX8_next1 131 = .ok (.iconst 2, 1) := dg_c69.1
theorem dX8_next1_132 : decode cX8_next1 132 = .ok (.putfield 99, 3) := dg_c69.2.1
theorem dX8_next1_135 : decode cX8_next1 135 = .ok (.aload_n 0, 1) := dg_c69.2.2.1
theorem dX8_next1_136 : decode cX8_next1 136 = .ok (.iconst 0, 1) := dg_c69.2.2.2.1
theorem dX8_next1_137 : decode cX8_next1 137 = .ok (.putfield 110, 3) := dg_c69.2.2.2.2.1
theorem dX8_next1_140 : decode cX8_next1 140 = .ok (.aload_n 0, 1) := dg_c69.2.2.2.2.2.1
theorem dX8_next1_141 : decode cX8_next1 141 = .ok (.aload_n 0, 1) := dg_c69.2.2.2.2.2.2.1
theorem dX8_next1_142 : decode cX8_next1 142 = .ok (.getfield 84, 3) := dg_c69.2.2.2.2.2.2.2.1
theorem dX8_next1_145 : decode cX8_next1 145 = .ok (.invokevirtual 87, 3) := dg_c69.2.2.2.2.2.2.2.2.1
theorem dX8_next1_148 : decode cX8_next1 148 = .ok (.i2l, 1) := dg_c69.2.2.2.2.2.2.2.2.2.1
theorem dX8_next1_149 : decode cX8_next1 149 = .ok (.ldc2_w 106, 3) := dg_c69.2.2.2.2.2.2.2.2.2.2.1
theorem dX8_next1_152 : decode cX8_next1 152 = .ok (.ldc2_w 108, 3) := dg_c69.2.2.2.2.2.2.2.2.2.2.2.1
theorem dX8_next1_155 : decode cX8_next1 155 = .ok (.invokestatic 68, 3) := dg_c69.2.2.2.2.2.2.2.2.2.2.2.2.1
theorem dX8_next1_158 : decode cX8_next1 158 = .ok (.ifCond .eq 59, 3) := dg_c69.2.2.2.2.2.2.2.2.2.2.2.2.2.1
theorem dX8_next1_161 : decode cX8_next1 161 = .ok (.aload_n 0, 1) := dg_c69.2.2.2.2.2.2.2.2.2.2.2.2.2.2.1
theorem dX8_next1_162 : decode cX8_next1 162 = .ok (.aload_n 0, 1) := dg_c69.2.2.2.2.2.2.2.2.2.2.2.2.2.2.2
theorem dg_c70 : (decode cX8_next1 163 = .ok (.getfield 84, 3)) ∧ (decode cX8_next1 166 = .ok (.aload_n 0, 1)) ∧ (decode cX8_next1 167 = .ok (.getfield 78, 3)) ∧ (decode cX8_next1 170 = .ok (.isub, 1)) ∧ (decode cX8_next1 171 = .ok (.iconst 2, 1)) ∧ (decode cX8_next1 172 = .ok (.if_icmp .ge 25, 3)) ∧ (decode cX8_next1 175 = .ok (.bipush 10, 2)) ∧ (decode cX8_next1 177 = .ok (.aload_n 0, 1)) ∧ (decode cX8_next1 178 = .ok (.getfield 110, 3)) ∧ (decode cX8_next1 181 = .ok (.imul, 1)) ∧ (decode cX8_next1 182 = .ok (.aload_n 0, 1)) ∧ (decode cX8_next1 183 = .ok (.aload_n 0, 1)) ∧ (decode cX8_next1 184 = .ok (.getfield 84, 3)) ∧ (decode cX8_next1 187 = .ok (.invokevirtual 87, 3)) ∧ (decode cX8_next1 190 = .ok (.iadd, 1)) ∧ (decode cX8_next1 191 = .ok (.bipush 48, 2)) := by decide +kernel
theorem dX8_next1_163 : decode cX8_next1 163 = .ok (.getfield 84, 3) := dg_c70.1
theorem dX8_next1_166 : decode cX8_next1 166 = .ok (.aload_n 0, 1) := dg_c70.2.1
theorem dX8_next1_167 : decode cX8_next1 167 = .ok (.getfield 78, 3) := dg_c70.2.2.1
theorem dX8_next1_170 : decode cX8_next1 170 = .ok (.isub, 1) := dg_c70.2.2.2.1
theorem dX8_next1_171 : decode cX8_next1 171 = .ok (.iconst 2, 1) := dg_c70.2.2.2.2.1
theorem dX8_next1_172 : decode cX8_next1 172 = .ok (.if_icmp .ge 25, 3) := dg_c70.2.2.2.2.2.1
theorem dX8_next1_175 : decode cX8_next1 175 = .ok (.bipush 10, 2) := dg_c70.2.2.2.2.2.2.1
theorem dX8_next1_177 : decode cX8_next1 177 = .ok (.aload_n 0, 1) := dg_c70.2.2.2.2.2.2.2.1
theorem dX8_next1_178 : decode cX8_next1 178 = .ok (.getfield 110, 3) := dg_c70.2.2.2.2.2.2.2.2.1
theorem dX8_next1_181 : decode cX8_next1 181 = .ok (.imul, 1) := dg_c70.2.2.2.2.2.2.2.2.2.1
theorem dX8_next1_182 : decode cX8_next1 182 = .ok (.aload_n 0, 1) := dg_c70.2.2.2.2.2.2.2.2.2.2.1
theorem dX8_next1_183 : decode cX8_next1 183 = .ok (.aload_n 0, 1) := dg_c70.2.2.2.2.2.2.2.2.2.2.2.1
theorem dX8_next1_184 : decode cX8_next1 184 = .ok (.getfield 84, 3) := dg_c70.2.2.2.2.2.2.2.2.2.2.2.2.1
theorem dX8_next1_187 : decode cX8_next1 187 = .ok (.invokevirtual 87, 3) := dg_c70.2.2.2.2.2.2.2.2.2.2.2.2.2.1
theorem dX8_next1_190 : decode cX8_next1 190 = .ok (.iadd, 1) := dg_c70.2.2.2.2.2.2.2.2.2.2.2.2.2.2.1
theorem dX8_next1_191 : decode cX8_next1 191 = .ok (.bipush 48, 2) := dg_c70.2.2.2.2.2.2.2.2.2.2.2.2.2.2.2
theorem dg_c71 : (decode cX8_next1 193 = .ok (.isub, 1)) ∧ (decode cX8_next1 194 = .ok (.goto 7, 3)) ∧ (decode cX8_next1 197 = .ok (.aload_n 0, 1)) ∧ (decode cX8_next1 198 = .ok (.getfield 110, 3)) ∧ (decode cX8_next1 201 = .ok (.putfield 110, 3)) ∧ (decode cX8_next1 204 = .ok (.aload_n 0, 1)) ∧ (decode cX8_next1 205 = .ok (.dup, 1)) ∧ (decode cX8_next1 206 = .ok (.getfield 84, 3)) ∧ (decode cX8_next1 209 = .ok (.iconst 1, 1)) ∧ (decode cX8_next1 210 = .ok (.iadd, 1)) ∧ (decode cX8_next1 211 = .ok (.putfield 84, 3)) ∧ (decode cX8_next1 214 = .ok (.goto (-74), 3)) ∧ (decode cX8_next1 217 = .ok (.aload_n 0, 1)) ∧ (decode cX8_next1 218 = .ok (.aload_n 0, 1)) ∧ (decode cX8_next1 219 = .ok (.getfield 84, 3)) ∧ (decode cX8_next1 222 = .ok (.aload_n 0, 1)) := by decide +kernel
theorem dX8_next1_193 : decode cX8_next1 193 = .ok (.isub, 1) := dg_c71.1
theorem dX8_next1_194 : decode cX8_next1 194 = .ok (.goto 7, 3) := dg_c71.2.1
theorem dX8_next1_197 : decode cX8_next1 197 = .ok (.aload_n 0, 1) := dg_c71.2.2.1
theorem dX8_next1_198 : decode cX8_next1 198 = .ok (.getfield 110, 3) := dg_c71.2.2.2.1
theorem dX8_next1_201 : decode cX8_next1 201 = .ok (.putfield 110, 3) := dg_c71.2.2.2.2.1
theorem dX8_next1_204 : decode cX8_next1 204 = .ok (.aload_n 0, 1) := dg_c71.2.2.2.2.2.1
theorem dX8_next1_205 : decode cX8_next1 205 = .ok (.dup, 1) := dg_c71.2.2.2.2.2.2.1
theorem dX8_next1_206 : decode cX8_next1 206 = .ok (.getfield 84, 3) := dg_c71.2.2.2.2.2.2.2.1
theorem dX8_next1_209 : decode cX8_next1 209 = .ok (.iconst 1, 1) := dg_c71.2.2.2.2.2.2.2.2.1
theorem dX8_next1_210 : decode cX8_next1 210 = .ok (.iadd, 1) := dg_c71.2.2.2.2.2.2.2.2.2.1
theorem dX8_next1_211 : decode cX8_next1 211 = .ok (.putfield 84, 3) := dg_c71.2.2.2.2.2.2.2.2.2.2.1
theorem dX8_next1_214 : decode cX8_next1 214 = .ok (.goto (-74), 3) := dg_c71.2.2.2.2.2.2.2.2.2.2.2.1
theorem dX8_next1_217 : decode cX8_next1 217 = .ok (.aload_n 0, 1) := dg_c71.2.2.2.2.2.2.2.2.2.2.2.2.1
theorem dX8_next1_218 : decode cX8_next1 218 = .ok (.aload_n 0, 1) := dg_c71.2.2.2.2.2.2.2.2.2.2.2.2.2.1
theorem dX8_next1_219 : decode cX8_next1 219 = .ok (.getfield 84, 3) := dg_c71.2.2.2.2.2.2.2.2.2.2.2.2.2.2.1
theorem dX8_next1_222 : decode cX8_next1 222 = .ok (.aload_n 0, 1) := dg_c71.2.2.2.2.2.2.2.2.2.2.2.2.2.2.2
theorem dg_c72 : (decode cX8_next1 223 = .ok (.getfield 78, 3)) ∧ (decode cX8_next1 226 = .ok (.isub, 1)) ∧ (decode cX8_next1 227 = .ok (.iconst 2, 1)) ∧ (decode cX8_next1 228 = .ok (.if_icmp .gt 7, 3)) ∧ (decode cX8_next1 231 = .ok (.iconst 1, 1)) ∧ (decode cX8_next1 232 = .ok (.goto 4, 3)) ∧ (decode cX8_next1 235 = .ok (.iconst 0, 1)) ∧ (decode cX8_next1 236 = .ok (.iconst 1, 1)) ∧ (decode cX8_next1 237 = .ok (.invokevirtual 113, 3)) ∧ (decode cX8_next1 240 = .ok (.goto 34, 3)) ∧ (decode cX8_next1 243 = .ok (.aload_n 0, 1)) ∧ (decode cX8_next1 244 = .ok (.iconst 3, 1)) ∧ (decode cX8_next1 245 = .ok (.putfield 99, 3)) ∧ (decode cX8_next1 248 = .ok (.aload_n 0, 1)) ∧ (decode cX8_next1 249 = .ok (.iload_n 1, 1)) ∧ (decode cX8_next1 250 = .ok (.bipush 59, 2)) := by decide +kernel
theorem dX8_next1_223 : decode cX8_next1 223 = .ok (.getfield 78, 3) := dg_c72.1
theorem dX8_next1_226 : decode cX8_next1 226 = .ok (.isub, 1) := dg_c72.2.1
theorem dX8_next1_227 : decode cX8_next1 227 = .ok (.iconst 2, 1) := dg_c72.2.2.1
theorem dX8_next1_228 : decode cX8_next1 228 = .ok (.if_icmp .gt 7, 3) := dg_c72.2.2.2.1
theorem dX8_next1_231 : decode cX8_next1 231 = .ok (.iconst 1, 1) := dg_c72.2.2.2.2.1
theorem dX8_next1_232 : decode cX8_next1 232 = .ok (.goto 4, 3) := dg_c72.2.2.2.2.2.1
theorem dX8_next1_235 : decode cX8_next1 235 = .ok (.iconst 0, 1) := dg_c72.2.2.2.2.2.2.1
theorem dX8_next1_236 : decode cX8_next1 236 = .ok (.iconst 1, 1) := dg_c72.2.2.2.2.2.2.2.1
theorem dX8_next1_237 : decode cX8_next1 237 = .ok (.invokevirtual 113, 3) := dg_c72.2.2.2.2.2.2.2.2.1
theorem dX8_next1_240 : decode cX8_next1 240 = .ok (.goto 34, 3) := dg_c72.2.2.2.2.2.2.2.2.2.1
theorem dX8_next1_243 : decode cX8_next1 243 = .ok (.aload_n 0, 1) := dg_c72.2.2.2.2.2.2.2.2.2.2.1
theorem dX8_next1_244 : decode cX8_next1 244 = .ok (.iconst 3, 1) := dg_c72.2.2.2.2.2.2.2.2.2.2.2.1
theorem dX8_next1_245 : decode cX8_next1 245 = .ok (.putfield 99, 3) := dg_c72.2.2.2.2.2.2.2.2.2.2.2.2.1
theorem dX8_next1_248 : decode cX8_next1 248 = .ok (.aload_n 0, 1) := dg_c72.2.2.2.2.2.2.2.2.2.2.2.2.2.1
theorem dX8_next1_249 : decode cX8_next1 249 = .ok (.iload_n 1, 1) := dg_c72.2.2.2.2.2.2.2.2.2.2.2.2.2.2.1
theorem dX8_next1_250 : decode cX8_next1 250 = .ok (.bipush 59, 2) := dg_c72.2.2.2.2.2.2.2.2.2.2.2.2.2.2.2
theorem dg_c73 : (decode cX8_next1 252 = .ok (.if_icmp .ne 7, 3)) ∧ (decode cX8_next1 255 = .ok (.iconst 1, 1)) ∧ (decode cX8_next1 256 = .ok (.goto 4, 3)) ∧ (decode cX8_next1 259 = .ok (.iconst 0, 1)) ∧ (decode cX8_next1 260 = .ok (.iconst 1, 1)) ∧ (decode cX8_next1 261 = .ok (.invokevirtual 113, 3)) ∧ (decode cX8_next1 264 = .ok (.aload_n 0, 1)) ∧ (decode cX8_next1 265 = .ok (.dup, 1)) ∧ (decode cX8_next1 266 = .ok (.getfield 84, 3)) ∧ (decode cX8_next1 269 = .ok (.iconst 1, 1)) ∧ (decode cX8_next1 270 = .ok (.iadd, 1)) ∧ (decode cX8_next1 271 = .ok (.putfield 84, 3)) ∧ (decode cX8_next1 274 = .ok (.return_, 1)) := by decide +kernel
theorem dX8_next1_252 : decode cX8_next1 252 = .ok (.if_icmp .ne 7, 3) := dg_c73.1
theorem dX8_next1_255 : decode cX8_next1 255 = .ok (.iconst 1, 1) := dg_c73.2.1
theorem dX8_next1_256 : decode cX8_next1 256 = .ok (.goto 4, 3) := dg_c73.2.2.1
theorem dX8_next1_259 : decode cX8_next1 259 = .ok (.iconst 0, 1) := dg_c73.2.2.2.1
theorem dX8_next1_260 : decode cX8_next1 260 = .ok (.iconst 1, 1) := dg_c73.2.2.2.2.1
theorem dX8_next1_261 : decode cX8_next1 261 = .ok (.invokevirtual 113, 3) := dg_c73.2.2.2.2.2.1
theorem dX8_next1_264 : decode cX8_next1 264 = .ok (.aload_n 0, 1) := dg_c73.2.2.2.2.2.2.1
theorem dX8_next1_265 : decode cX8_next1 265 = .ok (.dup, 1) := dg_c73.2.2.2.2.2.2.2.1
theorem dX8_next1_266 : decode cX8_next1 266 = .ok (.getfield 84, 3) := dg_c73.2.2.2.2.2.2.2.2.1
theorem dX8_next1_269 : decode cX8_next1 269 = .ok (.iconst 1, 1) := dg_c73.2.2.2.2.2.2.2.2.2.1
theorem dX8_next1_270 : decode cX8_next1 270 = .ok (.iadd, 1) := dg_c73.2.2.2.2.2.2.2.2.2.2.1
theorem dX8_next1_271 : decode cX8_next1 271 = .ok (.putfield 84, 3) := dg_c73.2.2.2.2.2.2.2.2.2.2.2.1
theorem dX8_next1_274 : decode cX8_next1 274 = .ok (.return_, 1) := dg_c73.2.2.2.2.2.2.2.2.2.2.2.2
theorem dg_c74 : (decode cX8_looked 0 = .ok (.aload_n 0, 1)) ∧ (decode cX8_looked 1 = .ok (.getfield 75, 3)) ∧ (decode cX8_looked 4 = .ok (.ifCond .ne 21, 3)) ∧ (decode cX8_looked 7 = .ok (.aload_n 0, 1)) ∧ (decode cX8_looked 8 = .ok (.aload_n 0, 1)) ∧ (decode cX8_looked 9 = .ok (.getfield 99, 3)) ∧ (decode cX8_looked 12 = .ok (.iconst 2, 1)) ∧ (decode cX8_looked 13 = .ok (.if_icmp .ne 7, 3)) ∧ (decode cX8_looked 16 = .ok (.iconst 1, 1)) ∧ (decode cX8_looked 17 = .ok (.goto 4, 3)) ∧ (decode cX8_looked 20 = .ok (.iconst 0, 1)) ∧ (decode cX8_looked 21 = .ok (.iconst 2, 1)) ∧ (decode cX8_looked 22 = .ok (.invokevirtual 113, 3)) ∧ (decode cX8_looked 25 = .ok (.aload_n 0, 1)) ∧ (decode cX8_looked 26 = .ok (.getfield 75, 3)) ∧ (decode cX8_looked 29 = .ok (.ifCond .ne 20, 3)) := by decide +kernel
theorem dX8_looked_0 : decode cX8_looked 0 = .ok (.aload_n 0, 1) := dg_c74.1
theorem dX8_looked_1 : decode cX8_looked 1 = .ok (.getfield 75, 3) := dg_c74.2.1
theorem dX8_looked_4 : decode cX8_looked 4 = .ok (.ifCond .ne 21, 3) := dg_c74.2.2.1
theorem dX8_looked_7 : decode cX8_looked 7 = .ok (.aload_n 0, 1) := dg_c74.2.2.2.1
theorem dX8_looked_8 : decode cX8_looked 8 = .ok (.aload_n 0, 1) := dg_c74.2.2.2.2.1
theorem dX8_looked_9 : decode cX8_looked 9 = .ok (.getfield 99, 3) := dg_c74.2.2.2.2.2.1
theorem dX8_looked_12 : decode cX8_looked 12 = .ok (.iconst 2, 1) := dg_c74.2.2.2.2.2.2.1
theorem dX8_looked_13 : decode cX8_looked 13 = .ok (.if_icmp .ne 7, 3) := dg_c74.2.2.2.2.2.2.2.1
theorem dX8_looked_16 : decode cX8_looked 16 = .ok (.iconst 1, 1) := dg_c74.2.2.2.2.2.2.2.2.1
theorem dX8_looked_17 : decode cX8_looked 17 = .ok (.goto 4, 3) := dg_c74.2.2.2.2.2.2.2.2.2.1
theorem dX8_looked_20 : decode cX8_looked 20 = .ok (.iconst 0, 1) := dg_c74.2.2.2.2.2.2.2.2.2.2.1
theorem dX8_looked_21 : decode cX8_looked 21 = .ok (.iconst 2, 1) := dg_c74.2.2.2.2.2.2.2.2.2.2.2.1
theorem dX8_looked_22 : decode cX8_looked 22 = .ok (.invokevirtual 113, 3) := dg_c74.2.2.2.2.2.2.2.2.2.2.2.2.1
theorem dX8_looked_25 : decode cX8_looked 25 = .ok (.aload_n 0, 1) := dg_c74.2.2.2.2.2.2.2.2.2.2.2.2.2.1
theorem dX8_looked_26 : decode cX8_looked 26 = .ok (.getfield 75, 3) := dg_c74.2.2.2.2.2.2.2.2.2.2.2.2.2.2.1
theorem dX8_looked_29 : decode cX8_looked 29 = .ok (.ifCond .ne 20, 3) := dg_c74.2.2.2.2.2.2.2.2.2.2.2.2.2.2.2
theorem dg_c75 : (decode cX8_looked 32 = .ok (.aload_n 0, 1)) ∧ (decode cX8_looked 33 = .ok (.aload_n 0, 1)) ∧ (decode cX8_looked 34 = .ok (.getfield 110, 3)) ∧ (decode cX8_looked 37 = .ok (.i2l, 1)) ∧ (decode cX8_looked 38 = .ok (.iload_n 1, 1)) ∧ (decode cX8_looked 39 = .ok (.i2l, 1)) ∧ (decode cX8_looked 40 = .ok (.iload_n 2, 1)) ∧ (decode cX8_looked 41 = .ok (.i2l, 1)) ∧ (decode cX8_looked 42 = .ok (.invokestatic 68, 3)) ∧ (decode cX8_looked 45 = .ok (.iconst 3, 1)) ∧ (decode cX8_looked 46 = .ok (.invokevirtual 113, 3)) ∧ (decode cX8_looked 49 = .ok (.aload_n 0, 1)) ∧ (decode cX8_looked 50 = .ok (.getfield 75, 3)) ∧ (decode cX8_looked 53 = .ok (.ifCond .ne 10, 3)) ∧ (decode cX8_looked 56 = .ok (.aload_n 0, 1)) ∧ (decode cX8_looked 57 = .ok (.getfield 110, 3)) := by decide +kernel
theorem dX8_looked_32 : decode cX8_looked 32 = .ok (.aload_n 0, 1) := dg_c75.1
theorem dX8_looked_33 : decode cX8_looked 33 = .ok (.aload_n 0, 1) := dg_c75.2.1
theorem dX8_looked_34 : decode cX8_looked 34 = .ok (.getfield 110, 3) := dg_c75.2.2.1
theorem dX8_looked_37 : decode cX8_looked 37 = .ok (.i2l, 1) := dg_c75.2.2.2.1
theorem dX8_looked_38 : decode cX8_looked 38 = .ok (.iload_n 1, 1) := dg_c75.2.2.2.2.1
theorem dX8_looked_39 : decode cX8_looked 39 = .ok (.i2l, 1) := dg_c75.2.2.2.2.2.1
theorem dX8_looked_40 : decode cX8_looked 40 = .ok (.iload_n 2, 1) := dg_c75.2.2.2.2.2.2.1
theorem dX8_looked_41 : decode cX8_looked 41 = .ok (.i2l, 1) := dg_c75.2.2.2.2.2.2.2.1
theorem dX8_looked_42 : decode cX8_looked 42 = .ok (.invokestatic 68, 3) := dg_c75.2.2.2.2.2.2.2.2.1
theorem dX8_looked_45 : decode cX8_looked 45 = .ok (.iconst 3, 1) := dg_c75.2.2.2.2.2.2.2.2.2.1
theorem dX8_looked_46 : decode cX8_looked 46 = .ok (.invokevirtual 113, 3) := dg_c75.2.2.2.2.2.2.2.2.2.2.1
theorem dX8_looked_49 : decode cX8_looked 49 = .ok (.aload_n 0, 1) := dg_c75.2.2.2.2.2.2.2.2.2.2.2.1
theorem dX8_looked_50 : decode cX8_looked 50 = .ok (.getfield 75, 3) := dg_c75.2.2.2.2.2.2.2.2.2.2.2.2.1
theorem dX8_looked_53 : decode cX8_looked 53 = .ok (.ifCond .ne 10, 3) := dg_c75.2.2.2.2.2.2.2.2.2.2.2.2.2.1
theorem dX8_looked_56 : decode cX8_looked 56 = .ok (.aload_n 0, 1) := dg_c75.2.2.2.2.2.2.2.2.2.2.2.2.2.2.1
theorem dX8_looked_57 : decode cX8_looked 57 = .ok (.getfield 110, 3) := dg_c75.2.2.2.2.2.2.2.2.2.2.2.2.2.2.2
theorem dg_c76 : (decode cX8_looked 60 = .ok (.goto 4, 3)) ∧ (decode cX8_looked 63 = .ok (.iconst 0, 1)) ∧ (decode cX8_looked 64 = .ok (.ireturn, 1)) := by decide +kernel
theorem dX8_looked_60 : decode cX8_looked 60 = .ok (.goto 4, 3) := dg_c76.1
theorem dX8_looked_63 : decode cX8_looked 63 = .ok (.iconst 0, 1) := dg_c76.2.1
theorem dX8_looked_64 : decode cX8_looked 64 = .ok (.ireturn, 1) := dg_c76.2.2
theorem dg_c77 : (decode cX8_readNumber 0 = .ok (.aload_n 0, 1)) ∧ (decode cX8_readNumber 1 = .ok (.iload_n 1, 1)) ∧ (decode cX8_readNumber 2 = .ok (.iload_n 2, 1)) ∧ (decode cX8_readNumber 3 = .ok (.invokevirtual 117, 3)) ∧ (decode cX8_readNumber 6 = .ok (.istore_n 3, 1)) ∧ (decode cX8_readNumber 7 = .ok (.aload_n 0, 1)) ∧ (decode cX8_readNumber 8 = .ok (.invokevirtual 121, 3)) ∧ (decode cX8_readNumber 11 = .ok (.iload_n 3, 1)) ∧ (decode cX8_readNumber 12 = .ok (.ireturn, 1)) := by decide +kernel
theorem dX8_readNumber_0 : decode cX8_readNumber 0 = .ok (.aload_n 0, 1) := dg_c77.1
theorem dX8_readNumber_1 : decode cX8_readNumber 1 = .ok (.iload_n 1, 1) := dg_c77.2.1
theorem dX8_readNumber_2 : decode cX8_readNumber 2 = .ok (.iload_n 2, 1) := dg_c77.2.2.1
theorem dX8_readNumber_3 : decode cX8_readNumber 3 = .ok (.invokevirtual 117, 3) := dg_c77.2.2.2.1
theorem dX8_readNumber_6 : decode cX8_readNumber 6 = .ok (.istore_n 3, 1) := dg_c77.2.2.2.2.1
theorem dX8_readNumber_7 : decode cX8_readNumber 7 = .ok (.aload_n 0, 1) := dg_c77.2.2.2.2.2.1
theorem dX8_readNumber_8 : decode cX8_readNumber 8 = .ok (.invokevirtual 121, 3) := dg_c77.2.2.2.2.2.2.1
theorem dX8_readNumber_11 : decode cX8_readNumber 11 = .ok (.iload_n 3, 1) := dg_c77.2.2.2.2.2.2.2.1
theorem dX8_readNumber_12 : decode cX8_readNumber 12 = .ok (.ireturn, 1) := dg_c77.2.2.2.2.2.2.2.2
theorem dg_c78 : (decode cX8_readStar 0 = .ok (.iconst 4, 1)) ∧ (decode cX8_readStar 1 = .ok (.aload_n 0, 1)) ∧ (decode cX8_readStar 2 = .ok (.getfield 44, 3)) ∧ (decode cX8_readStar 5 = .ok (.imul, 1)) ∧ (decode cX8_readStar 6 = .ok (.istore_n 1, 1)) ∧ (decode cX8_readStar 7 = .ok (.aload_n 0, 1)) ∧ (decode cX8_readStar 8 = .ok (.getfield 20, 3)) ∧ (decode cX8_readStar 11 = .ok (.iload_n 1, 1)) ∧ (decode cX8_readStar 12 = .ok (.iconst 0, 1)) ∧ (decode cX8_readStar 13 = .ok (.iadd, 1)) ∧ (decode cX8_readStar 14 = .ok (.aload_n 0, 1)) ∧ (decode cX8_readStar 15 = .ok (.iconst 0, 1)) ∧ (decode cX8_readStar 16 = .ok (.bipush 9, 2)) ∧ (decode cX8_readStar 18 = .ok (.invokevirtual 124, 3)) ∧ (decode cX8_readStar 21 = .ok (.iastore, 1)) ∧ (decode cX8_readStar 22 = .ok (.aload_n 0, 1)) := by decide +kernel
theorem dX8_readStar_0 : decode cX8_readStar 0 = .ok (.iconst 4, 1) := dg_c78.1
theorem dX8_readStar_1 : decode cX8_readStar 1 = .ok (.aload_n 0, 1) := dg_c78.2.1
theorem dX8_readStar_2 : decode cX8_readStar 2 = .ok (.getfield 44, 3) := dg_c78.2.2.1
theorem dX8_readStar_5 : decode cX8_readStar 5 = .ok (.imul, 1) := dg_c78.2.2.2.1
theorem dX8_readStar_6 : decode cX8_readStar 6 = .ok (.istore_n 1, 1) := dg_c78.2.2.2.2.1
theorem dX8_readStar_7 : decode cX8_readStar 7 = .ok (.aload_n 0, 1) := dg_c78.2.2.2.2.2.1
theorem dX8_readStar_8 : decode cX8_readStar 8 = .ok (.getfield 20, 3) := dg_c78.2.2.2.2.2.2.1
theorem dX8_readStar_11 : decode cX8_readStar 11 = .ok (.iload_n 1, 1) := dg_c78.2.2.2.2.2.2.2.1
theorem dX8_readStar_12 : decode cX8_readStar 12 = .ok (.iconst 0, 1) := dg_c78.2.2.2.2.2.2.2.2.1
theorem dX8_readStar_13 : decode cX8_readStar 13 = .ok (.iadd, 1) := dg_c78.2.2.2.2.2.2.2.2.2.1
theorem dX8_readStar_14 : decode cX8_readStar 14 = .ok (.aload_n 0, 1) := dg_c78.2.2.2.2.2.2.2.2.2.2.1
theorem dX8_readStar_15 : decode cX8_readStar 15 = .ok (.iconst 0, 1) := dg_c78.2.2.2.2.2.2.2.2.2.2.2.1
theorem dX8_readStar_16 : decode cX8_readStar 16 = .ok (.bipush 9, 2) := dg_c78.2.2.2.2.2.2.2.2.2.2.2.2.1
theorem dX8_readStar_18 : decode cX8_readStar 18 = .ok (.invokevirtual 124, 3) := dg_c78.2.2.2.2.2.2.2.2.2.2.2.2.2.1
theorem dX8_readStar_21 : decode cX8_readStar 21 = .ok (.iastore, 1) := dg_c78.2.2.2.2.2.2.2.2.2.2.2.2.2.2.1
theorem dX8_readStar_22 : decode cX8_readStar 22 = .ok (.aload_n 0, 1) := dg_c78.2.2.2.2.2.2.2.2.2.2.2.2.2.2.2
theorem dg_c79 : (decode cX8_readStar 23 = .ok (.getfield 20, 3)) ∧ (decode cX8_readStar 26 = .ok (.iload_n 1, 1)) ∧ (decode cX8_readStar 27 = .ok (.iconst 1, 1)) ∧ (decode cX8_readStar 28 = .ok (.iadd, 1)) ∧ (decode cX8_readStar 29 = .ok (.aload_n 0, 1)) ∧ (decode cX8_readStar 30 = .ok (.aload_n 0, 1)) ∧ (decode cX8_readStar 31 = .ok (.getfield 20, 3)) ∧ (decode cX8_readStar 34 = .ok (.iload_n 1, 1)) ∧ (decode cX8_readStar 35 = .ok (.iconst 0, 1)) ∧ (decode cX8_readStar 36 = .ok (.iadd, 1)) ∧ (decode cX8_readStar 37 = .ok (.iaload, 1)) ∧ (decode cX8_readStar 38 = .ok (.bipush 9, 2)) ∧ (decode cX8_readStar 40 = .ok (.invokevirtual 124, 3)) ∧ (decode cX8_readStar 43 = .ok (.iastore, 1)) ∧ (decode cX8_readStar 44 = .ok (.aload_n 0, 1)) ∧ (decode cX8_readStar 45 = .ok (.getfield 20, 3)) := by decide +kernel
theorem dX8_readStar_23 : decode cX8_readStar 23 = .ok (.getfield 20, 3) := dg_c79.1
theorem dX8_readStar_26 : decode cX8_readStar 26 = .ok (.iload_n 1, 1) := dg_c79.2.1
theorem dX8_readStar_27 : decode cX8_readStar 27 = .ok (.iconst 1, 1) := dg_c79.2.2.1
theorem dX8_readStar_28 : decode cX8_readStar 28 = .ok (.iadd, 1) := dg_c79.2.2.2.1
theorem dX8_readStar_29 : decode cX8_readStar 29 = .ok (.aload_n 0, 1) := dg_c79.2.2.2.2.1
theorem dX8_readStar_30 : decode cX8_readStar 30 = .ok (.aload_n 0, 1) := dg_c79.2.2.2.2.2.1
theorem dX8_readStar_31 : decode cX8_readStar 31 = .ok (.getfield 20, 3) := dg_c79.2.2.2.2.2.2.1
theorem dX8_readStar_34 : decode cX8_readStar 34 = .ok (.iload_n 1, 1) := dg_c79.2.2.2.2.2.2.2.1
theorem dX8_readStar_35 : decode cX8_readStar 35 = .ok (.iconst 0, 1) := dg_c79.2.2.2.2.2.2.2.2.1
theorem dX8_readStar_36 : decode cX8_readStar 36 = .ok (.iadd, 1) := dg_c79.2.2.2.2.2.2.2.2.2.1
theorem dX8_readStar_37 : decode cX8_readStar 37 = .ok (.iaload, 1) := dg_c79.2.2.2.2.2.2.2.2.2.2.1
theorem dX8_readStar_38 : decode cX8_readStar 38 = .ok (.bipush 9, 2) := dg_c79.2.2.2.2.2.2.2.2.2.2.2.1
theorem dX8_readStar_40 : decode cX8_readStar 40 = .ok (.invokevirtual 124, 3) := dg_c79.2.2.2.2.2.2.2.2.2.2.2.2.1
theorem dX8_readStar_43 : decode cX8_readStar 43 = .ok (.iastore, 1) := dg_c79.2.2.2.2.2.2.2.2.2.2.2.2.2.1
theorem dX8_readStar_44 : decode cX8_readStar 44 = .ok (.aload_n 0, 1) := dg_c79.2.2.2.2.2.2.2.2.2.2.2.2.2.2.1
theorem dX8_readStar_45 : decode cX8_readStar 45 = .ok (.getfield 20, 3) := dg_c79.2.2.2.2.2.2.2.2.2.2.2.2.2.2.2
theorem dg_c80 : (decode cX8_readStar 48 = .ok (.iload_n 1, 1)) ∧ (decode cX8_readStar 49 = .ok (.iconst 2, 1)) ∧ (decode cX8_readStar 50 = .ok (.iadd, 1)) ∧ (decode cX8_readStar 51 = .ok (.aload_n 0, 1)) ∧ (decode cX8_readStar 52 = .ok (.iconst 0, 1)) ∧ (decode cX8_readStar 53 = .ok (.bipush 6, 2)) ∧ (decode cX8_readStar 55 = .ok (.invokevirtual 124, 3)) ∧ (decode cX8_readStar 58 = .ok (.iastore, 1)) ∧ (decode cX8_readStar 59 = .ok (.aload_n 0, 1)) ∧ (decode cX8_readStar 60 = .ok (.dup, 1)) ∧ (decode cX8_readStar 61 = .ok (.getfield 44, 3)) ∧ (decode cX8_readStar 64 = .ok (.iconst 1, 1)) ∧ (decode cX8_readStar 65 = .ok (.iadd, 1)) ∧ (decode cX8_readStar 66 = .ok (.putfield 44, 3)) ∧ (decode cX8_readStar 69 = .ok (.return_, 1)) := by decide +kernel
theorem dX8_readStar_48 : decode cX8_readStar 48 = .ok (.iload_n 1, 1) := dg_c80.1
theorem dX8_readStar_49 : decode cX8_readStar 49 = .ok (.iconst 2, 1) := dg_c80.2.1
theorem dX8_readStar_50 : decode cX8_readStar 50 = .ok (.iadd, 1) := dg_c80.2.2.1
theorem dX8_readStar_51 : decode cX8_readStar 51 = .ok (.aload_n 0, 1) := dg_c80.2.2.2.1
theorem dX8_readStar_52 : decode cX8_readStar 52 = .ok (.iconst 0, 1) := dg_c80.2.2.2.2.1
theorem dX8_readStar_53 : decode cX8_readStar 53 = .ok (.bipush 6, 2) := dg_c80.2.2.2.2.2.1
theorem dX8_readStar_55 : decode cX8_readStar 55 = .ok (.invokevirtual 124, 3) := dg_c80.2.2.2.2.2.2.1
theorem dX8_readStar_58 : decode cX8_readStar 58 = .ok (.iastore, 1) := dg_c80.2.2.2.2.2.2.2.1
theorem dX8_readStar_59 : decode cX8_readStar 59 = .ok (.aload_n 0, 1) := dg_c80.2.2.2.2.2.2.2.2.1
theorem dX8_readStar_60 : decode cX8_readStar 60 = .ok (.dup, 1) := dg_c80.2.2.2.2.2.2.2.2.2.1
theorem dX8_readStar_61 : decode cX8_readStar 61 = .ok (.getfield 44, 3) := dg_c80.2.2.2.2.2.2.2.2.2.2.1
theorem dX8_readStar_64 : decode cX8_readStar 64 = .ok (.iconst 1, 1) := dg_c80.2.2.2.2.2.2.2.2.2.2.2.1
theorem dX8_readStar_65 : decode cX8_readStar 65 = .ok (.iadd, 1) := dg_c80.2.2.2.2.2.2.2.2.2.2.2.2.1
theorem dX8_readStar_66 : decode cX8_readStar 66 = .ok (.putfield 44, 3) := dg_c80.2.2.2.2.2.2.2.2.2.2.2.2.2.1
theorem dX8_readStar_69 : decode cX8_readStar 69 = .ok (.return_, 1) := dg_c80.2.2.2.2.2.2.2.2.2.2.2.2.2.2
theorem dg_c81 : (decode cX8_readKnown 0 = .ok (.aload_n 0, 1)) ∧ (decode cX8_readKnown 1 = .ok (.iconst 0, 1)) ∧ (decode cX8_readKnown 2 = .ok (.iconst 4, 1)) ∧ (decode cX8_readKnown 3 = .ok (.invokevirtual 117, 3)) ∧ (decode cX8_readKnown 6 = .ok (.istore_n 1, 1)) ∧ (decode cX8_readKnown 7 = .ok (.aload_n 0, 1)) ∧ (decode cX8_readKnown 8 = .ok (.getfield 75, 3)) ∧ (decode cX8_readKnown 11 = .ok (.ifCond .ne 56, 3)) ∧ (decode cX8_readKnown 14 = .ok (.aload_n 0, 1)) ∧ (decode cX8_readKnown 15 = .ok (.aload_n 0, 1)) ∧ (decode cX8_readKnown 16 = .ok (.getfield 51, 3)) ∧ (decode cX8_readKnown 19 = .ok (.iload_n 1, 1)) ∧ (decode cX8_readKnown 20 = .ok (.ishr, 1)) ∧ (decode cX8_readKnown 21 = .ok (.iconst 1, 1)) ∧ (decode cX8_readKnown 22 = .ok (.iand, 1)) ∧ (decode cX8_readKnown 23 = .ok (.ifCond .ne 7, 3)) := by decide +kernel
theorem dX8_readKnown_0 : decode cX8_readKnown 0 = .ok (.aload_n 0, 1) := dg_c81.1
theorem dX8_readKnown_1 : decode cX8_readKnown 1 = .ok (.iconst 0, 1) := dg_c81.2.1
theorem dX8_readKnown_2 : decode cX8_readKnown 2 = .ok (.iconst 4, 1) := dg_c81.2.2.1
theorem dX8_readKnown_3 : decode cX8_readKnown 3 = .ok (.invokevirtual 117, 3) := dg_c81.2.2.2.1
theorem dX8_readKnown_6 : decode cX8_readKnown 6 = .ok (.istore_n 1, 1) := dg_c81.2.2.2.2.1
theorem dX8_readKnown_7 : decode cX8_readKnown 7 = .ok (.aload_n 0, 1) := dg_c81.2.2.2.2.2.1
theorem dX8_readKnown_8 : decode cX8_readKnown 8 = .ok (.getfield 75, 3) := dg_c81.2.2.2.2.2.2.1
theorem dX8_readKnown_11 : decode cX8_readKnown 11 = .ok (.ifCond .ne 56, 3) := dg_c81.2.2.2.2.2.2.2.1
theorem dX8_readKnown_14 : decode cX8_readKnown 14 = .ok (.aload_n 0, 1) := dg_c81.2.2.2.2.2.2.2.2.1
theorem dX8_readKnown_15 : decode cX8_readKnown 15 = .ok (.aload_n 0, 1) := dg_c81.2.2.2.2.2.2.2.2.2.1
theorem dX8_readKnown_16 : decode cX8_readKnown 16 = .ok (.getfield 51, 3) := dg_c81.2.2.2.2.2.2.2.2.2.2.1
theorem dX8_readKnown_19 : decode cX8_readKnown 19 = .ok (.iload_n 1, 1) := dg_c81.2.2.2.2.2.2.2.2.2.2.2.1
theorem dX8_readKnown_20 : decode cX8_readKnown 20 = .ok (.ishr, 1) := dg_c81.2.2.2.2.2.2.2.2.2.2.2.2.1
theorem dX8_readKnown_21 : decode cX8_readKnown 21 = .ok (.iconst 1, 1) := dg_c81.2.2.2.2.2.2.2.2.2.2.2.2.2.1
theorem dX8_readKnown_22 : decode cX8_readKnown 22 = .ok (.iand, 1) := dg_c81.2.2.2.2.2.2.2.2.2.2.2.2.2.2.1
theorem dX8_readKnown_23 : decode cX8_readKnown 23 = .ok (.ifCond .ne 7, 3) := dg_c81.2.2.2.2.2.2.2.2.2.2.2.2.2.2.2
theorem dg_c82 : (decode cX8_readKnown 26 = .ok (.iconst 1, 1)) ∧ (decode cX8_readKnown 27 = .ok (.goto 4, 3)) ∧ (decode cX8_readKnown 30 = .ok (.iconst 0, 1)) ∧ (decode cX8_readKnown 31 = .ok (.iconst 4, 1)) ∧ (decode cX8_readKnown 32 = .ok (.invokevirtual 113, 3)) ∧ (decode cX8_readKnown 35 = .ok (.aload_n 0, 1)) ∧ (decode cX8_readKnown 36 = .ok (.dup, 1)) ∧ (decode cX8_readKnown 37 = .ok (.getfield 51, 3)) ∧ (decode cX8_readKnown 40 = .ok (.iconst 1, 1)) ∧ (decode cX8_readKnown 41 = .ok (.iload_n 1, 1)) ∧ (decode cX8_readKnown 42 = .ok (.ishl, 1)) ∧ (decode cX8_readKnown 43 = .ok (.ior, 1)) ∧ (decode cX8_readKnown 44 = .ok (.putfield 51, 3)) ∧ (decode cX8_readKnown 47 = .ok (.aload_n 0, 1)) ∧ (decode cX8_readKnown 48 = .ok (.iload_n 1, 1)) ∧ (decode cX8_readKnown 49 = .ok (.aload_n 0, 1)) := by decide +kernel
theorem dX8_readKnown_26 : decode cX8_readKnown 26 = .ok (.iconst 1, 1) := dg_c82.1
theorem dX8_readKnown_27 : decode cX8_readKnown 27 = .ok (.goto 4, 3) := dg_c82.2.1
theorem dX8_readKnown_30 : decode cX8_readKnown 30 = .ok (.iconst 0, 1) := dg_c82.2.2.1
theorem dX8_readKnown_31 : decode cX8_readKnown 31 = .ok (.iconst 4, 1) := dg_c82.2.2.2.1
theorem dX8_readKnown_32 : decode cX8_readKnown 32 = .ok (.invokevirtual 113, 3) := dg_c82.2.2.2.2.1
theorem dX8_readKnown_35 : decode cX8_readKnown 35 = .ok (.aload_n 0, 1) := dg_c82.2.2.2.2.2.1
theorem dX8_readKnown_36 : decode cX8_readKnown 36 = .ok (.dup, 1) := dg_c82.2.2.2.2.2.2.1
theorem dX8_readKnown_37 : decode cX8_readKnown 37 = .ok (.getfield 51, 3) := dg_c82.2.2.2.2.2.2.2.1
theorem dX8_readKnown_40 : decode cX8_readKnown 40 = .ok (.iconst 1, 1) := dg_c82.2.2.2.2.2.2.2.2.1
theorem dX8_readKnown_41 : decode cX8_readKnown 41 = .ok (.iload_n 1, 1) := dg_c82.2.2.2.2.2.2.2.2.2.1
theorem dX8_readKnown_42 : decode cX8_readKnown 42 = .ok (.ishl, 1) := dg_c82.2.2.2.2.2.2.2.2.2.2.1
theorem dX8_readKnown_43 : decode cX8_readKnown 43 = .ok (.ior, 1) := dg_c82.2.2.2.2.2.2.2.2.2.2.2.1
theorem dX8_readKnown_44 : decode cX8_readKnown 44 = .ok (.putfield 51, 3) := dg_c82.2.2.2.2.2.2.2.2.2.2.2.2.1
theorem dX8_readKnown_47 : decode cX8_readKnown 47 = .ok (.aload_n 0, 1) := dg_c82.2.2.2.2.2.2.2.2.2.2.2.2.2.1
theorem dX8_readKnown_48 : decode cX8_readKnown 48 = .ok (.iload_n 1, 1) := dg_c82.2.2.2.2.2.2.2.2.2.2.2.2.2.2.1
theorem dX8_readKnown_49 : decode cX8_readKnown 49 = .ok (.aload_n 0, 1) := dg_c82.2.2.2.2.2.2.2.2.2.2.2.2.2.2.2
theorem dg_c83 : (decode cX8_readKnown 50 = .ok (.getfield 57, 3)) ∧ (decode cX8_readKnown 53 = .ok (.if_icmp .le 7, 3)) ∧ (decode cX8_readKnown 56 = .ok (.iload_n 1, 1)) ∧ (decode cX8_readKnown 57 = .ok (.goto 7, 3)) ∧ (decode cX8_readKnown 60 = .ok (.aload_n 0, 1)) ∧ (decode cX8_readKnown 61 = .ok (.getfield 57, 3)) ∧ (decode cX8_readKnown 64 = .ok (.putfield 57, 3)) ∧ (decode cX8_readKnown 67 = .ok (.aload_n 0, 1)) ∧ (decode cX8_readKnown 68 = .ok (.invokevirtual 121, 3)) ∧ (decode cX8_readKnown 71 = .ok (.return_, 1)) := by decide +kernel
theorem dX8_readKnown_50 : decode cX8_readKnown 50 = .ok (.getfield 57, 3) := dg_c83.1
theorem dX8_readKnown_53 : decode cX8_readKnown 53 = .ok (.if_icmp .le 7, 3) := dg_c83.2.1
theorem dX8_readKnown_56 : decode cX8_readKnown 56 = .ok (.iload_n 1, 1) := dg_c83.2.2.1
theorem dX8_readKnown_57 : decode cX8_readKnown 57 = .ok (.goto 7, 3) := dg_c83.2.2.2.1
theorem dX8_readKnown_60 : decode cX8_readKnown 60 = .ok (.aload_n 0, 1) := dg_c83.2.2.2.2.1
theorem dX8_readKnown_61 : decode cX8_readKnown 61 = .ok (.getfield 57, 3) := dg_c83.2.2.2.2.2.1
theorem dX8_readKnown_64 : decode cX8_readKnown 64 = .ok (.putfield 57, 3) := dg_c83.2.2.2.2.2.2.1
theorem dX8_readKnown_67 : decode cX8_readKnown 67 = .ok (.aload_n 0, 1) := dg_c83.2.2.2.2.2.2.2.1
theorem dX8_readKnown_68 : decode cX8_readKnown 68 = .ok (.invokevirtual 121, 3) := dg_c83.2.2.2.2.2.2.2.2.1
theorem dX8_readKnown_71 : decode cX8_readKnown 71 = .ok (.return_, 1) := dg_c83.2.2.2.2.2.2.2.2.2
theorem dg_c84 : (decode cX8_readCloud 0 = .ok (.aload_n 0, 1)) ∧ (decode cX8_readCloud 1 = .ok (.iconst 0, 1)) ∧ (decode cX8_readCloud 2 = .ok (.bipush 9, 2)) ∧ (decode cX8_readCloud 4 = .ok (.invokevirtual 117, 3)) ∧ (decode cX8_readCloud 7 = .ok (.istore_n 1, 1)) ∧ (decode cX8_readCloud 8 = .ok (.aload_n 0, 1)) ∧ (decode cX8_readCloud 9 = .ok (.getfield 75, 3)) ∧ (decode cX8_readCloud 12 = .ok (.ifCond .ne 40, 3)) ∧ (decode cX8_readCloud 15 = .ok (.aload_n 0, 1)) ∧ (decode cX8_readCloud 16 = .ok (.aload_n 0, 1)) ∧ (decode cX8_readCloud 17 = .ok (.getfield 20, 3)) ∧ (decode cX8_readCloud 20 = .ok (.bipush 28, 2)) ∧ (decode cX8_readCloud 22 = .ok (.iaload, 1)) ∧ (decode cX8_readCloud 23 = .ok (.iload_n 1, 1)) ∧ (decode cX8_readCloud 24 = .ok (.ishr, 1)) ∧ (decode cX8_readCloud 25 = .ok (.iconst 1, 1)) := by decide +kernel
theorem dX8_readCloud_0 : decode cX8_readCloud 0 = .ok (.aload_n 0, 1) := dg_c84.1
theorem dX8_readCloud_1 : decode cX8_readCloud 1 = .ok (.iconst 0, 1) := dg_c84.2.1
theorem dX8_readCloud_2 : decode cX8_readCloud 2 = .ok (.bipush 9, 2) := dg_c84.2.2.1
theorem dX8_readCloud_4 : decode cX8_readCloud 4 = .ok (.invokevirtual 117, 3) := dg_c84.2.2.2.1
theorem dX8_readCloud_7 : decode cX8_readCloud 7 = .ok (.istore_n 1, 1) := dg_c84.2.2.2.2.1
theorem dX8_readCloud_8 : decode cX8_readCloud 8 = .ok (.aload_n 0, 1) := dg_c84.2.2.2.2.2.1
theorem dX8_readCloud_9 : decode cX8_readCloud 9 = .ok (.getfield 75, 3) := dg_c84.2.2.2.2.2.2.1
theorem dX8_readCloud_12 : decode cX8_readCloud 12 = .ok (.ifCond .ne 40, 3) := dg_c84.2.2.2.2.2.2.2.1
theorem dX8_readCloud_15 : decode cX8_readCloud 15 = .ok (.aload_n 0, 1) := dg_c84.2.2.2.2.2.2.2.2.1
theorem dX8_readCloud_16 : decode cX8_readCloud 16 = .ok (.aload_n 0, 1) := dg_c84.2.2.2.2.2.2.2.2.2.1
theorem dX8_readCloud_17 : decode cX8_readCloud 17 = .ok (.getfield 20, 3) := dg_c84.2.2.2.2.2.2.2.2.2.2.1
theorem dX8_readCloud_20 : decode cX8_readCloud 20 = .ok (.bipush 28, 2) := dg_c84.2.2.2.2.2.2.2.2.2.2.2.1
theorem dX8_readCloud_22 : decode cX8_readCloud 22 = .ok (.iaload, 1) := dg_c84.2.2.2.2.2.2.2.2.2.2.2.2.1
theorem dX8_readCloud_23 : decode cX8_readCloud 23 = .ok (.iload_n 1, 1) := dg_c84.2.2.2.2.2.2.2.2.2.2.2.2.2.1
theorem dX8_readCloud_24 : decode cX8_readCloud 24 = .ok (.ishr, 1) := dg_c84.2.2.2.2.2.2.2.2.2.2.2.2.2.2.1
theorem dX8_readCloud_25 : decode cX8_readCloud 25 = .ok (.iconst 1, 1) := dg_c84.2.2.2.2.2.2.2.2.2.2.2.2.2.2.2
theorem dg_c85 : (decode cX8_readCloud 26 = .ok (.iand, 1)) ∧ (decode cX8_readCloud 27 = .ok (.ifCond .ne 7, 3)) ∧ (decode cX8_readCloud 30 = .ok (.iconst 1, 1)) ∧ (decode cX8_readCloud 31 = .ok (.goto 4, 3)) ∧ (decode cX8_readCloud 34 = .ok (.iconst 0, 1)) ∧ (decode cX8_readCloud 35 = .ok (.iconst 4, 1)) ∧ (decode cX8_readCloud 36 = .ok (.invokevirtual 113, 3)) ∧ (decode cX8_readCloud 39 = .ok (.aload_n 0, 1)) ∧ (decode cX8_readCloud 40 = .ok (.getfield 20, 3)) ∧ (decode cX8_readCloud 43 = .ok (.bipush 28, 2)) ∧ (decode cX8_readCloud 45 = .ok (.dup2, 1)) ∧ (decode cX8_readCloud 46 = .ok (.iaload, 1)) ∧ (decode cX8_readCloud 47 = .ok (.iconst 1, 1)) ∧ (decode cX8_readCloud 48 = .ok (.iload_n 1, 1)) ∧ (decode cX8_readCloud 49 = .ok (.ishl, 1)) ∧ (decode cX8_readCloud 50 = .ok (.ior, 1)) := by decide +kernel
theorem dX8_readCloud_26 : decode cX8_readCloud 26 = .ok (.iand, 1) := dg_c85.1
theorem dX8_readCloud_27 : decode cX8_readCloud 27 = .ok (.ifCond .ne 7, 3) := dg_c85.2.1
theorem dX8_readCloud_30 : decode cX8_readCloud 30 = .ok (.iconst 1, 1) := dg_c85.2.2.1
theorem dX8_readCloud_31 : decode cX8_readCloud 31 = .ok (.goto 4, 3) := dg_c85.2.2.2.1
theorem dX8_readCloud_34 : decode cX8_readCloud 34 = .ok (.iconst 0, 1) := dg_c85.2.2.2.2.1
theorem dX8_readCloud_35 : decode cX8_readCloud 35 = .ok (.iconst 4, 1) := dg_c85.2.2.2.2.2.1
theorem dX8_readCloud_36 : decode cX8_readCloud 36 = .ok (.invokevirtual 113, 3) := dg_c85.2.2.2.2.2.2.1
theorem dX8_readCloud_39 : decode cX8_readCloud 39 = .ok (.aload_n 0, 1) := dg_c85.2.2.2.2.2.2.2.1
theorem dX8_readCloud_40 : decode cX8_readCloud 40 = .ok (.getfield 20, 3) := dg_c85.2.2.2.2.2.2.2.2.1
theorem dX8_readCloud_43 : decode cX8_readCloud 43 = .ok (.bipush 28, 2) := dg_c85.2.2.2.2.2.2.2.2.2.1
theorem dX8_readCloud_45 : decode cX8_readCloud 45 = .ok (.dup2, 1) := dg_c85.2.2.2.2.2.2.2.2.2.2.1
theorem dX8_readCloud_46 : decode cX8_readCloud 46 = .ok (.iaload, 1) := dg_c85.2.2.2.2.2.2.2.2.2.2.2.1
theorem dX8_readCloud_47 : decode cX8_readCloud 47 = .ok (.iconst 1, 1) := dg_c85.2.2.2.2.2.2.2.2.2.2.2.2.1
theorem dX8_readCloud_48 : decode cX8_readCloud 48 = .ok (.iload_n 1, 1) := dg_c85.2.2.2.2.2.2.2.2.2.2.2.2.2.1
theorem dX8_readCloud_49 : decode cX8_readCloud 49 = .ok (.ishl, 1) := dg_c85.2.2.2.2.2.2.2.2.2.2.2.2.2.2.1
theorem dX8_readCloud_50 : decode cX8_readCloud 50 = .ok (.ior, 1) := dg_c85.2.2.2.2.2.2.2.2.2.2.2.2.2.2.2
theorem dg_c86 : (decode cX8_readCloud 51 = .ok (.iastore, 1)) ∧ (decode cX8_readCloud 52 = .ok (.aload_n 0, 1)) ∧ (decode cX8_readCloud 53 = .ok (.invokevirtual 121, 3)) ∧ (decode cX8_readCloud 56 = .ok (.return_, 1)) := by decide +kernel
theorem dX8_readCloud_51 : decode cX8_readCloud 51 = .ok (.iastore, 1) := dg_c86.1
theorem dX8_readCloud_52 : decode cX8_readCloud 52 = .ok (.aload_n 0, 1) := dg_c86.2.1
theorem dX8_readCloud_53 : decode cX8_readCloud 53 = .ok (.invokevirtual 121, 3) := dg_c86.2.2.1
theorem dX8_readCloud_56 : decode cX8_readCloud 56 = .ok (.return_, 1) := dg_c86.2.2.2
theorem dg_c87 : (decode cX8_readPlan 0 = .ok (.aload_n 0, 1)) ∧ (decode cX8_readPlan 1 = .ok (.getfield 75, 3)) ∧ (decode cX8_readPlan 4 = .ok (.ifCond .ne 107, 3)) ∧ (decode cX8_readPlan 7 = .ok (.aload_n 0, 1)) ∧ (decode cX8_readPlan 8 = .ok (.getfield 99, 3)) ∧ (decode cX8_readPlan 11 = .ok (.iconst 2, 1)) ∧ (decode cX8_readPlan 12 = .ok (.if_icmp .ne 99, 3)) ∧ (decode cX8_readPlan 15 = .ok (.aload_n 0, 1)) ∧ (decode cX8_readPlan 16 = .ok (.aload_n 0, 1)) ∧ (decode cX8_readPlan 17 = .ok (.getfield 20, 3)) ∧ (decode cX8_readPlan 20 = .ok (.bipush 32, 2)) ∧ (decode cX8_readPlan 22 = .ok (.iaload, 1)) ∧ (decode cX8_readPlan 23 = .ok (.bipush 8, 2)) ∧ (decode cX8_readPlan 25 = .ok (.if_icmp .ge 7, 3)) ∧ (decode cX8_readPlan 28 = .ok (.iconst 1, 1)) ∧ (decode cX8_readPlan 29 = .ok (.goto 4, 3)) := by decide +kernel
theorem dX8_readPlan_0 : decode cX8_readPlan 0 = .ok (.aload_n 0, 1) := dg_c87.1
theorem dX8_readPlan_1 : decode cX8_readPlan 1 = .ok (.getfield 75, 3) := dg_c87.2.1
theorem dX8_readPlan_4 : decode cX8_readPlan 4 = .ok (.ifCond .ne 107, 3) := dg_c87.2.2.1
theorem dX8_readPlan_7 : decode cX8_readPlan 7 = .ok (.aload_n 0, 1) := dg_c87.2.2.2.1
theorem dX8_readPlan_8 : decode cX8_readPlan 8 = .ok (.getfield 99, 3) := dg_c87.2.2.2.2.1
theorem dX8_readPlan_11 : decode cX8_readPlan 11 = .ok (.iconst 2, 1) := dg_c87.2.2.2.2.2.1
theorem dX8_readPlan_12 : decode cX8_readPlan 12 = .ok (.if_icmp .ne 99, 3) := dg_c87.2.2.2.2.2.2.1
theorem dX8_readPlan_15 : decode cX8_readPlan 15 = .ok (.aload_n 0, 1) := dg_c87.2.2.2.2.2.2.2.1
theorem dX8_readPlan_16 : decode cX8_readPlan 16 = .ok (.aload_n 0, 1) := dg_c87.2.2.2.2.2.2.2.2.1
theorem dX8_readPlan_17 : decode cX8_readPlan 17 = .ok (.getfield 20, 3) := dg_c87.2.2.2.2.2.2.2.2.2.1
theorem dX8_readPlan_20 : decode cX8_readPlan 20 = .ok (.bipush 32, 2) := dg_c87.2.2.2.2.2.2.2.2.2.2.1
theorem dX8_readPlan_22 : decode cX8_readPlan 22 = .ok (.iaload, 1) := dg_c87.2.2.2.2.2.2.2.2.2.2.2.1
theorem dX8_readPlan_23 : decode cX8_readPlan 23 = .ok (.bipush 8, 2) := dg_c87.2.2.2.2.2.2.2.2.2.2.2.2.1
theorem dX8_readPlan_25 : decode cX8_readPlan 25 = .ok (.if_icmp .ge 7, 3) := dg_c87.2.2.2.2.2.2.2.2.2.2.2.2.2.1
theorem dX8_readPlan_28 : decode cX8_readPlan 28 = .ok (.iconst 1, 1) := dg_c87.2.2.2.2.2.2.2.2.2.2.2.2.2.2.1
theorem dX8_readPlan_29 : decode cX8_readPlan 29 = .ok (.goto 4, 3) := dg_c87.2.2.2.2.2.2.2.2.2.2.2.2.2.2.2
theorem dg_c88 : (decode cX8_readPlan 32 = .ok (.iconst 0, 1)) ∧ (decode cX8_readPlan 33 = .ok (.iconst 5, 1)) ∧ (decode cX8_readPlan 34 = .ok (.invokevirtual 113, 3)) ∧ (decode cX8_readPlan 37 = .ok (.aload_n 0, 1)) ∧ (decode cX8_readPlan 38 = .ok (.iconst 0, 1)) ∧ (decode cX8_readPlan 39 = .ok (.bipush 6, 2)) ∧ (decode cX8_readPlan 41 = .ok (.invokevirtual 117, 3)) ∧ (decode cX8_readPlan 44 = .ok (.istore_n 1, 1)) ∧ (decode cX8_readPlan 45 = .ok (.aload_n 0, 1)) ∧ (decode cX8_readPlan 46 = .ok (.getfield 75, 3)) ∧ (decode cX8_readPlan 49 = .ok (.ifCond .ne 55, 3)) ∧ (decode cX8_readPlan 52 = .ok (.aload_n 0, 1)) ∧ (decode cX8_readPlan 53 = .ok (.getfield 20, 3)) ∧ (decode cX8_readPlan 56 = .ok (.bipush 33, 2)) ∧ (decode cX8_readPlan 58 = .ok (.aload_n 0, 1)) ∧ (decode cX8_readPlan 59 = .ok (.getfield 20, 3)) := by decide +kernel
theorem dX8_readPlan_32 : decode cX8_readPlan 32 = .ok (.iconst 0, 1) := dg_c88.1
theorem dX8_readPlan_33 : decode cX8_readPlan 33 = .ok (.iconst 5, 1) := dg_c88.2.1
theorem dX8_readPlan_34 : decode cX8_readPlan 34 = .ok (.invokevirtual 113, 3) := dg_c88.2.2.1
theorem dX8_readPlan_37 : decode cX8_readPlan 37 = .ok (.aload_n 0, 1) := dg_c88.2.2.2.1
theorem dX8_readPlan_38 : decode cX8_readPlan 38 = .ok (.iconst 0, 1) := dg_c88.2.2.2.2.1
theorem dX8_readPlan_39 : decode cX8_readPlan 39 = .ok (.bipush 6, 2) := dg_c88.2.2.2.2.2.1
theorem dX8_readPlan_41 : decode cX8_readPlan 41 = .ok (.invokevirtual 117, 3) := dg_c88.2.2.2.2.2.2.1
theorem dX8_readPlan_44 : decode cX8_readPlan 44 = .ok (.istore_n 1, 1) := dg_c88.2.2.2.2.2.2.2.1
theorem dX8_readPlan_45 : decode cX8_readPlan 45 = .ok (.aload_n 0, 1) := dg_c88.2.2.2.2.2.2.2.2.1
theorem dX8_readPlan_46 : decode cX8_readPlan 46 = .ok (.getfield 75, 3) := dg_c88.2.2.2.2.2.2.2.2.2.1
theorem dX8_readPlan_49 : decode cX8_readPlan 49 = .ok (.ifCond .ne 55, 3) := dg_c88.2.2.2.2.2.2.2.2.2.2.1
theorem dX8_readPlan_52 : decode cX8_readPlan 52 = .ok (.aload_n 0, 1) := dg_c88.2.2.2.2.2.2.2.2.2.2.2.1
theorem dX8_readPlan_53 : decode cX8_readPlan 53 = .ok (.getfield 20, 3) := dg_c88.2.2.2.2.2.2.2.2.2.2.2.2.1
theorem dX8_readPlan_56 : decode cX8_readPlan 56 = .ok (.bipush 33, 2) := dg_c88.2.2.2.2.2.2.2.2.2.2.2.2.2.1
theorem dX8_readPlan_58 : decode cX8_readPlan 58 = .ok (.aload_n 0, 1) := dg_c88.2.2.2.2.2.2.2.2.2.2.2.2.2.2.1
theorem dX8_readPlan_59 : decode cX8_readPlan 59 = .ok (.getfield 20, 3) := dg_c88.2.2.2.2.2.2.2.2.2.2.2.2.2.2.2
theorem dg_c89 : (decode cX8_readPlan 62 = .ok (.bipush 32, 2)) ∧ (decode cX8_readPlan 64 = .ok (.iaload, 1)) ∧ (decode cX8_readPlan 65 = .ok (.iadd, 1)) ∧ (decode cX8_readPlan 66 = .ok (.iload_n 1, 1)) ∧ (decode cX8_readPlan 67 = .ok (.iastore, 1)) ∧ (decode cX8_readPlan 68 = .ok (.aload_n 0, 1)) ∧ (decode cX8_readPlan 69 = .ok (.getfield 20, 3)) ∧ (decode cX8_readPlan 72 = .ok (.bipush 32, 2)) ∧ (decode cX8_readPlan 74 = .ok (.dup2, 1)) ∧ (decode cX8_readPlan 75 = .ok (.iaload, 1)) ∧ (decode cX8_readPlan 76 = .ok (.iconst 1, 1)) ∧ (decode cX8_readPlan 77 = .ok (.iadd, 1)) ∧ (decode cX8_readPlan 78 = .ok (.iastore, 1)) ∧ (decode cX8_readPlan 79 = .ok (.aload_n 0, 1)) ∧ (decode cX8_readPlan 80 = .ok (.iload_n 1, 1)) ∧ (decode cX8_readPlan 81 = .ok (.iconst 5, 1)) := by decide +kernel
theorem dX8_readPlan_62 : decode cX8_readPlan 62 = .ok (.bipush 32, 2) := dg_c89.1
theorem dX8_readPlan_64 : decode cX8_readPlan 64 = .ok (.iaload, 1) := dg_c89.2.1
theorem dX8_readPlan_65 : decode cX8_readPlan 65 = .ok (.iadd, 1) := dg_c89.2.2.1
theorem dX8_readPlan_66 : decode cX8_readPlan 66 = .ok (.iload_n 1, 1) := dg_c89.2.2.2.1
theorem dX8_readPlan_67 : decode cX8_readPlan 67 = .ok (.iastore, 1) := dg_c89.2.2.2.2.1
theorem dX8_readPlan_68 : decode cX8_readPlan 68 = .ok (.aload_n 0, 1) := dg_c89.2.2.2.2.2.1
theorem dX8_readPlan_69 : decode cX8_readPlan 69 = .ok (.getfield 20, 3) := dg_c89.2.2.2.2.2.2.1
theorem dX8_readPlan_72 : decode cX8_readPlan 72 = .ok (.bipush 32, 2) := dg_c89.2.2.2.2.2.2.2.1
theorem dX8_readPlan_74 : decode cX8_readPlan 74 = .ok (.dup2, 1) := dg_c89.2.2.2.2.2.2.2.2.1
theorem dX8_readPlan_75 : decode cX8_readPlan 75 = .ok (.iaload, 1) := dg_c89.2.2.2.2.2.2.2.2.2.1
theorem dX8_readPlan_76 : decode cX8_readPlan 76 = .ok (.iconst 1, 1) := dg_c89.2.2.2.2.2.2.2.2.2.2.1
theorem dX8_readPlan_77 : decode cX8_readPlan 77 = .ok (.iadd, 1) := dg_c89.2.2.2.2.2.2.2.2.2.2.2.1
theorem dX8_readPlan_78 : decode cX8_readPlan 78 = .ok (.iastore, 1) := dg_c89.2.2.2.2.2.2.2.2.2.2.2.2.1
theorem dX8_readPlan_79 : decode cX8_readPlan 79 = .ok (.aload_n 0, 1) := dg_c89.2.2.2.2.2.2.2.2.2.2.2.2.2.1
theorem dX8_readPlan_80 : decode cX8_readPlan 80 = .ok (.iload_n 1, 1) := dg_c89.2.2.2.2.2.2.2.2.2.2.2.2.2.2.1
theorem dX8_readPlan_81 : decode cX8_readPlan 81 = .ok (.iconst 5, 1) := dg_c89.2.2.2.2.2.2.2.2.2.2.2.2.2.2.2
theorem dg_c90 : (decode cX8_readPlan 82 = .ok (.if_icmp .ge 15, 3)) ∧ (decode cX8_readPlan 85 = .ok (.iload_n 1, 1)) ∧ (decode cX8_readPlan 86 = .ok (.aload_n 0, 1)) ∧ (decode cX8_readPlan 87 = .ok (.getfield 57, 3)) ∧ (decode cX8_readPlan 90 = .ok (.if_icmp .le 7, 3)) ∧ (decode cX8_readPlan 93 = .ok (.iload_n 1, 1)) ∧ (decode cX8_readPlan 94 = .ok (.goto 7, 3)) ∧ (decode cX8_readPlan 97 = .ok (.aload_n 0, 1)) ∧ (decode cX8_readPlan 98 = .ok (.getfield 57, 3)) ∧ (decode cX8_readPlan 101 = .ok (.putfield 57, 3)) ∧ (decode cX8_readPlan 104 = .ok (.aload_n 0, 1)) ∧ (decode cX8_readPlan 105 = .ok (.invokevirtual 121, 3)) ∧ (decode cX8_readPlan 108 = .ok (.goto (-108), 3)) ∧ (decode cX8_readPlan 111 = .ok (.return_, 1)) := by decide +kernel
theorem dX8_readPlan_82 : decode cX8_readPlan 82 = .ok (.if_icmp .ge 15, 3) := dg_c90.1
theorem dX8_readPlan_85 : decode cX8_readPlan 85 = .ok (.iload_n 1, 1) := dg_c90.2.1
theorem dX8_readPlan_86 : decode cX8_readPlan 86 = .ok (.aload_n 0, 1) := dg_c90.2.2.1
theorem dX8_readPlan_87 : decode cX8_readPlan 87 = .ok (.getfield 57, 3) := dg_c90.2.2.2.1
theorem dX8_readPlan_90 : decode cX8_readPlan 90 = .ok (.if_icmp .le 7, 3) := dg_c90.2.2.2.2.1
theorem dX8_readPlan_93 : decode cX8_readPlan 93 = .ok (.iload_n 1, 1) := dg_c90.2.2.2.2.2.1
theorem dX8_readPlan_94 : decode cX8_readPlan 94 = .ok (.goto 7, 3) := dg_c90.2.2.2.2.2.2.1
theorem dX8_readPlan_97 : decode cX8_readPlan 97 = .ok (.aload_n 0, 1) := dg_c90.2.2.2.2.2.2.2.1
theorem dX8_readPlan_98 : decode cX8_readPlan 98 = .ok (.getfield 57, 3) := dg_c90.2.2.2.2.2.2.2.2.1
theorem dX8_readPlan_101 : decode cX8_readPlan 101 = .ok (.putfield 57, 3) := dg_c90.2.2.2.2.2.2.2.2.2.1
theorem dX8_readPlan_104 : decode cX8_readPlan 104 = .ok (.aload_n 0, 1) := dg_c90.2.2.2.2.2.2.2.2.2.2.1
theorem dX8_readPlan_105 : decode cX8_readPlan 105 = .ok (.invokevirtual 121, 3) := dg_c90.2.2.2.2.2.2.2.2.2.2.2.1
theorem dX8_readPlan_108 : decode cX8_readPlan 108 = .ok (.goto (-108), 3) := dg_c90.2.2.2.2.2.2.2.2.2.2.2.2.1
theorem dX8_readPlan_111 : decode cX8_readPlan 111 = .ok (.return_, 1) := dg_c90.2.2.2.2.2.2.2.2.2.2.2.2.2
theorem dg_c91 : (decode cX8_readLineOf 0 = .ok (.iload_n 1, 1)) ∧ (decode cX8_readLineOf 1 = .ok (.tableswitch 136 4 10 #[43, 50, 57, 64, 95, 112, 129], 43)) ∧ (decode cX8_readLineOf 44 = .ok (.aload_n 0, 1)) ∧ (decode cX8_readLineOf 45 = .ok (.invokevirtual 127, 3)) ∧ (decode cX8_readLineOf 48 = .ok (.goto 112, 3)) ∧ (decode cX8_readLineOf 51 = .ok (.aload_n 0, 1)) ∧ (decode cX8_readLineOf 52 = .ok (.invokevirtual 130, 3)) ∧ (decode cX8_readLineOf 55 = .ok (.goto 105, 3)) ∧ (decode cX8_readLineOf 58 = .ok (.aload_n 0, 1)) ∧ (decode cX8_readLineOf 59 = .ok (.invokevirtual 133, 3)) ∧ (decode cX8_readLineOf 62 = .ok (.goto 98, 3)) ∧ (decode cX8_readLineOf 65 = .ok (.aload_n 0, 1)) ∧ (decode cX8_readLineOf 66 = .ok (.getfield 20, 3)) ∧ (decode cX8_readLineOf 69 = .ok (.bipush 24, 2)) ∧ (decode cX8_readLineOf 71 = .ok (.aload_n 0, 1)) ∧ (decode cX8_readLineOf 72 = .ok (.iconst 1, 1)) := by decide +kernel
theorem dX8_readLineOf_0 : decode cX8_readLineOf 0 = .ok (.iload_n 1, 1) := dg_c91.1
theorem dX8_readLineOf_1 : decode cX8_readLineOf 1 = .ok (.tableswitch 136 4 10 #[43, 50, 57, 64, 95, 112, 129], 43) := dg_c91.2.1
theorem dX8_readLineOf_44 : decode cX8_readLineOf 44 = .ok (.aload_n 0, 1) := dg_c91.2.2.1
theorem dX8_readLineOf_45 : decode cX8_readLineOf 45 = .ok (.invokevirtual 127, 3) := dg_c91.2.2.2.1
theorem dX8_readLineOf_48 : decode cX8_readLineOf 48 = .ok (.goto 112, 3) := dg_c91.2.2.2.2.1
theorem dX8_readLineOf_51 : decode cX8_readLineOf 51 = .ok (.aload_n 0, 1) := dg_c91.2.2.2.2.2.1
theorem dX8_readLineOf_52 : decode cX8_readLineOf 52 = .ok (.invokevirtual 130, 3) := dg_c91.2.2.2.2.2.2.1
theorem dX8_readLineOf_55 : decode cX8_readLineOf 55 = .ok (.goto 105, 3) := dg_c91.2.2.2.2.2.2.2.1
theorem dX8_readLineOf_58 : decode cX8_readLineOf 58 = .ok (.aload_n 0, 1) := dg_c91.2.2.2.2.2.2.2.2.1
theorem dX8_readLineOf_59 : decode cX8_readLineOf 59 = .ok (.invokevirtual 133, 3) := dg_c91.2.2.2.2.2.2.2.2.2.1
theorem dX8_readLineOf_62 : decode cX8_readLineOf 62 = .ok (.goto 98, 3) := dg_c91.2.2.2.2.2.2.2.2.2.2.1
theorem dX8_readLineOf_65 : decode cX8_readLineOf 65 = .ok (.aload_n 0, 1) := dg_c91.2.2.2.2.2.2.2.2.2.2.2.1
theorem dX8_readLineOf_66 : decode cX8_readLineOf 66 = .ok (.getfield 20, 3) := dg_c91.2.2.2.2.2.2.2.2.2.2.2.2.1
theorem dX8_readLineOf_69 : decode cX8_readLineOf 69 = .ok (.bipush 24, 2) := dg_c91.2.2.2.2.2.2.2.2.2.2.2.2.2.1
theorem dX8_readLineOf_71 : decode cX8_readLineOf 71 = .ok (.aload_n 0, 1) := dg_c91.2.2.2.2.2.2.2.2.2.2.2.2.2.2.1
theorem dX8_readLineOf_72 : decode cX8_readLineOf 72 = .ok (.iconst 1, 1) := dg_c91.2.2.2.2.2.2.2.2.2.2.2.2.2.2.2
theorem dg_c92 : (decode cX8_readLineOf 73 = .ok (.bipush 40, 2)) ∧ (decode cX8_readLineOf 75 = .ok (.invokevirtual 124, 3)) ∧ (decode cX8_readLineOf 78 = .ok (.iastore, 1)) ∧ (decode cX8_readLineOf 79 = .ok (.aload_n 0, 1)) ∧ (decode cX8_readLineOf 80 = .ok (.getfield 20, 3)) ∧ (decode cX8_readLineOf 83 = .ok (.bipush 25, 2)) ∧ (decode cX8_readLineOf 85 = .ok (.aload_n 0, 1)) ∧ (decode cX8_readLineOf 86 = .ok (.iconst 0, 1)) ∧ (decode cX8_readLineOf 87 = .ok (.bipush 9, 2)) ∧ (decode cX8_readLineOf 89 = .ok (.invokevirtual 124, 3)) ∧ (decode cX8_readLineOf 92 = .ok (.iastore, 1)) ∧ (decode cX8_readLineOf 93 = .ok (.goto 67, 3)) ∧ (decode cX8_readLineOf 96 = .ok (.aload_n 0, 1)) ∧ (decode cX8_readLineOf 97 = .ok (.getfield 20, 3)) ∧ (decode cX8_readLineOf 100 = .ok (.bipush 26, 2)) ∧ (decode cX8_readLineOf 102 = .ok (.aload_n 0, 1)) := by decide +kernel
theorem dX8_readLineOf_73 : decode cX8_readLineOf 73 = .ok (.bipush 40, 2) := dg_c92.1
theorem dX8_readLineOf_75 : decode cX8_readLineOf 75 = .ok (.invokevirtual 124, 3) := dg_c92.2.1
theorem dX8_readLineOf_78 : decode cX8_readLineOf 78 = .ok (.iastore, 1) := dg_c92.2.2.1
theorem dX8_readLineOf_79 : decode cX8_readLineOf 79 = .ok (.aload_n 0, 1) := dg_c92.2.2.2.1
theorem dX8_readLineOf_80 : decode cX8_readLineOf 80 = .ok (.getfield 20, 3) := dg_c92.2.2.2.2.1
theorem dX8_readLineOf_83 : decode cX8_readLineOf 83 = .ok (.bipush 25, 2) := dg_c92.2.2.2.2.2.1
theorem dX8_readLineOf_85 : decode cX8_readLineOf 85 = .ok (.aload_n 0, 1) := dg_c92.2.2.2.2.2.2.1
theorem dX8_readLineOf_86 : decode cX8_readLineOf 86 = .ok (.iconst 0, 1) := dg_c92.2.2.2.2.2.2.2.1
theorem dX8_readLineOf_87 : decode cX8_readLineOf 87 = .ok (.bipush 9, 2) := dg_c92.2.2.2.2.2.2.2.2.1
theorem dX8_readLineOf_89 : decode cX8_readLineOf 89 = .ok (.invokevirtual 124, 3) := dg_c92.2.2.2.2.2.2.2.2.2.1
theorem dX8_readLineOf_92 : decode cX8_readLineOf 92 = .ok (.iastore, 1) := dg_c92.2.2.2.2.2.2.2.2.2.2.1
theorem dX8_readLineOf_93 : decode cX8_readLineOf 93 = .ok (.goto 67, 3) := dg_c92.2.2.2.2.2.2.2.2.2.2.2.1
theorem dX8_readLineOf_96 : decode cX8_readLineOf 96 = .ok (.aload_n 0, 1) := dg_c92.2.2.2.2.2.2.2.2.2.2.2.2.1
theorem dX8_readLineOf_97 : decode cX8_readLineOf 97 = .ok (.getfield 20, 3) := dg_c92.2.2.2.2.2.2.2.2.2.2.2.2.2.1
theorem dX8_readLineOf_100 : decode cX8_readLineOf 100 = .ok (.bipush 26, 2) := dg_c92.2.2.2.2.2.2.2.2.2.2.2.2.2.2.1
theorem dX8_readLineOf_102 : decode cX8_readLineOf 102 = .ok (.aload_n 0, 1) := dg_c92.2.2.2.2.2.2.2.2.2.2.2.2.2.2.2
theorem dg_c93 : (decode cX8_readLineOf 103 = .ok (.iconst 0, 1)) ∧ (decode cX8_readLineOf 104 = .ok (.bipush 10, 2)) ∧ (decode cX8_readLineOf 106 = .ok (.invokevirtual 124, 3)) ∧ (decode cX8_readLineOf 109 = .ok (.iastore, 1)) ∧ (decode cX8_readLineOf 110 = .ok (.goto 50, 3)) ∧ (decode cX8_readLineOf 113 = .ok (.aload_n 0, 1)) ∧ (decode cX8_readLineOf 114 = .ok (.getfield 20, 3)) ∧ (decode cX8_readLineOf 117 = .ok (.bipush 27, 2)) ∧ (decode cX8_readLineOf 119 = .ok (.aload_n 0, 1)) ∧ (decode cX8_readLineOf 120 = .ok (.iconst 0, 1)) ∧ (decode cX8_readLineOf 121 = .ok (.bipush 99, 2)) ∧ (decode cX8_readLineOf 123 = .ok (.invokevirtual 124, 3)) ∧ (decode cX8_readLineOf 126 = .ok (.iastore, 1)) ∧ (decode cX8_readLineOf 127 = .ok (.goto 33, 3)) ∧ (decode cX8_readLineOf 130 = .ok (.aload_n 0, 1)) ∧ (decode cX8_readLineOf 131 = .ok (.invokevirtual 136, 3)) := by decide +kernel
theorem dX8_readLineOf_103 : decode cX8_readLineOf 103 = .ok (.iconst 0, 1) := dg_c93.1
theorem dX8_readLineOf_104 : decode cX8_readLineOf 104 = .ok (.bipush 10, 2) := dg_c93.2.1
theorem dX8_readLineOf_106 : decode cX8_readLineOf 106 = .ok (.invokevirtual 124, 3) := dg_c93.2.2.1
theorem dX8_readLineOf_109 : decode cX8_readLineOf 109 = .ok (.iastore, 1) := dg_c93.2.2.2.1
theorem dX8_readLineOf_110 : decode cX8_readLineOf 110 = .ok (.goto 50, 3) := dg_c93.2.2.2.2.1
theorem dX8_readLineOf_113 : decode cX8_readLineOf 113 = .ok (.aload_n 0, 1) := dg_c93.2.2.2.2.2.1
theorem dX8_readLineOf_114 : decode cX8_readLineOf 114 = .ok (.getfield 20, 3) := dg_c93.2.2.2.2.2.2.1
theorem dX8_readLineOf_117 : decode cX8_readLineOf 117 = .ok (.bipush 27, 2) := dg_c93.2.2.2.2.2.2.2.1
theorem dX8_readLineOf_119 : decode cX8_readLineOf 119 = .ok (.aload_n 0, 1) := dg_c93.2.2.2.2.2.2.2.2.1
theorem dX8_readLineOf_120 : decode cX8_readLineOf 120 = .ok (.iconst 0, 1) := dg_c93.2.2.2.2.2.2.2.2.2.1
theorem dX8_readLineOf_121 : decode cX8_readLineOf 121 = .ok (.bipush 99, 2) := dg_c93.2.2.2.2.2.2.2.2.2.2.1
theorem dX8_readLineOf_123 : decode cX8_readLineOf 123 = .ok (.invokevirtual 124, 3) := dg_c93.2.2.2.2.2.2.2.2.2.2.2.1
theorem dX8_readLineOf_126 : decode cX8_readLineOf 126 = .ok (.iastore, 1) := dg_c93.2.2.2.2.2.2.2.2.2.2.2.2.1
theorem dX8_readLineOf_127 : decode cX8_readLineOf 127 = .ok (.goto 33, 3) := dg_c93.2.2.2.2.2.2.2.2.2.2.2.2.2.1
theorem dX8_readLineOf_130 : decode cX8_readLineOf 130 = .ok (.aload_n 0, 1) := dg_c93.2.2.2.2.2.2.2.2.2.2.2.2.2.2.1
theorem dX8_readLineOf_131 : decode cX8_readLineOf 131 = .ok (.invokevirtual 136, 3) := dg_c93.2.2.2.2.2.2.2.2.2.2.2.2.2.2.2
theorem dg_c94 : (decode cX8_readLineOf 134 = .ok (.goto 26, 3)) ∧ (decode cX8_readLineOf 137 = .ok (.aload_n 0, 1)) ∧ (decode cX8_readLineOf 138 = .ok (.getfield 20, 3)) ∧ (decode cX8_readLineOf 141 = .ok (.bipush 20, 2)) ∧ (decode cX8_readLineOf 143 = .ok (.aload_n 0, 1)) ∧ (decode cX8_readLineOf 144 = .ok (.getfield 48, 3)) ∧ (decode cX8_readLineOf 147 = .ok (.iadd, 1)) ∧ (decode cX8_readLineOf 148 = .ok (.iload_n 1, 1)) ∧ (decode cX8_readLineOf 149 = .ok (.iastore, 1)) ∧ (decode cX8_readLineOf 150 = .ok (.aload_n 0, 1)) ∧ (decode cX8_readLineOf 151 = .ok (.dup, 1)) ∧ (decode cX8_readLineOf 152 = .ok (.getfield 48, 3)) ∧ (decode cX8_readLineOf 155 = .ok (.iconst 1, 1)) ∧ (decode cX8_readLineOf 156 = .ok (.iadd, 1)) ∧ (decode cX8_readLineOf 157 = .ok (.putfield 48, 3)) ∧ (decode cX8_readLineOf 160 = .ok (.return_, 1)) := by decide +kernel
theorem dX8_readLineOf_134 : decode cX8_readLineOf 134 = .ok (.goto 26, 3) := dg_c94.1
theorem dX8_readLineOf_137 : decode cX8_readLineOf 137 = .ok (.aload_n 0, 1) := dg_c94.2.1
theorem dX8_readLineOf_138 : decode cX8_readLineOf 138 = .ok (.getfield 20, 3) := dg_c94.2.2.1
theorem dX8_readLineOf_141 : decode cX8_readLineOf 141 = .ok (.bipush 20, 2) := dg_c94.2.2.2.1
theorem dX8_readLineOf_143 : decode cX8_readLineOf 143 = .ok (.aload_n 0, 1) := dg_c94.2.2.2.2.1
theorem dX8_readLineOf_144 : decode cX8_readLineOf 144 = .ok (.getfield 48, 3) := dg_c94.2.2.2.2.2.1
theorem dX8_readLineOf_147 : decode cX8_readLineOf 147 = .ok (.iadd, 1) := dg_c94.2.2.2.2.2.2.1
theorem dX8_readLineOf_148 : decode cX8_readLineOf 148 = .ok (.iload_n 1, 1) := dg_c94.2.2.2.2.2.2.2.1
theorem dX8_readLineOf_149 : decode cX8_readLineOf 149 = .ok (.iastore, 1) := dg_c94.2.2.2.2.2.2.2.2.1
theorem dX8_readLineOf_150 : decode cX8_readLineOf 150 = .ok (.aload_n 0, 1) := dg_c94.2.2.2.2.2.2.2.2.2.1
theorem dX8_readLineOf_151 : decode cX8_readLineOf 151 = .ok (.dup, 1) := dg_c94.2.2.2.2.2.2.2.2.2.2.1
theorem dX8_readLineOf_152 : decode cX8_readLineOf 152 = .ok (.getfield 48, 3) := dg_c94.2.2.2.2.2.2.2.2.2.2.2.1
theorem dX8_readLineOf_155 : decode cX8_readLineOf 155 = .ok (.iconst 1, 1) := dg_c94.2.2.2.2.2.2.2.2.2.2.2.2.1
theorem dX8_readLineOf_156 : decode cX8_readLineOf 156 = .ok (.iadd, 1) := dg_c94.2.2.2.2.2.2.2.2.2.2.2.2.2.1
theorem dX8_readLineOf_157 : decode cX8_readLineOf 157 = .ok (.putfield 48, 3) := dg_c94.2.2.2.2.2.2.2.2.2.2.2.2.2.2.1
theorem dX8_readLineOf_160 : decode cX8_readLineOf 160 = .ok (.return_, 1) := dg_c94.2.2.2.2.2.2.2.2.2.2.2.2.2.2.2
theorem dg_c95 : (decode cX8_readLine 0 = .ok (.aload_n 0, 1)) ∧ (decode cX8_readLine 1 = .ok (.getfield 99, 3)) ∧ (decode cX8_readLine 4 = .ok (.iconst 1, 1)) ∧ (decode cX8_readLine 5 = .ok (.if_icmp .ne 10, 3)) ∧ (decode cX8_readLine 8 = .ok (.aload_n 0, 1)) ∧ (decode cX8_readLine 9 = .ok (.invokevirtual 139, 3)) ∧ (decode cX8_readLine 12 = .ok (.goto 5, 3)) ∧ (decode cX8_readLine 15 = .ok (.bipush (-4), 2)) ∧ (decode cX8_readLine 17 = .ok (.istore_n 1, 1)) ∧ (decode cX8_readLine 18 = .ok (.aload_n 0, 1)) ∧ (decode cX8_readLine 19 = .ok (.iload_n 1, 1)) ∧ (decode cX8_readLine 20 = .ok (.bipush (-4), 2)) ∧ (decode cX8_readLine 22 = .ok (.if_icmp .eq 7, 3)) ∧ (decode cX8_readLine 25 = .ok (.iconst 1, 1)) ∧ (decode cX8_readLine 26 = .ok (.goto 4, 3)) ∧ (decode cX8_readLine 29 = .ok (.iconst 0, 1)) := by decide +kernel
theorem dX8_readLine_0 : decode cX8_readLine 0 = .ok (.aload_n 0, 1) := dg_c95.1
theorem dX8_readLine_1 : decode cX8_readLine 1 = .ok (.getfield 99, 3) := dg_c95.2.1
theorem dX8_readLine_4 : decode cX8_readLine 4 = .ok (.iconst 1, 1) := dg_c95.2.2.1
theorem dX8_readLine_5 : decode cX8_readLine 5 = .ok (.if_icmp .ne 10, 3) := dg_c95.2.2.2.1
theorem dX8_readLine_8 : decode cX8_readLine 8 = .ok (.aload_n 0, 1) := dg_c95.2.2.2.2.1
theorem dX8_readLine_9 : decode cX8_readLine 9 = .ok (.invokevirtual 139, 3) := dg_c95.2.2.2.2.2.1
theorem dX8_readLine_12 : decode cX8_readLine 12 = .ok (.goto 5, 3) := dg_c95.2.2.2.2.2.2.1
theorem dX8_readLine_15 : decode cX8_readLine 15 = .ok (.bipush (-4), 2) := dg_c95.2.2.2.2.2.2.2.1
theorem dX8_readLine_17 : decode cX8_readLine 17 = .ok (.istore_n 1, 1) := dg_c95.2.2.2.2.2.2.2.2.1
theorem dX8_readLine_18 : decode cX8_readLine 18 = .ok (.aload_n 0, 1) := dg_c95.2.2.2.2.2.2.2.2.2.1
theorem dX8_readLine_19 : decode cX8_readLine 19 = .ok (.iload_n 1, 1) := dg_c95.2.2.2.2.2.2.2.2.2.2.1
theorem dX8_readLine_20 : decode cX8_readLine 20 = .ok (.bipush (-4), 2) := dg_c95.2.2.2.2.2.2.2.2.2.2.2.1
theorem dX8_readLine_22 : decode cX8_readLine 22 = .ok (.if_icmp .eq 7, 3) := dg_c95.2.2.2.2.2.2.2.2.2.2.2.2.1
theorem dX8_readLine_25 : decode cX8_readLine 25 = .ok (.iconst 1, 1) := dg_c95.2.2.2.2.2.2.2.2.2.2.2.2.2.1
theorem dX8_readLine_26 : decode cX8_readLine 26 = .ok (.goto 4, 3) := dg_c95.2.2.2.2.2.2.2.2.2.2.2.2.2.2.1
theorem dX8_readLine_29 : decode cX8_readLine 29 = .ok (.iconst 0, 1) := dg_c95.2.2.2.2.2.2.2.2.2.2.2.2.2.2.2
theorem dg_c96 : (decode cX8_readLine 30 = .ok (.iconst 2, 1)) ∧ (decode cX8_readLine 31 = .ok (.invokevirtual 113, 3)) ∧ (decode cX8_readLine 34 = .ok (.aload_n 0, 1)) ∧ (decode cX8_readLine 35 = .ok (.iload_n 1, 1)) ∧ (decode cX8_readLine 36 = .ok (.iconst 4, 1)) ∧ (decode cX8_readLine 37 = .ok (.if_icmp .ne 19, 3)) ∧ (decode cX8_readLine 40 = .ok (.aload_n 0, 1)) ∧ (decode cX8_readLine 41 = .ok (.getfield 44, 3)) ∧ (decode cX8_readLine 44 = .ok (.iconst 5, 1)) ∧ (decode cX8_readLine 45 = .ok (.if_icmp .ge 7, 3)) ∧ (decode cX8_readLine 48 = .ok (.iconst 1, 1)) ∧ (decode cX8_readLine 49 = .ok (.goto 25, 3)) ∧ (decode cX8_readLine 52 = .ok (.iconst 0, 1)) ∧ (decode cX8_readLine 53 = .ok (.goto 21, 3)) ∧ (decode cX8_readLine 56 = .ok (.iload_n 1, 1)) ∧ (decode cX8_readLine 57 = .ok (.iconst 4, 1)) := by decide +kernel
theorem dX8_readLine_30 : decode cX8_readLine 30 = .ok (.iconst 2, 1) := dg_c96.1
theorem dX8_readLine_31 : decode cX8_readLine 31 = .ok (.invokevirtual 113, 3) := dg_c96.2.1
theorem dX8_readLine_34 : decode cX8_readLine 34 = .ok (.aload_n 0, 1) := dg_c96.2.2.1
theorem dX8_readLine_35 : decode cX8_readLine 35 = .ok (.iload_n 1, 1) := dg_c96.2.2.2.1
theorem dX8_readLine_36 : decode cX8_readLine 36 = .ok (.iconst 4, 1) := dg_c96.2.2.2.2.1
theorem dX8_readLine_37 : decode cX8_readLine 37 = .ok (.if_icmp .ne 19, 3) := dg_c96.2.2.2.2.2.1
theorem dX8_readLine_40 : decode cX8_readLine 40 = .ok (.aload_n 0, 1) := dg_c96.2.2.2.2.2.2.1
theorem dX8_readLine_41 : decode cX8_readLine 41 = .ok (.getfield 44, 3) := dg_c96.2.2.2.2.2.2.2.1
theorem dX8_readLine_44 : decode cX8_readLine 44 = .ok (.iconst 5, 1) := dg_c96.2.2.2.2.2.2.2.2.1
theorem dX8_readLine_45 : decode cX8_readLine 45 = .ok (.if_icmp .ge 7, 3) := dg_c96.2.2.2.2.2.2.2.2.2.1
theorem dX8_readLine_48 : decode cX8_readLine 48 = .ok (.iconst 1, 1) := dg_c96.2.2.2.2.2.2.2.2.2.2.1
theorem dX8_readLine_49 : decode cX8_readLine 49 = .ok (.goto 25, 3) := dg_c96.2.2.2.2.2.2.2.2.2.2.2.1
theorem dX8_readLine_52 : decode cX8_readLine 52 = .ok (.iconst 0, 1) := dg_c96.2.2.2.2.2.2.2.2.2.2.2.2.1
theorem dX8_readLine_53 : decode cX8_readLine 53 = .ok (.goto 21, 3) := dg_c96.2.2.2.2.2.2.2.2.2.2.2.2.2.1
theorem dX8_readLine_56 : decode cX8_readLine 56 = .ok (.iload_n 1, 1) := dg_c96.2.2.2.2.2.2.2.2.2.2.2.2.2.2.1
theorem dX8_readLine_57 : decode cX8_readLine 57 = .ok (.iconst 4, 1) := dg_c96.2.2.2.2.2.2.2.2.2.2.2.2.2.2.2
theorem dg_c97 : (decode cX8_readLine 58 = .ok (.if_icmp .gt 11, 3)) ∧ (decode cX8_readLine 61 = .ok (.aload_n 0, 1)) ∧ (decode cX8_readLine 62 = .ok (.getfield 48, 3)) ∧ (decode cX8_readLine 65 = .ok (.iconst 3, 1)) ∧ (decode cX8_readLine 66 = .ok (.if_icmp .ge 7, 3)) ∧ (decode cX8_readLine 69 = .ok (.iconst 1, 1)) ∧ (decode cX8_readLine 70 = .ok (.goto 4, 3)) ∧ (decode cX8_readLine 73 = .ok (.iconst 0, 1)) ∧ (decode cX8_readLine 74 = .ok (.iconst 5, 1)) ∧ (decode cX8_readLine 75 = .ok (.invokevirtual 113, 3)) ∧ (decode cX8_readLine 78 = .ok (.aload_n 0, 1)) ∧ (decode cX8_readLine 79 = .ok (.getfield 75, 3)) ∧ (decode cX8_readLine 82 = .ok (.ifCond .ne 42, 3)) ∧ (decode cX8_readLine 85 = .ok (.iload_n 1, 1)) ∧ (decode cX8_readLine 86 = .ok (.bipush 7, 2)) ∧ (decode cX8_readLine 88 = .ok (.if_icmp .lt 36, 3)) := by decide +kernel
theorem dX8_readLine_58 : decode cX8_readLine 58 = .ok (.if_icmp .gt 11, 3) := dg_c97.1
theorem dX8_readLine_61 : decode cX8_readLine 61 = .ok (.aload_n 0, 1) := dg_c97.2.1
theorem dX8_readLine_62 : decode cX8_readLine 62 = .ok (.getfield 48, 3) := dg_c97.2.2.1
theorem dX8_readLine_65 : decode cX8_readLine 65 = .ok (.iconst 3, 1) := dg_c97.2.2.2.1
theorem dX8_readLine_66 : decode cX8_readLine 66 = .ok (.if_icmp .ge 7, 3) := dg_c97.2.2.2.2.1
theorem dX8_readLine_69 : decode cX8_readLine 69 = .ok (.iconst 1, 1) := dg_c97.2.2.2.2.2.1
theorem dX8_readLine_70 : decode cX8_readLine 70 = .ok (.goto 4, 3) := dg_c97.2.2.2.2.2.2.1
theorem dX8_readLine_73 : decode cX8_readLine 73 = .ok (.iconst 0, 1) := dg_c97.2.2.2.2.2.2.2.1
theorem dX8_readLine_74 : decode cX8_readLine 74 = .ok (.iconst 5, 1) := dg_c97.2.2.2.2.2.2.2.2.1
theorem dX8_readLine_75 : decode cX8_readLine 75 = .ok (.invokevirtual 113, 3) := dg_c97.2.2.2.2.2.2.2.2.2.1
theorem dX8_readLine_78 : decode cX8_readLine 78 = .ok (.aload_n 0, 1) := dg_c97.2.2.2.2.2.2.2.2.2.2.1
theorem dX8_readLine_79 : decode cX8_readLine 79 = .ok (.getfield 75, 3) := dg_c97.2.2.2.2.2.2.2.2.2.2.2.1
theorem dX8_readLine_82 : decode cX8_readLine 82 = .ok (.ifCond .ne 42, 3) := dg_c97.2.2.2.2.2.2.2.2.2.2.2.2.1
theorem dX8_readLine_85 : decode cX8_readLine 85 = .ok (.iload_n 1, 1) := dg_c97.2.2.2.2.2.2.2.2.2.2.2.2.2.1
theorem dX8_readLine_86 : decode cX8_readLine 86 = .ok (.bipush 7, 2) := dg_c97.2.2.2.2.2.2.2.2.2.2.2.2.2.2.1
theorem dX8_readLine_88 : decode cX8_readLine 88 = .ok (.if_icmp .lt 36, 3) := dg_c97.2.2.2.2.2.2.2.2.2.2.2.2.2.2.2
theorem dg_c98 : (decode cX8_readLine 91 = .ok (.aload_n 0, 1)) ∧ (decode cX8_readLine 92 = .ok (.aload_n 0, 1)) ∧ (decode cX8_readLine 93 = .ok (.getfield 54, 3)) ∧ (decode cX8_readLine 96 = .ok (.iload_n 1, 1)) ∧ (decode cX8_readLine 97 = .ok (.ishr, 1)) ∧ (decode cX8_readLine 98 = .ok (.iconst 1, 1)) ∧ (decode cX8_readLine 99 = .ok (.iand, 1)) ∧ (decode cX8_readLine 100 = .ok (.ifCond .ne 7, 3)) ∧ (decode cX8_readLine 103 = .ok (.iconst 1, 1)) ∧ (decode cX8_readLine 104 = .ok (.goto 4, 3)) ∧ (decode cX8_readLine 107 = .ok (.iconst 0, 1)) ∧ (decode cX8_readLine 108 = .ok (.iconst 4, 1)) ∧ (decode cX8_readLine 109 = .ok (.invokevirtual 113, 3)) ∧ (decode cX8_readLine 112 = .ok (.aload_n 0, 1)) ∧ (decode cX8_readLine 113 = .ok (.dup, 1)) ∧ (decode cX8_readLine 114 = .ok (.getfield 54, 3)) := by decide +kernel
theorem dX8_readLine_91 : decode cX8_readLine 91 = .ok (.aload_n 0, 1) := dg_c98.1
theorem dX8_readLine_92 : decode cX8_readLine 92 = .ok (.aload_n 0, 1) := dg_c98.2.1
theorem dX8_readLine_93 : decode cX8_readLine 93 = .ok (.getfield 54, 3) := dg_c98.2.2.1
theorem dX8_readLine_96 : decode cX8_readLine 96 = .ok (.iload_n 1, 1) := dg_c98.2.2.2.1
theorem dX8_readLine_97 : decode cX8_readLine 97 = .ok (.ishr, 1) := dg_c98.2.2.2.2.1
theorem dX8_readLine_98 : decode cX8_readLine 98 = .ok (.iconst 1, 1) := dg_c98.2.2.2.2.2.1
theorem dX8_readLine_99 : decode cX8_readLine 99 = .ok (.iand, 1) := dg_c98.2.2.2.2.2.2.1
theorem dX8_readLine_100 : decode cX8_readLine 100 = .ok (.ifCond .ne 7, 3) := dg_c98.2.2.2.2.2.2.2.1
theorem dX8_readLine_103 : decode cX8_readLine 103 = .ok (.iconst 1, 1) := dg_c98.2.2.2.2.2.2.2.2.1
theorem dX8_readLine_104 : decode cX8_readLine 104 = .ok (.goto 4, 3) := dg_c98.2.2.2.2.2.2.2.2.2.1
theorem dX8_readLine_107 : decode cX8_readLine 107 = .ok (.iconst 0, 1) := dg_c98.2.2.2.2.2.2.2.2.2.2.1
theorem dX8_readLine_108 : decode cX8_readLine 108 = .ok (.iconst 4, 1) := dg_c98.2.2.2.2.2.2.2.2.2.2.2.1
theorem dX8_readLine_109 : decode cX8_readLine 109 = .ok (.invokevirtual 113, 3) := dg_c98.2.2.2.2.2.2.2.2.2.2.2.2.1
theorem dX8_readLine_112 : decode cX8_readLine 112 = .ok (.aload_n 0, 1) := dg_c98.2.2.2.2.2.2.2.2.2.2.2.2.2.1
theorem dX8_readLine_113 : decode cX8_readLine 113 = .ok (.dup, 1) := dg_c98.2.2.2.2.2.2.2.2.2.2.2.2.2.2.1
theorem dX8_readLine_114 : decode cX8_readLine 114 = .ok (.getfield 54, 3) := dg_c98.2.2.2.2.2.2.2.2.2.2.2.2.2.2.2
theorem dg_c99 : (decode cX8_readLine 117 = .ok (.iconst 1, 1)) ∧ (decode cX8_readLine 118 = .ok (.iload_n 1, 1)) ∧ (decode cX8_readLine 119 = .ok (.ishl, 1)) ∧ (decode cX8_readLine 120 = .ok (.ior, 1)) ∧ (decode cX8_readLine 121 = .ok (.putfield 54, 3)) ∧ (decode cX8_readLine 124 = .ok (.aload_n 0, 1)) ∧ (decode cX8_readLine 125 = .ok (.invokevirtual 121, 3)) ∧ (decode cX8_readLine 128 = .ok (.aload_n 0, 1)) ∧ (decode cX8_readLine 129 = .ok (.getfield 75, 3)) ∧ (decode cX8_readLine 132 = .ok (.ifCond .le 4, 3)) ∧ (decode cX8_readLine 135 = .ok (.return_, 1)) ∧ (decode cX8_readLine 136 = .ok (.aload_n 0, 1)) ∧ (decode cX8_readLine 137 = .ok (.iload_n 1, 1)) ∧ (decode cX8_readLine 138 = .ok (.invokevirtual 143, 3)) ∧ (decode cX8_readLine 141 = .ok (.aload_n 0, 1)) ∧ (decode cX8_readLine 142 = .ok (.getfield 75, 3)) := by decide +kernel
theorem dX8_readLine_117 : decode cX8_readLine 117 = .ok (.iconst 1, 1) := dg_c99.1
theorem dX8_readLine_118 : decode cX8_readLine 118 = .ok (.iload_n 1, 1) := dg_c99.2.1
theorem dX8_readLine_119 : decode cX8_readLine 119 = .ok (.ishl, 1) := dg_c99.2.2.1
theorem dX8_readLine_120 : decode cX8_readLine 120 = .ok (.ior, 1) := dg_c99.2.2.2.1
theorem dX8_readLine_121 : decode cX8_readLine 121 = .ok (.putfield 54, 3) := dg_c99.2.2.2.2.1
theorem dX8_readLine_124 : decode cX8_readLine 124 = .ok (.aload_n 0, 1) := dg_c99.2.2.2.2.2.1
theorem dX8_readLine_125 : decode cX8_readLine 125 = .ok (.invokevirtual 121, 3) := dg_c99.2.2.2.2.2.2.1
theorem dX8_readLine_128 : decode cX8_readLine 128 = .ok (.aload_n 0, 1) := dg_c99.2.2.2.2.2.2.2.1
theorem dX8_readLine_129 : decode cX8_readLine 129 = .ok (.getfield 75, 3) := dg_c99.2.2.2.2.2.2.2.2.1
theorem dX8_readLine_132 : decode cX8_readLine 132 = .ok (.ifCond .le 4, 3) := dg_c99.2.2.2.2.2.2.2.2.2.1
theorem dX8_readLine_135 : decode cX8_readLine 135 = .ok (.return_, 1) := dg_c99.2.2.2.2.2.2.2.2.2.2.1
theorem dX8_readLine_136 : decode cX8_readLine 136 = .ok (.aload_n 0, 1) := dg_c99.2.2.2.2.2.2.2.2.2.2.2.1
theorem dX8_readLine_137 : decode cX8_readLine 137 = .ok (.iload_n 1, 1) := dg_c99.2.2.2.2.2.2.2.2.2.2.2.2.1
theorem dX8_readLine_138 : decode cX8_readLine 138 = .ok (.invokevirtual 143, 3) := dg_c99.2.2.2.2.2.2.2.2.2.2.2.2.2.1
theorem dX8_readLine_141 : decode cX8_readLine 141 = .ok (.aload_n 0, 1) := dg_c99.2.2.2.2.2.2.2.2.2.2.2.2.2.2.1
theorem dX8_readLine_142 : decode cX8_readLine 142 = .ok (.getfield 75, 3) := dg_c99.2.2.2.2.2.2.2.2.2.2.2.2.2.2.2
theorem dg_c100 : (decode cX8_readLine 145 = .ok (.ifCond .ne 21, 3)) ∧ (decode cX8_readLine 148 = .ok (.aload_n 0, 1)) ∧ (decode cX8_readLine 149 = .ok (.aload_n 0, 1)) ∧ (decode cX8_readLine 150 = .ok (.getfield 99, 3)) ∧ (decode cX8_readLine 153 = .ok (.iconst 3, 1)) ∧ (decode cX8_readLine 154 = .ok (.if_icmp .ne 7, 3)) ∧ (decode cX8_readLine 157 = .ok (.iconst 1, 1)) ∧ (decode cX8_readLine 158 = .ok (.goto 4, 3)) ∧ (decode cX8_readLine 161 = .ok (.iconst 0, 1)) ∧ (decode cX8_readLine 162 = .ok (.iconst 2, 1)) ∧ (decode cX8_readLine 163 = .ok (.invokevirtual 113, 3)) ∧ (decode cX8_readLine 166 = .ok (.aload_n 0, 1)) ∧ (decode cX8_readLine 167 = .ok (.invokevirtual 121, 3)) ∧ (decode cX8_readLine 170 = .ok (.return_, 1)) := by decide +kernel
theorem dX8_readLine_145 : decode cX8_readLine 145 = .ok (.ifCond .ne 21, 3) := dg_c100.1
theorem dX8_readLine_148 : decode cX8_readLine 148 = .ok (.aload_n 0, 1) := dg_c100.2.1
theorem dX8_readLine_149 : decode cX8_readLine 149 = .ok (.aload_n 0, 1) := dg_c100.2.2.1
theorem dX8_readLine_150 : decode cX8_readLine 150 = .ok (.getfield 99, 3) := dg_c100.2.2.2.1
theorem dX8_readLine_153 : decode cX8_readLine 153 = .ok (.iconst 3, 1) := dg_c100.2.2.2.2.1
theorem dX8_readLine_154 : decode cX8_readLine 154 = .ok (.if_icmp .ne 7, 3) := dg_c100.2.2.2.2.2.1
theorem dX8_readLine_157 : decode cX8_readLine 157 = .ok (.iconst 1, 1) := dg_c100.2.2.2.2.2.2.1
theorem dX8_readLine_158 : decode cX8_readLine 158 = .ok (.goto 4, 3) := dg_c100.2.2.2.2.2.2.2.1
theorem dX8_readLine_161 : decode cX8_readLine 161 = .ok (.iconst 0, 1) := dg_c100.2.2.2.2.2.2.2.2.1
theorem dX8_readLine_162 : decode cX8_readLine 162 = .ok (.iconst 2, 1) := dg_c100.2.2.2.2.2.2.2.2.2.1
theorem dX8_readLine_163 : decode cX8_readLine 163 = .ok (.invokevirtual 113, 3) := dg_c100.2.2.2.2.2.2.2.2.2.2.1
theorem dX8_readLine_166 : decode cX8_readLine 166 = .ok (.aload_n 0, 1) := dg_c100.2.2.2.2.2.2.2.2.2.2.2.1
theorem dX8_readLine_167 : decode cX8_readLine 167 = .ok (.invokevirtual 121, 3) := dg_c100.2.2.2.2.2.2.2.2.2.2.2.2.1
theorem dX8_readLine_170 : decode cX8_readLine 170 = .ok (.return_, 1) := dg_c100.2.2.2.2.2.2.2.2.2.2.2.2.2
theorem dg_c101 : (decode cX8_text 0 = .ok (.iconst 0, 1)) ∧ (decode cX8_text 1 = .ok (.istore_n 1, 1)) ∧ (decode cX8_text 2 = .ok (.aload_n 0, 1)) ∧ (decode cX8_text 3 = .ok (.iconst 0, 1)) ∧ (decode cX8_text 4 = .ok (.putfield 75, 3)) ∧ (decode cX8_text 7 = .ok (.aload_n 0, 1)) ∧ (decode cX8_text 8 = .ok (.iconst 0, 1)) ∧ (decode cX8_text 9 = .ok (.putfield 84, 3)) ∧ (decode cX8_text 12 = .ok (.aload_n 0, 1)) ∧ (decode cX8_text 13 = .ok (.invokevirtual 38, 3)) ∧ (decode cX8_text 16 = .ok (.aload_n 0, 1)) ∧ (decode cX8_text 17 = .ok (.invokevirtual 121, 3)) ∧ (decode cX8_text 20 = .ok (.aload_n 0, 1)) ∧ (decode cX8_text 21 = .ok (.getfield 75, 3)) ∧ (decode cX8_text 24 = .ok (.ifCond .ne 20, 3)) ∧ (decode cX8_text 27 = .ok (.aload_n 0, 1)) := by decide +kernel
theorem dX8_text_0 : decode cX8_text 0 = .ok (.iconst 0, 1) := dg_c101.1
theorem dX8_text_1 : decode cX8_text 1 = .ok (.istore_n 1, 1) := dg_c101.2.1
theorem dX8_text_2 : decode cX8_text 2 = .ok (.aload_n 0, 1) := dg_c101.2.2.1
theorem dX8_text_3 : decode cX8_text 3 = .ok (.iconst 0, 1) := dg_c101.2.2.2.1
theorem dX8_text_4 : decode cX8_text 4 = .ok (.putfield 75, 3) := dg_c101.2.2.2.2.1
theorem dX8_text_7 : decode cX8_text 7 = .ok (.aload_n 0, 1) := dg_c101.2.2.2.2.2.1
theorem dX8_text_8 : decode cX8_text 8 = .ok (.iconst 0, 1) := dg_c101.2.2.2.2.2.2.1
theorem dX8_text_9 : decode cX8_text 9 = .ok (.putfield 84, 3) := dg_c101.2.2.2.2.2.2.2.1
theorem dX8_text_12 : decode cX8_text 12 = .ok (.aload_n 0, 1) := dg_c101.2.2.2.2.2.2.2.2.1
theorem dX8_text_13 : decode cX8_text 13 = .ok (.invokevirtual 38, 3) := dg_c101.2.2.2.2.2.2.2.2.2.1
theorem dX8_text_16 : decode cX8_text 16 = .ok (.aload_n 0, 1) := dg_c101.2.2.2.2.2.2.2.2.2.2.1
theorem dX8_text_17 : decode cX8_text 17 = .ok (.invokevirtual 121, 3) := dg_c101.2.2.2.2.2.2.2.2.2.2.2.1
theorem dX8_text_20 : decode cX8_text 20 = .ok (.aload_n 0, 1) := dg_c101.2.2.2.2.2.2.2.2.2.2.2.2.1
theorem dX8_text_21 : decode cX8_text 21 = .ok (.getfield 75, 3) := dg_c101.2.2.2.2.2.2.2.2.2.2.2.2.2.1
theorem dX8_text_24 : decode cX8_text 24 = .ok (.ifCond .ne 20, 3) := dg_c101.2.2.2.2.2.2.2.2.2.2.2.2.2.2.1
theorem dX8_text_27 : decode cX8_text 27 = .ok (.aload_n 0, 1) := dg_c101.2.2.2.2.2.2.2.2.2.2.2.2.2.2.2
theorem dg_c102 : (decode cX8_text 28 = .ok (.getfield 99, 3)) ∧ (decode cX8_text 31 = .ok (.ifCond .eq 13, 3)) ∧ (decode cX8_text 34 = .ok (.aload_n 0, 1)) ∧ (decode cX8_text 35 = .ok (.invokevirtual 147, 3)) ∧ (decode cX8_text 38 = .ok (.iinc 1 1, 3)) ∧ (decode cX8_text 41 = .ok (.goto (-21), 3)) ∧ (decode cX8_text 44 = .ok (.aload_n 0, 1)) ∧ (decode cX8_text 45 = .ok (.getfield 75, 3)) ∧ (decode cX8_text 48 = .ok (.ifCond .ne 25, 3)) ∧ (decode cX8_text 51 = .ok (.aload_n 0, 1)) ∧ (decode cX8_text 52 = .ok (.aload_n 0, 1)) ∧ (decode cX8_text 53 = .ok (.getfield 57, 3)) ∧ (decode cX8_text 56 = .ok (.aload_n 0, 1)) ∧ (decode cX8_text 57 = .ok (.getfield 44, 3)) ∧ (decode cX8_text 60 = .ok (.if_icmp .ge 7, 3)) ∧ (decode cX8_text 63 = .ok (.iconst 1, 1)) := by decide +kernel
theorem dX8_text_28 : decode cX8_text 28 = .ok (.getfield 99, 3) := dg_c102.1
theorem dX8_text_31 : decode cX8_text 31 = .ok (.ifCond .eq 13, 3) := dg_c102.2.1
theorem dX8_text_34 : decode cX8_text 34 = .ok (.aload_n 0, 1) := dg_c102.2.2.1
theorem dX8_text_35 : decode cX8_text 35 = .ok (.invokevirtual 147, 3) := dg_c102.2.2.2.1
theorem dX8_text_38 : decode cX8_text 38 = .ok (.iinc 1 1, 3) := dg_c102.2.2.2.2.1
theorem dX8_text_41 : decode cX8_text 41 = .ok (.goto (-21), 3) := dg_c102.2.2.2.2.2.1
theorem dX8_text_44 : decode cX8_text 44 = .ok (.aload_n 0, 1) := dg_c102.2.2.2.2.2.2.1
theorem dX8_text_45 : decode cX8_text 45 = .ok (.getfield 75, 3) := dg_c102.2.2.2.2.2.2.2.1
theorem dX8_text_48 : decode cX8_text 48 = .ok (.ifCond .ne 25, 3) := dg_c102.2.2.2.2.2.2.2.2.1
theorem dX8_text_51 : decode cX8_text 51 = .ok (.aload_n 0, 1) := dg_c102.2.2.2.2.2.2.2.2.2.1
theorem dX8_text_52 : decode cX8_text 52 = .ok (.aload_n 0, 1) := dg_c102.2.2.2.2.2.2.2.2.2.2.1
theorem dX8_text_53 : decode cX8_text 53 = .ok (.getfield 57, 3) := dg_c102.2.2.2.2.2.2.2.2.2.2.2.1
theorem dX8_text_56 : decode cX8_text 56 = .ok (.aload_n 0, 1) := dg_c102.2.2.2.2.2.2.2.2.2.2.2.2.1
theorem dX8_text_57 : decode cX8_text 57 = .ok (.getfield 44, 3) := dg_c102.2.2.2.2.2.2.2.2.2.2.2.2.2.1
theorem dX8_text_60 : decode cX8_text 60 = .ok (.if_icmp .ge 7, 3) := dg_c102.2.2.2.2.2.2.2.2.2.2.2.2.2.2.1
theorem dX8_text_63 : decode cX8_text 63 = .ok (.iconst 1, 1) := dg_c102.2.2.2.2.2.2.2.2.2.2.2.2.2.2.2
theorem dg_c103 : (decode cX8_text 64 = .ok (.goto 4, 3)) ∧ (decode cX8_text 67 = .ok (.iconst 0, 1)) ∧ (decode cX8_text 68 = .ok (.bipush 6, 2)) ∧ (decode cX8_text 70 = .ok (.invokevirtual 113, 3)) ∧ (decode cX8_text 73 = .ok (.aload_n 0, 1)) ∧ (decode cX8_text 74 = .ok (.iconst 0, 1)) ∧ (decode cX8_text 75 = .ok (.putfield 72, 3)) ∧ (decode cX8_text 78 = .ok (.aload_n 0, 1)) ∧ (decode cX8_text 79 = .ok (.getfield 75, 3)) ∧ (decode cX8_text 82 = .ok (.ifCond .le 11, 3)) ∧ (decode cX8_text 85 = .ok (.bipush (-10), 2)) ∧ (decode cX8_text 87 = .ok (.aload_n 0, 1)) ∧ (decode cX8_text 88 = .ok (.getfield 81, 3)) ∧ (decode cX8_text 91 = .ok (.isub, 1)) ∧ (decode cX8_text 92 = .ok (.ireturn, 1)) ∧ (decode cX8_text 93 = .ok (.aload_n 0, 1)) := by decide +kernel
theorem dX8_text_64 : decode cX8_text 64 = .ok (.goto 4, 3) := dg_c103.1
theorem dX8_text_67 : decode cX8_text 67 = .ok (.iconst 0, 1) := dg_c103.2.1
theorem dX8_text_68 : decode cX8_text 68 = .ok (.bipush 6, 2) := dg_c103.2.2.1
theorem dX8_text_70 : decode cX8_text 70 = .ok (.invokevirtual 113, 3) := dg_c103.2.2.2.1
theorem dX8_text_73 : decode cX8_text 73 = .ok (.aload_n 0, 1) := dg_c103.2.2.2.2.1
theorem dX8_text_74 : decode cX8_text 74 = .ok (.iconst 0, 1) := dg_c103.2.2.2.2.2.1
theorem dX8_text_75 : decode cX8_text 75 = .ok (.putfield 72, 3) := dg_c103.2.2.2.2.2.2.1
theorem dX8_text_78 : decode cX8_text 78 = .ok (.aload_n 0, 1) := dg_c103.2.2.2.2.2.2.2.1
theorem dX8_text_79 : decode cX8_text 79 = .ok (.getfield 75, 3) := dg_c103.2.2.2.2.2.2.2.2.1
theorem dX8_text_82 : decode cX8_text 82 = .ok (.ifCond .le 11, 3) := dg_c103.2.2.2.2.2.2.2.2.2.1
theorem dX8_text_85 : decode cX8_text 85 = .ok (.bipush (-10), 2) := dg_c103.2.2.2.2.2.2.2.2.2.2.1
theorem dX8_text_87 : decode cX8_text 87 = .ok (.aload_n 0, 1) := dg_c103.2.2.2.2.2.2.2.2.2.2.2.1
theorem dX8_text_88 : decode cX8_text 88 = .ok (.getfield 81, 3) := dg_c103.2.2.2.2.2.2.2.2.2.2.2.2.1
theorem dX8_text_91 : decode cX8_text 91 = .ok (.isub, 1) := dg_c103.2.2.2.2.2.2.2.2.2.2.2.2.2.1
theorem dX8_text_92 : decode cX8_text 92 = .ok (.ireturn, 1) := dg_c103.2.2.2.2.2.2.2.2.2.2.2.2.2.2.1
theorem dX8_text_93 : decode cX8_text 93 = .ok (.aload_n 0, 1) := dg_c103.2.2.2.2.2.2.2.2.2.2.2.2.2.2.2
theorem dg_c104 : (decode cX8_text 94 = .ok (.invokevirtual 41, 3)) ∧ (decode cX8_text 97 = .ok (.iload_n 1, 1)) ∧ (decode cX8_text 98 = .ok (.ireturn, 1)) := by decide +kernel
theorem dX8_text_94 : decode cX8_text 94 = .ok (.invokevirtual 41, 3) := dg_c104.1
theorem dX8_text_97 : decode cX8_text 97 = .ok (.iload_n 1, 1) := dg_c104.2.1
theorem dX8_text_98 : decode cX8_text 98 = .ok (.ireturn, 1) := dg_c104.2.2
theorem dg_c105 : (decode cX8_fault 0 = .ok (.aload_n 0, 1)) ∧ (decode cX8_fault 1 = .ok (.getfield 75, 3)) ∧ (decode cX8_fault 4 = .ok (.ireturn, 1)) := by decide +kernel
theorem dX8_fault_0 : decode cX8_fault 0 = .ok (.aload_n 0, 1) := dg_c105.1
theorem dX8_fault_1 : decode cX8_fault 1 = .ok (.getfield 75, 3) := dg_c105.2.1
theorem dX8_fault_4 : decode cX8_fault 4 = .ok (.ireturn, 1) := dg_c105.2.2
theorem dg_c106 : (decode cX8_isStar 0 = .ok (.iload_n 1, 1)) ∧ (decode cX8_isStar 1 = .ok (.i2l, 1)) ∧ (decode cX8_isStar 2 = .ok (.lconst 0, 1)) ∧ (decode cX8_isStar 3 = .ok (.aload_n 0, 1)) ∧ (decode cX8_isStar 4 = .ok (.getfield 60, 3)) ∧ (decode cX8_isStar 7 = .ok (.iconst 1, 1)) ∧ (decode cX8_isStar 8 = .ok (.isub, 1)) ∧ (decode cX8_isStar 9 = .ok (.i2l, 1)) ∧ (decode cX8_isStar 10 = .ok (.invokestatic 68, 3)) ∧ (decode cX8_isStar 13 = .ok (.ireturn, 1)) := by decide +kernel
theorem dX8_isStar_0 : decode cX8_isStar 0 = .ok (.iload_n 1, 1) := dg_c106.1
theorem dX8_isStar_1 : decode cX8_isStar 1 = .ok (.i2l, 1) := dg_c106.2.1
theorem dX8_isStar_2 : decode cX8_isStar 2 = .ok (.lconst 0, 1) := dg_c106.2.2.1
theorem dX8_isStar_3 : decode cX8_isStar 3 = .ok (.aload_n 0, 1) := dg_c106.2.2.2.1
theorem dX8_isStar_4 : decode cX8_isStar 4 = .ok (.getfield 60, 3) := dg_c106.2.2.2.2.1
theorem dX8_isStar_7 : decode cX8_isStar 7 = .ok (.iconst 1, 1) := dg_c106.2.2.2.2.2.1
theorem dX8_isStar_8 : decode cX8_isStar 8 = .ok (.isub, 1) := dg_c106.2.2.2.2.2.2.1
theorem dX8_isStar_9 : decode cX8_isStar 9 = .ok (.i2l, 1) := dg_c106.2.2.2.2.2.2.2.1
theorem dX8_isStar_10 : decode cX8_isStar 10 = .ok (.invokestatic 68, 3) := dg_c106.2.2.2.2.2.2.2.2.1
theorem dX8_isStar_13 : decode cX8_isStar 13 = .ok (.ireturn, 1) := dg_c106.2.2.2.2.2.2.2.2.2
theorem dg_c107 : (decode cX8_isWalker 0 = .ok (.iload_n 1, 1)) ∧ (decode cX8_isWalker 1 = .ok (.i2l, 1)) ∧ (decode cX8_isWalker 2 = .ok (.lconst 0, 1)) ∧ (decode cX8_isWalker 3 = .ok (.aload_n 0, 1)) ∧ (decode cX8_isWalker 4 = .ok (.getfield 63, 3)) ∧ (decode cX8_isWalker 7 = .ok (.iconst 1, 1)) ∧ (decode cX8_isWalker 8 = .ok (.isub, 1)) ∧ (decode cX8_isWalker 9 = .ok (.i2l, 1)) ∧ (decode cX8_isWalker 10 = .ok (.invokestatic 68, 3)) ∧ (decode cX8_isWalker 13 = .ok (.ireturn, 1)) := by decide +kernel
theorem dX8_isWalker_0 : decode cX8_isWalker 0 = .ok (.iload_n 1, 1) := dg_c107.1
theorem dX8_isWalker_1 : decode cX8_isWalker 1 = .ok (.i2l, 1) := dg_c107.2.1
theorem dX8_isWalker_2 : decode cX8_isWalker 2 = .ok (.lconst 0, 1) := dg_c107.2.2.1
theorem dX8_isWalker_3 : decode cX8_isWalker 3 = .ok (.aload_n 0, 1) := dg_c107.2.2.2.1
theorem dX8_isWalker_4 : decode cX8_isWalker 4 = .ok (.getfield 63, 3) := dg_c107.2.2.2.2.1
theorem dX8_isWalker_7 : decode cX8_isWalker 7 = .ok (.iconst 1, 1) := dg_c107.2.2.2.2.2.1
theorem dX8_isWalker_8 : decode cX8_isWalker 8 = .ok (.isub, 1) := dg_c107.2.2.2.2.2.2.1
theorem dX8_isWalker_9 : decode cX8_isWalker 9 = .ok (.i2l, 1) := dg_c107.2.2.2.2.2.2.2.1
theorem dX8_isWalker_10 : decode cX8_isWalker 10 = .ok (.invokestatic 68, 3) := dg_c107.2.2.2.2.2.2.2.2.1
theorem dX8_isWalker_13 : decode cX8_isWalker 13 = .ok (.ireturn, 1) := dg_c107.2.2.2.2.2.2.2.2.2
theorem dg_c108 : (decode cX8_isAim 0 = .ok (.aload_n 0, 1)) ∧ (decode cX8_isAim 1 = .ok (.iload_n 1, 1)) ∧ (decode cX8_isAim 2 = .ok (.invokevirtual 150, 3)) ∧ (decode cX8_isAim 5 = .ok (.ifCond .ne 17, 3)) ∧ (decode cX8_isAim 8 = .ok (.iload_n 1, 1)) ∧ (decode cX8_isAim 9 = .ok (.i2l, 1)) ∧ (decode cX8_isAim 10 = .ok (.ldc2_w 154, 3)) ∧ (decode cX8_isAim 13 = .ok (.ldc2_w 156, 3)) ∧ (decode cX8_isAim 16 = .ok (.invokestatic 68, 3)) ∧ (decode cX8_isAim 19 = .ok (.ifCond .eq 7, 3)) ∧ (decode cX8_isAim 22 = .ok (.iconst 1, 1)) ∧ (decode cX8_isAim 23 = .ok (.goto 4, 3)) ∧ (decode cX8_isAim 26 = .ok (.iconst 0, 1)) ∧ (decode cX8_isAim 27 = .ok (.ireturn, 1)) := by decide +kernel
theorem dX8_isAim_0 : decode cX8_isAim 0 = .ok (.aload_n 0, 1) := dg_c108.1
theorem dX8_isAim_1 : decode cX8_isAim 1 = .ok (.iload_n 1, 1) := dg_c108.2.1
theorem dX8_isAim_2 : decode cX8_isAim 2 = .ok (.invokevirtual 150, 3) := dg_c108.2.2.1
theorem dX8_isAim_5 : decode cX8_isAim 5 = .ok (.ifCond .ne 17, 3) := dg_c108.2.2.2.1
theorem dX8_isAim_8 : decode cX8_isAim 8 = .ok (.iload_n 1, 1) := dg_c108.2.2.2.2.1
theorem dX8_isAim_9 : decode cX8_isAim 9 = .ok (.i2l, 1) := dg_c108.2.2.2.2.2.1
theorem dX8_isAim_10 : decode cX8_isAim 10 = .ok (.ldc2_w 154, 3) := dg_c108.2.2.2.2.2.2.1
theorem dX8_isAim_13 : decode cX8_isAim 13 = .ok (.ldc2_w 156, 3) := dg_c108.2.2.2.2.2.2.2.1
theorem dX8_isAim_16 : decode cX8_isAim 16 = .ok (.invokestatic 68, 3) := dg_c108.2.2.2.2.2.2.2.2.1
theorem dX8_isAim_19 : decode cX8_isAim 19 = .ok (.ifCond .eq 7, 3) := dg_c108.2.2.2.2.2.2.2.2.2.1
theorem dX8_isAim_22 : decode cX8_isAim 22 = .ok (.iconst 1, 1) := dg_c108.2.2.2.2.2.2.2.2.2.2.1
theorem dX8_isAim_23 : decode cX8_isAim 23 = .ok (.goto 4, 3) := dg_c108.2.2.2.2.2.2.2.2.2.2.2.1
theorem dX8_isAim_26 : decode cX8_isAim 26 = .ok (.iconst 0, 1) := dg_c108.2.2.2.2.2.2.2.2.2.2.2.2.1
theorem dX8_isAim_27 : decode cX8_isAim 27 = .ok (.ireturn, 1) := dg_c108.2.2.2.2.2.2.2.2.2.2.2.2.2
theorem dg_c109 : (decode cX8_isHour 0 = .ok (.iload_n 0, 1)) ∧ (decode cX8_isHour 1 = .ok (.i2l, 1)) ∧ (decode cX8_isHour 2 = .ok (.lconst 0, 1)) ∧ (decode cX8_isHour 3 = .ok (.ldc2_w 158, 3)) ∧ (decode cX8_isHour 6 = .ok (.invokestatic 68, 3)) ∧ (decode cX8_isHour 9 = .ok (.ireturn, 1)) := by decide +kernel
theorem dX8_isHour_0 : decode cX8_isHour 0 = .ok (.iload_n 0, 1) := dg_c109.1
theorem dX8_isHour_1 : decode cX8_isHour 1 = .ok (.i2l, 1) := dg_c109.2.1
theorem dX8_isHour_2 : decode cX8_isHour 2 = .ok (.lconst 0, 1) := dg_c109.2.2.1
theorem dX8_isHour_3 : decode cX8_isHour 3 = .ok (.ldc2_w 158, 3) := dg_c109.2.2.2.1
theorem dX8_isHour_6 : decode cX8_isHour 6 = .ok (.invokestatic 68, 3) := dg_c109.2.2.2.2.1
theorem dX8_isHour_9 : decode cX8_isHour 9 = .ok (.ireturn, 1) := dg_c109.2.2.2.2.2
theorem dg_c110 : (decode cX8_isPart 0 = .ok (.iload_n 0, 1)) ∧ (decode cX8_isPart 1 = .ok (.i2l, 1)) ∧ (decode cX8_isPart 2 = .ok (.lconst 0, 1)) ∧ (decode cX8_isPart 3 = .ok (.lconst 1, 1)) ∧ (decode cX8_isPart 4 = .ok (.invokestatic 68, 3)) ∧ (decode cX8_isPart 7 = .ok (.ireturn, 1)) := by decide +kernel
theorem dX8_isPart_0 : decode cX8_isPart 0 = .ok (.iload_n 0, 1) := dg_c110.1
theorem dX8_isPart_1 : decode cX8_isPart 1 = .ok (.i2l, 1) := dg_c110.2.1
theorem dX8_isPart_2 : decode cX8_isPart 2 = .ok (.lconst 0, 1) := dg_c110.2.2.1
theorem dX8_isPart_3 : decode cX8_isPart 3 = .ok (.lconst 1, 1) := dg_c110.2.2.2.1
theorem dX8_isPart_4 : decode cX8_isPart 4 = .ok (.invokestatic 68, 3) := dg_c110.2.2.2.2.1
theorem dX8_isPart_7 : decode cX8_isPart 7 = .ok (.ireturn, 1) := dg_c110.2.2.2.2.2
theorem dg_c111 : (decode cX8_starts 0 = .ok (.iconst 0, 1)) ∧ (decode cX8_starts 1 = .ok (.istore_n 1, 1)) ∧ (decode cX8_starts 2 = .ok (.iload_n 1, 1)) ∧ (decode cX8_starts 3 = .ok (.bipush 54, 2)) ∧ (decode cX8_starts 5 = .ok (.if_icmp .ge 21, 3)) ∧ (decode cX8_starts 8 = .ok (.aload_n 0, 1)) ∧ (decode cX8_starts 9 = .ok (.getfield 13, 3)) ∧ (decode cX8_starts 12 = .ok (.iload_n 1, 1)) ∧ (decode cX8_starts 13 = .ok (.aload_n 0, 1)) := by decide +kernel
theorem dX8_starts_0 : decode cX8_starts 0 = .ok (.iconst 0, 1) := dg_c111.1
theorem dX8_starts_1 : decode cX8_starts 1 = .ok (.istore_n 1, 1) := dg_c111.2.1
theorem dX8_starts_2 : decode cX8_starts 2 = .ok (.iload_n 1, 1) := dg_c111.2.2.1
theorem dX8_starts_3 : decode cX8_starts 3 = .ok (.bipush 54, 2) := dg_c111.2.2.2.1
theorem dX8_starts_5 : decode cX8_starts 5 = .ok (.if_icmp .ge 21, 3) := dg_c111.2.2.2.2.1
theorem dX8_starts_8 : decode cX8_starts 8 = .ok (.aload_n 0, 1) := dg_c111.2.2.2.2.2.1
theorem dX8_starts_9 : decode cX8_starts 9 = .ok (.getfield 13, 3) := dg_c111.2.2.2.2.2.2.1
theorem dX8_starts_12 : decode cX8_starts 12 = .ok (.iload_n 1, 1) := dg_c111.2.2.2.2.2.2.2.1
theorem dX8_starts_13 : decode cX8_starts 13 = .ok (.aload_n 0, 1) := dg_c111.2.2.2.2.2.2.2.2
