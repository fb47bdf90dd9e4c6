theorem dg_a0 : (decode cX0_init 0 = .ok (.aload_n 0, 1)) ∧ (decode cX0_init 1 = .ok (.invokespecial 3, 3)) ∧ (decode cX0_init 4 = .ok (.aload_n 0, 1)) ∧ (decode cX0_init 5 = .ok (.iconst 5, 1)) ∧ (decode cX0_init 6 = .ok (.newarray .int, 2)) ∧ (decode cX0_init 8 = .ok (.putfield 9, 3)) ∧ (decode cX0_init 11 = .ok (.aload_n 0, 1)) ∧ (decode cX0_init 12 = .ok (.iconst 5, 1)) ∧ (decode cX0_init 13 = .ok (.newarray .int, 2)) ∧ (decode cX0_init 15 = .ok (.putfield 15, 3)) ∧ (decode cX0_init 18 = .ok (.aload_n 0, 1)) ∧ (decode cX0_init 19 = .ok (.iconst 5, 1)) ∧ (decode cX0_init 20 = .ok (.newarray .int, 2)) ∧ (decode cX0_init 22 = .ok (.putfield 18, 3)) ∧ (decode cX0_init 25 = .ok (.aload_n 0, 1)) ∧ (decode cX0_init 26 = .ok (.iconst 3, 1)) := by decide +kernel
theorem dX0_init_0 : decode cX0_init 0 = .ok (.aload_n 0, 1) := dg_a0.1
theorem dX0_init_1 : decode cX0_init 1 = .ok (.invokespecial 3, 3) := dg_a0.2.1
theorem dX0_init_4 : decode cX0_init 4 = .ok (.aload_n 0, 1) := dg_a0.2.2.1
theorem dX0_init_5 : decode cX0_init 5 = .ok (.iconst 5, 1) := dg_a0.2.2.2.1
theorem dX0_init_6 : decode cX0_init 6 = .ok (.newarray .int, 2) := dg_a0.2.2.2.2.1
theorem dX0_init_8 : decode cX0_init 8 = .ok (.putfield 9, 3) := dg_a0.2.2.2.2.2.1
theorem dX0_init_11 : decode cX0_init 11 = .ok (.aload_n 0, 1) := dg_a0.2.2.2.2.2.2.1
theorem dX0_init_12 : decode cX0_init 12 = .ok (.iconst 5, 1) := dg_a0.2.2.2.2.2.2.2.1
theorem dX0_init_13 : decode cX0_init 13 = .ok (.newarray .int, 2) := dg_a0.2.2.2.2.2.2.2.2.1
theorem dX0_init_15 : decode cX0_init 15 = .ok (.putfield 15, 3) := dg_a0.2.2.2.2.2.2.2.2.2.1
theorem dX0_init_18 : decode cX0_init 18 = .ok (.aload_n 0, 1) := dg_a0.2.2.2.2.2.2.2.2.2.2.1
theorem dX0_init_19 : decode cX0_init 19 = .ok (.iconst 5, 1) := dg_a0.2.2.2.2.2.2.2.2.2.2.2.1
theorem dX0_init_20 : decode cX0_init 20 = .ok (.newarray .int, 2) := dg_a0.2.2.2.2.2.2.2.2.2.2.2.2.1
theorem dX0_init_22 : decode cX0_init 22 = .ok (.putfield 18, 3) := dg_a0.2.2.2.2.2.2.2.2.2.2.2.2.2.1
theorem dX0_init_25 : decode cX0_init 25 = .ok (.aload_n 0, 1) := dg_a0.2.2.2.2.2.2.2.2.2.2.2.2.2.2.1
theorem dX0_init_26 : decode cX0_init 26 = .ok (.iconst 3, 1) := dg_a0.2.2.2.2.2.2.2.2.2.2.2.2.2.2.2
theorem dg_a1 : (decode cX0_init 27 = .ok (.newarray .int, 2)) ∧ (decode cX0_init 29 = .ok (.putfield 21, 3)) ∧ (decode cX0_init 32 = .ok (.aload_n 0, 1)) ∧ (decode cX0_init 33 = .ok (.new 24, 3)) ∧ (decode cX0_init 36 = .ok (.dup, 1)) ∧ (decode cX0_init 37 = .ok (.invokespecial 26, 3)) ∧ (decode cX0_init 40 = .ok (.putfield 27, 3)) ∧ (decode cX0_init 43 = .ok (.aload_n 0, 1)) ∧ (decode cX0_init 44 = .ok (.bipush 8, 2)) ∧ (decode cX0_init 46 = .ok (.newarray .int, 2)) ∧ (decode cX0_init 48 = .ok (.putfield 31, 3)) ∧ (decode cX0_init 51 = .ok (.aload_n 0, 1)) ∧ (decode cX0_init 52 = .ok (.bipush 6, 2)) ∧ (decode cX0_init 54 = .ok (.newarray .int, 2)) ∧ (decode cX0_init 56 = .ok (.putfield 34, 3)) ∧ (decode cX0_init 59 = .ok (.aload_n 0, 1)) := by decide +kernel
theorem dX0_init_27 : decode cX0_init 27 = .ok (.newarray .int, 2) := dg_a1.1
theorem dX0_init_29 : decode cX0_init 29 = .ok (.putfield 21, 3) := dg_a1.2.1
theorem dX0_init_32 : decode cX0_init 32 = .ok (.aload_n 0, 1) := dg_a1.2.2.1
theorem dX0_init_33 : decode cX0_init 33 = .ok (.new 24, 3) := dg_a1.2.2.2.1
theorem dX0_init_36 : decode cX0_init 36 = .ok (.dup, 1) := dg_a1.2.2.2.2.1
theorem dX0_init_37 : decode cX0_init 37 = .ok (.invokespecial 26, 3) := dg_a1.2.2.2.2.2.1
theorem dX0_init_40 : decode cX0_init 40 = .ok (.putfield 27, 3) := dg_a1.2.2.2.2.2.2.1
theorem dX0_init_43 : decode cX0_init 43 = .ok (.aload_n 0, 1) := dg_a1.2.2.2.2.2.2.2.1
theorem dX0_init_44 : decode cX0_init 44 = .ok (.bipush 8, 2) := dg_a1.2.2.2.2.2.2.2.2.1
theorem dX0_init_46 : decode cX0_init 46 = .ok (.newarray .int, 2) := dg_a1.2.2.2.2.2.2.2.2.2.1
theorem dX0_init_48 : decode cX0_init 48 = .ok (.putfield 31, 3) := dg_a1.2.2.2.2.2.2.2.2.2.2.1
theorem dX0_init_51 : decode cX0_init 51 = .ok (.aload_n 0, 1) := dg_a1.2.2.2.2.2.2.2.2.2.2.2.1
theorem dX0_init_52 : decode cX0_init 52 = .ok (.bipush 6, 2) := dg_a1.2.2.2.2.2.2.2.2.2.2.2.2.1
theorem dX0_init_54 : decode cX0_init 54 = .ok (.newarray .int, 2) := dg_a1.2.2.2.2.2.2.2.2.2.2.2.2.2.1
theorem dX0_init_56 : decode cX0_init 56 = .ok (.putfield 34, 3) := dg_a1.2.2.2.2.2.2.2.2.2.2.2.2.2.2.1
theorem dX0_init_59 : decode cX0_init 59 = .ok (.aload_n 0, 1) := dg_a1.2.2.2.2.2.2.2.2.2.2.2.2.2.2.2
theorem dg_a2 : (decode cX0_init 60 = .ok (.bipush 6, 2)) ∧ (decode cX0_init 62 = .ok (.newarray .int, 2)) ∧ (decode cX0_init 64 = .ok (.putfield 37, 3)) ∧ (decode cX0_init 67 = .ok (.aload_n 0, 1)) ∧ (decode cX0_init 68 = .ok (.invokevirtual 40, 3)) ∧ (decode cX0_init 71 = .ok (.return_, 1)) := by decide +kernel
theorem dX0_init_60 : decode cX0_init 60 = .ok (.bipush 6, 2) := dg_a2.1
theorem dX0_init_62 : decode cX0_init 62 = .ok (.newarray .int, 2) := dg_a2.2.1
theorem dX0_init_64 : decode cX0_init 64 = .ok (.putfield 37, 3) := dg_a2.2.2.1
theorem dX0_init_67 : decode cX0_init 67 = .ok (.aload_n 0, 1) := dg_a2.2.2.2.1
theorem dX0_init_68 : decode cX0_init 68 = .ok (.invokevirtual 40, 3) := dg_a2.2.2.2.2.1
theorem dX0_init_71 : decode cX0_init 71 = .ok (.return_, 1) := dg_a2.2.2.2.2.2
theorem dg_a3 : (decode cX0_clear 0 = .ok (.aload_n 0, 1)) ∧ (decode cX0_clear 1 = .ok (.iconst 0, 1)) ∧ (decode cX0_clear 2 = .ok (.putfield 43, 3)) ∧ (decode cX0_clear 5 = .ok (.aload_n 0, 1)) ∧ (decode cX0_clear 6 = .ok (.iconst 0, 1)) ∧ (decode cX0_clear 7 = .ok (.putfield 47, 3)) ∧ (decode cX0_clear 10 = .ok (.aload_n 0, 1)) ∧ (decode cX0_clear 11 = .ok (.iconst 0, 1)) ∧ (decode cX0_clear 12 = .ok (.putfield 50, 3)) ∧ (decode cX0_clear 15 = .ok (.aload_n 0, 1)) ∧ (decode cX0_clear 16 = .ok (.iconst 0, 1)) ∧ (decode cX0_clear 17 = .ok (.putfield 53, 3)) ∧ (decode cX0_clear 20 = .ok (.aload_n 0, 1)) ∧ (decode cX0_clear 21 = .ok (.bipush 20, 2)) ∧ (decode cX0_clear 23 = .ok (.putfield 56, 3)) ∧ (decode cX0_clear 26 = .ok (.aload_n 0, 1)) := by decide +kernel
theorem dX0_clear_0 : decode cX0_clear 0 = .ok (.aload_n 0, 1) := dg_a3.1
theorem dX0_clear_1 : decode cX0_clear 1 = .ok (.iconst 0, 1) := dg_a3.2.1
theorem dX0_clear_2 : decode cX0_clear 2 = .ok (.putfield 43, 3) := dg_a3.2.2.1
theorem dX0_clear_5 : decode cX0_clear 5 = .ok (.aload_n 0, 1) := dg_a3.2.2.2.1
theorem dX0_clear_6 : decode cX0_clear 6 = .ok (.iconst 0, 1) := dg_a3.2.2.2.2.1
theorem dX0_clear_7 : decode cX0_clear 7 = .ok (.putfield 47, 3) := dg_a3.2.2.2.2.2.1
theorem dX0_clear_10 : decode cX0_clear 10 = .ok (.aload_n 0, 1) := dg_a3.2.2.2.2.2.2.1
theorem dX0_clear_11 : decode cX0_clear 11 = .ok (.iconst 0, 1) := dg_a3.2.2.2.2.2.2.2.1
theorem dX0_clear_12 : decode cX0_clear 12 = .ok (.putfield 50, 3) := dg_a3.2.2.2.2.2.2.2.2.1
theorem dX0_clear_15 : decode cX0_clear 15 = .ok (.aload_n 0, 1) := dg_a3.2.2.2.2.2.2.2.2.2.1
theorem dX0_clear_16 : decode cX0_clear 16 = .ok (.iconst 0, 1) := dg_a3.2.2.2.2.2.2.2.2.2.2.1
theorem dX0_clear_17 : decode cX0_clear 17 = .ok (.putfield 53, 3) := dg_a3.2.2.2.2.2.2.2.2.2.2.2.1
theorem dX0_clear_20 : decode cX0_clear 20 = .ok (.aload_n 0, 1) := dg_a3.2.2.2.2.2.2.2.2.2.2.2.2.1
theorem dX0_clear_21 : decode cX0_clear 21 = .ok (.bipush 20, 2) := dg_a3.2.2.2.2.2.2.2.2.2.2.2.2.2.1
theorem dX0_clear_23 : decode cX0_clear 23 = .ok (.putfield 56, 3) := dg_a3.2.2.2.2.2.2.2.2.2.2.2.2.2.2.1
theorem dX0_clear_26 : decode cX0_clear 26 = .ok (.aload_n 0, 1) := dg_a3.2.2.2.2.2.2.2.2.2.2.2.2.2.2.2
theorem dg_a4 : (decode cX0_clear 27 = .ok (.iconst 2, 1)) ∧ (decode cX0_clear 28 = .ok (.putfield 59, 3)) ∧ (decode cX0_clear 31 = .ok (.aload_n 0, 1)) ∧ (decode cX0_clear 32 = .ok (.iconst 3, 1)) ∧ (decode cX0_clear 33 = .ok (.putfield 62, 3)) ∧ (decode cX0_clear 36 = .ok (.aload_n 0, 1)) ∧ (decode cX0_clear 37 = .ok (.iconst 0, 1)) ∧ (decode cX0_clear 38 = .ok (.putfield 65, 3)) ∧ (decode cX0_clear 41 = .ok (.aload_n 0, 1)) ∧ (decode cX0_clear 42 = .ok (.getfield 27, 3)) ∧ (decode cX0_clear 45 = .ok (.iconst 0, 1)) ∧ (decode cX0_clear 46 = .ok (.putfield 68, 3)) ∧ (decode cX0_clear 49 = .ok (.aload_n 0, 1)) ∧ (decode cX0_clear 50 = .ok (.getfield 27, 3)) ∧ (decode cX0_clear 53 = .ok (.iconst 0, 1)) ∧ (decode cX0_clear 54 = .ok (.putfield 71, 3)) := by decide +kernel
theorem dX0_clear_27 : decode cX0_clear 27 = .ok (.iconst 2, 1) := dg_a4.1
theorem dX0_clear_28 : decode cX0_clear 28 = .ok (.putfield 59, 3) := dg_a4.2.1
theorem dX0_clear_31 : decode cX0_clear 31 = .ok (.aload_n 0, 1) := dg_a4.2.2.1
theorem dX0_clear_32 : decode cX0_clear 32 = .ok (.iconst 3, 1) := dg_a4.2.2.2.1
theorem dX0_clear_33 : decode cX0_clear 33 = .ok (.putfield 62, 3) := dg_a4.2.2.2.2.1
theorem dX0_clear_36 : decode cX0_clear 36 = .ok (.aload_n 0, 1) := dg_a4.2.2.2.2.2.1
theorem dX0_clear_37 : decode cX0_clear 37 = .ok (.iconst 0, 1) := dg_a4.2.2.2.2.2.2.1
theorem dX0_clear_38 : decode cX0_clear 38 = .ok (.putfield 65, 3) := dg_a4.2.2.2.2.2.2.2.1
theorem dX0_clear_41 : decode cX0_clear 41 = .ok (.aload_n 0, 1) := dg_a4.2.2.2.2.2.2.2.2.1
theorem dX0_clear_42 : decode cX0_clear 42 = .ok (.getfield 27, 3) := dg_a4.2.2.2.2.2.2.2.2.2.1
theorem dX0_clear_45 : decode cX0_clear 45 = .ok (.iconst 0, 1) := dg_a4.2.2.2.2.2.2.2.2.2.2.1
theorem dX0_clear_46 : decode cX0_clear 46 = .ok (.putfield 68, 3) := dg_a4.2.2.2.2.2.2.2.2.2.2.2.1
theorem dX0_clear_49 : decode cX0_clear 49 = .ok (.aload_n 0, 1) := dg_a4.2.2.2.2.2.2.2.2.2.2.2.2.1
theorem dX0_clear_50 : decode cX0_clear 50 = .ok (.getfield 27, 3) := dg_a4.2.2.2.2.2.2.2.2.2.2.2.2.2.1
theorem dX0_clear_53 : decode cX0_clear 53 = .ok (.iconst 0, 1) := dg_a4.2.2.2.2.2.2.2.2.2.2.2.2.2.2.1
theorem dX0_clear_54 : decode cX0_clear 54 = .ok (.putfield 71, 3) := dg_a4.2.2.2.2.2.2.2.2.2.2.2.2.2.2.2
theorem dg_a5 : (decode cX0_clear 57 = .ok (.aload_n 0, 1)) ∧ (decode cX0_clear 58 = .ok (.getfield 27, 3)) ∧ (decode cX0_clear 61 = .ok (.iconst 0, 1)) ∧ (decode cX0_clear 62 = .ok (.putfield 74, 3)) ∧ (decode cX0_clear 65 = .ok (.aload_n 0, 1)) ∧ (decode cX0_clear 66 = .ok (.getfield 27, 3)) ∧ (decode cX0_clear 69 = .ok (.bipush 20, 2)) ∧ (decode cX0_clear 71 = .ok (.putfield 77, 3)) ∧ (decode cX0_clear 74 = .ok (.aload_n 0, 1)) ∧ (decode cX0_clear 75 = .ok (.iconst 0, 1)) ∧ (decode cX0_clear 76 = .ok (.putfield 80, 3)) ∧ (decode cX0_clear 79 = .ok (.aload_n 0, 1)) ∧ (decode cX0_clear 80 = .ok (.iconst 0, 1)) ∧ (decode cX0_clear 81 = .ok (.putfield 83, 3)) ∧ (decode cX0_clear 84 = .ok (.return_, 1)) := by decide +kernel
theorem dX0_clear_57 : decode cX0_clear 57 = .ok (.aload_n 0, 1) := dg_a5.1
theorem dX0_clear_58 : decode cX0_clear 58 = .ok (.getfield 27, 3) := dg_a5.2.1
theorem dX0_clear_61 : decode cX0_clear 61 = .ok (.iconst 0, 1) := dg_a5.2.2.1
theorem dX0_clear_62 : decode cX0_clear 62 = .ok (.putfield 74, 3) := dg_a5.2.2.2.1
theorem dX0_clear_65 : decode cX0_clear 65 = .ok (.aload_n 0, 1) := dg_a5.2.2.2.2.1
theorem dX0_clear_66 : decode cX0_clear 66 = .ok (.getfield 27, 3) := dg_a5.2.2.2.2.2.1
theorem dX0_clear_69 : decode cX0_clear 69 = .ok (.bipush 20, 2) := dg_a5.2.2.2.2.2.2.1
theorem dX0_clear_71 : decode cX0_clear 71 = .ok (.putfield 77, 3) := dg_a5.2.2.2.2.2.2.2.1
theorem dX0_clear_74 : decode cX0_clear 74 = .ok (.aload_n 0, 1) := dg_a5.2.2.2.2.2.2.2.2.1
theorem dX0_clear_75 : decode cX0_clear 75 = .ok (.iconst 0, 1) := dg_a5.2.2.2.2.2.2.2.2.2.1
theorem dX0_clear_76 : decode cX0_clear 76 = .ok (.putfield 80, 3) := dg_a5.2.2.2.2.2.2.2.2.2.2.1
theorem dX0_clear_79 : decode cX0_clear 79 = .ok (.aload_n 0, 1) := dg_a5.2.2.2.2.2.2.2.2.2.2.2.1
theorem dX0_clear_80 : decode cX0_clear 80 = .ok (.iconst 0, 1) := dg_a5.2.2.2.2.2.2.2.2.2.2.2.2.1
theorem dX0_clear_81 : decode cX0_clear 81 = .ok (.putfield 83, 3) := dg_a5.2.2.2.2.2.2.2.2.2.2.2.2.2.1
theorem dX0_clear_84 : decode cX0_clear 84 = .ok (.return_, 1) := dg_a5.2.2.2.2.2.2.2.2.2.2.2.2.2.2
theorem dg_a6 : (decode cX0_become 0 = .ok (.aload_n 0, 1)) ∧ (decode cX0_become 1 = .ok (.aload_n 1, 1)) ∧ (decode cX0_become 2 = .ok (.getfield 43, 3)) ∧ (decode cX0_become 5 = .ok (.putfield 43, 3)) ∧ (decode cX0_become 8 = .ok (.aload_n 0, 1)) ∧ (decode cX0_become 9 = .ok (.aload_n 1, 1)) ∧ (decode cX0_become 10 = .ok (.getfield 47, 3)) ∧ (decode cX0_become 13 = .ok (.putfield 47, 3)) ∧ (decode cX0_become 16 = .ok (.aload_n 0, 1)) ∧ (decode cX0_become 17 = .ok (.aload_n 1, 1)) ∧ (decode cX0_become 18 = .ok (.getfield 50, 3)) ∧ (decode cX0_become 21 = .ok (.putfield 50, 3)) ∧ (decode cX0_become 24 = .ok (.aload_n 0, 1)) ∧ (decode cX0_become 25 = .ok (.aload_n 1, 1)) ∧ (decode cX0_become 26 = .ok (.getfield 53, 3)) ∧ (decode cX0_become 29 = .ok (.putfield 53, 3)) := by decide +kernel
theorem dX0_become_0 : decode cX0_become 0 = .ok (.aload_n 0, 1) := dg_a6.1
theorem dX0_become_1 : decode cX0_become 1 = .ok (.aload_n 1, 1) := dg_a6.2.1
theorem dX0_become_2 : decode cX0_become 2 = .ok (.getfield 43, 3) := dg_a6.2.2.1
theorem dX0_become_5 : decode cX0_become 5 = .ok (.putfield 43, 3) := dg_a6.2.2.2.1
theorem dX0_become_8 : decode cX0_become 8 = .ok (.aload_n 0, 1) := dg_a6.2.2.2.2.1
theorem dX0_become_9 : decode cX0_become 9 = .ok (.aload_n 1, 1) := dg_a6.2.2.2.2.2.1
theorem dX0_become_10 : decode cX0_become 10 = .ok (.getfield 47, 3) := dg_a6.2.2.2.2.2.2.1
theorem dX0_become_13 : decode cX0_become 13 = .ok (.putfield 47, 3) := dg_a6.2.2.2.2.2.2.2.1
theorem dX0_become_16 : decode cX0_become 16 = .ok (.aload_n 0, 1) := dg_a6.2.2.2.2.2.2.2.2.1
theorem dX0_become_17 : decode cX0_become 17 = .ok (.aload_n 1, 1) := dg_a6.2.2.2.2.2.2.2.2.2.1
theorem dX0_become_18 : decode cX0_become 18 = .ok (.getfield 50, 3) := dg_a6.2.2.2.2.2.2.2.2.2.2.1
theorem dX0_become_21 : decode cX0_become 21 = .ok (.putfield 50, 3) := dg_a6.2.2.2.2.2.2.2.2.2.2.2.1
theorem dX0_become_24 : decode cX0_become 24 = .ok (.aload_n 0, 1) := dg_a6.2.2.2.2.2.2.2.2.2.2.2.2.1
theorem dX0_become_25 : decode cX0_become 25 = .ok (.aload_n 1, 1) := dg_a6.2.2.2.2.2.2.2.2.2.2.2.2.2.1
theorem dX0_become_26 : decode cX0_become 26 = .ok (.getfield 53, 3) := dg_a6.2.2.2.2.2.2.2.2.2.2.2.2.2.2.1
theorem dX0_become_29 : decode cX0_become 29 = .ok (.putfield 53, 3) := dg_a6.2.2.2.2.2.2.2.2.2.2.2.2.2.2.2
theorem dg_a7 : (decode cX0_become 32 = .ok (.aload_n 0, 1)) ∧ (decode cX0_become 33 = .ok (.aload_n 1, 1)) ∧ (decode cX0_become 34 = .ok (.getfield 56, 3)) ∧ (decode cX0_become 37 = .ok (.putfield 56, 3)) ∧ (decode cX0_become 40 = .ok (.aload_n 0, 1)) ∧ (decode cX0_become 41 = .ok (.aload_n 1, 1)) ∧ (decode cX0_become 42 = .ok (.getfield 59, 3)) ∧ (decode cX0_become 45 = .ok (.putfield 59, 3)) ∧ (decode cX0_become 48 = .ok (.aload_n 0, 1)) ∧ (decode cX0_become 49 = .ok (.aload_n 1, 1)) ∧ (decode cX0_become 50 = .ok (.getfield 62, 3)) ∧ (decode cX0_become 53 = .ok (.putfield 62, 3)) ∧ (decode cX0_become 56 = .ok (.aload_n 0, 1)) ∧ (decode cX0_become 57 = .ok (.aload_n 1, 1)) ∧ (decode cX0_become 58 = .ok (.getfield 65, 3)) ∧ (decode cX0_become 61 = .ok (.putfield 65, 3)) := by decide +kernel
theorem dX0_become_32 : decode cX0_become 32 = .ok (.aload_n 0, 1) := dg_a7.1
theorem dX0_become_33 : decode cX0_become 33 = .ok (.aload_n 1, 1) := dg_a7.2.1
theorem dX0_become_34 : decode cX0_become 34 = .ok (.getfield 56, 3) := dg_a7.2.2.1
theorem dX0_become_37 : decode cX0_become 37 = .ok (.putfield 56, 3) := dg_a7.2.2.2.1
theorem dX0_become_40 : decode cX0_become 40 = .ok (.aload_n 0, 1) := dg_a7.2.2.2.2.1
theorem dX0_become_41 : decode cX0_become 41 = .ok (.aload_n 1, 1) := dg_a7.2.2.2.2.2.1
theorem dX0_become_42 : decode cX0_become 42 = .ok (.getfield 59, 3) := dg_a7.2.2.2.2.2.2.1
theorem dX0_become_45 : decode cX0_become 45 = .ok (.putfield 59, 3) := dg_a7.2.2.2.2.2.2.2.1
theorem dX0_become_48 : decode cX0_become 48 = .ok (.aload_n 0, 1) := dg_a7.2.2.2.2.2.2.2.2.1
theorem dX0_become_49 : decode cX0_become 49 = .ok (.aload_n 1, 1) := dg_a7.2.2.2.2.2.2.2.2.2.1
theorem dX0_become_50 : decode cX0_become 50 = .ok (.getfield 62, 3) := dg_a7.2.2.2.2.2.2.2.2.2.2.1
theorem dX0_become_53 : decode cX0_become 53 = .ok (.putfield 62, 3) := dg_a7.2.2.2.2.2.2.2.2.2.2.2.1
theorem dX0_become_56 : decode cX0_become 56 = .ok (.aload_n 0, 1) := dg_a7.2.2.2.2.2.2.2.2.2.2.2.2.1
theorem dX0_become_57 : decode cX0_become 57 = .ok (.aload_n 1, 1) := dg_a7.2.2.2.2.2.2.2.2.2.2.2.2.2.1
theorem dX0_become_58 : decode cX0_become 58 = .ok (.getfield 65, 3) := dg_a7.2.2.2.2.2.2.2.2.2.2.2.2.2.2.1
theorem dX0_become_61 : decode cX0_become 61 = .ok (.putfield 65, 3) := dg_a7.2.2.2.2.2.2.2.2.2.2.2.2.2.2.2
theorem dg_a8 : (decode cX0_become 64 = .ok (.aload_n 0, 1)) ∧ (decode cX0_become 65 = .ok (.getfield 27, 3)) ∧ (decode cX0_become 68 = .ok (.aload_n 1, 1)) ∧ (decode cX0_become 69 = .ok (.getfield 27, 3)) ∧ (decode cX0_become 72 = .ok (.invokevirtual 86, 3)) ∧ (decode cX0_become 75 = .ok (.aload_n 0, 1)) ∧ (decode cX0_become 76 = .ok (.aload_n 1, 1)) ∧ (decode cX0_become 77 = .ok (.getfield 80, 3)) ∧ (decode cX0_become 80 = .ok (.putfield 80, 3)) ∧ (decode cX0_become 83 = .ok (.aload_n 0, 1)) ∧ (decode cX0_become 84 = .ok (.aload_n 1, 1)) ∧ (decode cX0_become 85 = .ok (.getfield 83, 3)) ∧ (decode cX0_become 88 = .ok (.putfield 83, 3)) ∧ (decode cX0_become 91 = .ok (.aload_n 1, 1)) ∧ (decode cX0_become 92 = .ok (.getfield 9, 3)) ∧ (decode cX0_become 95 = .ok (.iconst 0, 1)) := by decide +kernel
theorem dX0_become_64 : decode cX0_become 64 = .ok (.aload_n 0, 1) := dg_a8.1
theorem dX0_become_65 : decode cX0_become 65 = .ok (.getfield 27, 3) := dg_a8.2.1
theorem dX0_become_68 : decode cX0_become 68 = .ok (.aload_n 1, 1) := dg_a8.2.2.1
theorem dX0_become_69 : decode cX0_become 69 = .ok (.getfield 27, 3) := dg_a8.2.2.2.1
theorem dX0_become_72 : decode cX0_become 72 = .ok (.invokevirtual 86, 3) := dg_a8.2.2.2.2.1
theorem dX0_become_75 : decode cX0_become 75 = .ok (.aload_n 0, 1) := dg_a8.2.2.2.2.2.1
theorem dX0_become_76 : decode cX0_become 76 = .ok (.aload_n 1, 1) := dg_a8.2.2.2.2.2.2.1
theorem dX0_become_77 : decode cX0_become 77 = .ok (.getfield 80, 3) := dg_a8.2.2.2.2.2.2.2.1
theorem dX0_become_80 : decode cX0_become 80 = .ok (.putfield 80, 3) := dg_a8.2.2.2.2.2.2.2.2.1
theorem dX0_become_83 : decode cX0_become 83 = .ok (.aload_n 0, 1) := dg_a8.2.2.2.2.2.2.2.2.2.1
theorem dX0_become_84 : decode cX0_become 84 = .ok (.aload_n 1, 1) := dg_a8.2.2.2.2.2.2.2.2.2.2.1
theorem dX0_become_85 : decode cX0_become 85 = .ok (.getfield 83, 3) := dg_a8.2.2.2.2.2.2.2.2.2.2.2.1
theorem dX0_become_88 : decode cX0_become 88 = .ok (.putfield 83, 3) := dg_a8.2.2.2.2.2.2.2.2.2.2.2.2.1
theorem dX0_become_91 : decode cX0_become 91 = .ok (.aload_n 1, 1) := dg_a8.2.2.2.2.2.2.2.2.2.2.2.2.2.1
theorem dX0_become_92 : decode cX0_become 92 = .ok (.getfield 9, 3) := dg_a8.2.2.2.2.2.2.2.2.2.2.2.2.2.2.1
theorem dX0_become_95 : decode cX0_become 95 = .ok (.iconst 0, 1) := dg_a8.2.2.2.2.2.2.2.2.2.2.2.2.2.2.2
theorem dg_a9 : (decode cX0_become 96 = .ok (.aload_n 0, 1)) ∧ (decode cX0_become 97 = .ok (.getfield 9, 3)) ∧ (decode cX0_become 100 = .ok (.iconst 0, 1)) ∧ (decode cX0_become 101 = .ok (.iconst 5, 1)) ∧ (decode cX0_become 102 = .ok (.invokestatic 90, 3)) ∧ (decode cX0_become 105 = .ok (.aload_n 1, 1)) ∧ (decode cX0_become 106 = .ok (.getfield 15, 3)) ∧ (decode cX0_become 109 = .ok (.iconst 0, 1)) ∧ (decode cX0_become 110 = .ok (.aload_n 0, 1)) ∧ (decode cX0_become 111 = .ok (.getfield 15, 3)) ∧ (decode cX0_become 114 = .ok (.iconst 0, 1)) ∧ (decode cX0_become 115 = .ok (.iconst 5, 1)) ∧ (decode cX0_become 116 = .ok (.invokestatic 90, 3)) ∧ (decode cX0_become 119 = .ok (.aload_n 1, 1)) ∧ (decode cX0_become 120 = .ok (.getfield 18, 3)) ∧ (decode cX0_become 123 = .ok (.iconst 0, 1)) := by decide +kernel
theorem dX0_become_96 : decode cX0_become 96 = .ok (.aload_n 0, 1) := dg_a9.1
theorem dX0_become_97 : decode cX0_become 97 = .ok (.getfield 9, 3) := dg_a9.2.1
theorem dX0_become_100 : decode cX0_become 100 = .ok (.iconst 0, 1) := dg_a9.2.2.1
theorem dX0_become_101 : decode cX0_become 101 = .ok (.iconst 5, 1) := dg_a9.2.2.2.1
theorem dX0_become_102 : decode cX0_become 102 = .ok (.invokestatic 90, 3) := dg_a9.2.2.2.2.1
theorem dX0_become_105 : decode cX0_become 105 = .ok (.aload_n 1, 1) := dg_a9.2.2.2.2.2.1
theorem dX0_become_106 : decode cX0_become 106 = .ok (.getfield 15, 3) := dg_a9.2.2.2.2.2.2.1
theorem dX0_become_109 : decode cX0_become 109 = .ok (.iconst 0, 1) := dg_a9.2.2.2.2.2.2.2.1
theorem dX0_become_110 : decode cX0_become 110 = .ok (.aload_n 0, 1) := dg_a9.2.2.2.2.2.2.2.2.1
theorem dX0_become_111 : decode cX0_become 111 = .ok (.getfield 15, 3) := dg_a9.2.2.2.2.2.2.2.2.2.1
theorem dX0_become_114 : decode cX0_become 114 = .ok (.iconst 0, 1) := dg_a9.2.2.2.2.2.2.2.2.2.2.1
theorem dX0_become_115 : decode cX0_become 115 = .ok (.iconst 5, 1) := dg_a9.2.2.2.2.2.2.2.2.2.2.2.1
theorem dX0_become_116 : decode cX0_become 116 = .ok (.invokestatic 90, 3) := dg_a9.2.2.2.2.2.2.2.2.2.2.2.2.1
theorem dX0_become_119 : decode cX0_become 119 = .ok (.aload_n 1, 1) := dg_a9.2.2.2.2.2.2.2.2.2.2.2.2.2.1
theorem dX0_become_120 : decode cX0_become 120 = .ok (.getfield 18, 3) := dg_a9.2.2.2.2.2.2.2.2.2.2.2.2.2.2.1
theorem dX0_become_123 : decode cX0_become 123 = .ok (.iconst 0, 1) := dg_a9.2.2.2.2.2.2.2.2.2.2.2.2.2.2.2
theorem dg_a10 : (decode cX0_become 124 = .ok (.aload_n 0, 1)) ∧ (decode cX0_become 125 = .ok (.getfield 18, 3)) ∧ (decode cX0_become 128 = .ok (.iconst 0, 1)) ∧ (decode cX0_become 129 = .ok (.iconst 5, 1)) ∧ (decode cX0_become 130 = .ok (.invokestatic 90, 3)) ∧ (decode cX0_become 133 = .ok (.aload_n 1, 1)) ∧ (decode cX0_become 134 = .ok (.getfield 21, 3)) ∧ (decode cX0_become 137 = .ok (.iconst 0, 1)) ∧ (decode cX0_become 138 = .ok (.aload_n 0, 1)) ∧ (decode cX0_become 139 = .ok (.getfield 21, 3)) ∧ (decode cX0_become 142 = .ok (.iconst 0, 1)) ∧ (decode cX0_become 143 = .ok (.iconst 3, 1)) ∧ (decode cX0_become 144 = .ok (.invokestatic 90, 3)) ∧ (decode cX0_become 147 = .ok (.aload_n 1, 1)) ∧ (decode cX0_become 148 = .ok (.getfield 31, 3)) ∧ (decode cX0_become 151 = .ok (.iconst 0, 1)) := by decide +kernel
theorem dX0_become_124 : decode cX0_become 124 = .ok (.aload_n 0, 1) := dg_a10.1
theorem dX0_become_125 : decode cX0_become 125 = .ok (.getfield 18, 3) := dg_a10.2.1
theorem dX0_become_128 : decode cX0_become 128 = .ok (.iconst 0, 1) := dg_a10.2.2.1
theorem dX0_become_129 : decode cX0_become 129 = .ok (.iconst 5, 1) := dg_a10.2.2.2.1
theorem dX0_become_130 : decode cX0_become 130 = .ok (.invokestatic 90, 3) := dg_a10.2.2.2.2.1
theorem dX0_become_133 : decode cX0_become 133 = .ok (.aload_n 1, 1) := dg_a10.2.2.2.2.2.1
theorem dX0_become_134 : decode cX0_become 134 = .ok (.getfield 21, 3) := dg_a10.2.2.2.2.2.2.1
theorem dX0_become_137 : decode cX0_become 137 = .ok (.iconst 0, 1) := dg_a10.2.2.2.2.2.2.2.1
theorem dX0_become_138 : decode cX0_become 138 = .ok (.aload_n 0, 1) := dg_a10.2.2.2.2.2.2.2.2.1
theorem dX0_become_139 : decode cX0_become 139 = .ok (.getfield 21, 3) := dg_a10.2.2.2.2.2.2.2.2.2.1
theorem dX0_become_142 : decode cX0_become 142 = .ok (.iconst 0, 1) := dg_a10.2.2.2.2.2.2.2.2.2.2.1
theorem dX0_become_143 : decode cX0_become 143 = .ok (.iconst 3, 1) := dg_a10.2.2.2.2.2.2.2.2.2.2.2.1
theorem dX0_become_144 : decode cX0_become 144 = .ok (.invokestatic 90, 3) := dg_a10.2.2.2.2.2.2.2.2.2.2.2.2.1
theorem dX0_become_147 : decode cX0_become 147 = .ok (.aload_n 1, 1) := dg_a10.2.2.2.2.2.2.2.2.2.2.2.2.2.1
theorem dX0_become_148 : decode cX0_become 148 = .ok (.getfield 31, 3) := dg_a10.2.2.2.2.2.2.2.2.2.2.2.2.2.2.1
theorem dX0_become_151 : decode cX0_become 151 = .ok (.iconst 0, 1) := dg_a10.2.2.2.2.2.2.2.2.2.2.2.2.2.2.2
theorem dg_a11 : (decode cX0_become 152 = .ok (.aload_n 0, 1)) ∧ (decode cX0_become 153 = .ok (.getfield 31, 3)) ∧ (decode cX0_become 156 = .ok (.iconst 0, 1)) ∧ (decode cX0_become 157 = .ok (.bipush 8, 2)) ∧ (decode cX0_become 159 = .ok (.invokestatic 90, 3)) ∧ (decode cX0_become 162 = .ok (.aload_n 1, 1)) ∧ (decode cX0_become 163 = .ok (.getfield 34, 3)) ∧ (decode cX0_become 166 = .ok (.iconst 0, 1)) ∧ (decode cX0_become 167 = .ok (.aload_n 0, 1)) ∧ (decode cX0_become 168 = .ok (.getfield 34, 3)) ∧ (decode cX0_become 171 = .ok (.iconst 0, 1)) ∧ (decode cX0_become 172 = .ok (.bipush 6, 2)) ∧ (decode cX0_become 174 = .ok (.invokestatic 90, 3)) ∧ (decode cX0_become 177 = .ok (.aload_n 1, 1)) ∧ (decode cX0_become 178 = .ok (.getfield 37, 3)) ∧ (decode cX0_become 181 = .ok (.iconst 0, 1)) := by decide +kernel
theorem dX0_become_152 : decode cX0_become 152 = .ok (.aload_n 0, 1) := dg_a11.1
theorem dX0_become_153 : decode cX0_become 153 = .ok (.getfield 31, 3) := dg_a11.2.1
theorem dX0_become_156 : decode cX0_become 156 = .ok (.iconst 0, 1) := dg_a11.2.2.1
theorem dX0_become_157 : decode cX0_become 157 = .ok (.bipush 8, 2) := dg_a11.2.2.2.1
theorem dX0_become_159 : decode cX0_become 159 = .ok (.invokestatic 90, 3) := dg_a11.2.2.2.2.1
theorem dX0_become_162 : decode cX0_become 162 = .ok (.aload_n 1, 1) := dg_a11.2.2.2.2.2.1
theorem dX0_become_163 : decode cX0_become 163 = .ok (.getfield 34, 3) := dg_a11.2.2.2.2.2.2.1
theorem dX0_become_166 : decode cX0_become 166 = .ok (.iconst 0, 1) := dg_a11.2.2.2.2.2.2.2.1
theorem dX0_become_167 : decode cX0_become 167 = .ok (.aload_n 0, 1) := dg_a11.2.2.2.2.2.2.2.2.1
theorem dX0_become_168 : decode cX0_become 168 = .ok (.getfield 34, 3) := dg_a11.2.2.2.2.2.2.2.2.2.1
theorem dX0_become_171 : decode cX0_become 171 = .ok (.iconst 0, 1) := dg_a11.2.2.2.2.2.2.2.2.2.2.1
theorem dX0_become_172 : decode cX0_become 172 = .ok (.bipush 6, 2) := dg_a11.2.2.2.2.2.2.2.2.2.2.2.1
theorem dX0_become_174 : decode cX0_become 174 = .ok (.invokestatic 90, 3) := dg_a11.2.2.2.2.2.2.2.2.2.2.2.2.1
theorem dX0_become_177 : decode cX0_become 177 = .ok (.aload_n 1, 1) := dg_a11.2.2.2.2.2.2.2.2.2.2.2.2.2.1
theorem dX0_become_178 : decode cX0_become 178 = .ok (.getfield 37, 3) := dg_a11.2.2.2.2.2.2.2.2.2.2.2.2.2.2.1
theorem dX0_become_181 : decode cX0_become 181 = .ok (.iconst 0, 1) := dg_a11.2.2.2.2.2.2.2.2.2.2.2.2.2.2.2
theorem dg_a12 : (decode cX0_become 182 = .ok (.aload_n 0, 1)) ∧ (decode cX0_become 183 = .ok (.getfield 37, 3)) ∧ (decode cX0_become 186 = .ok (.iconst 0, 1)) ∧ (decode cX0_become 187 = .ok (.bipush 6, 2)) ∧ (decode cX0_become 189 = .ok (.invokestatic 90, 3)) ∧ (decode cX0_become 192 = .ok (.return_, 1)) := by decide +kernel
theorem dX0_become_182 : decode cX0_become 182 = .ok (.aload_n 0, 1) := dg_a12.1
theorem dX0_become_183 : decode cX0_become 183 = .ok (.getfield 37, 3) := dg_a12.2.1
theorem dX0_become_186 : decode cX0_become 186 = .ok (.iconst 0, 1) := dg_a12.2.2.1
theorem dX0_become_187 : decode cX0_become 187 = .ok (.bipush 6, 2) := dg_a12.2.2.2.1
theorem dX0_become_189 : decode cX0_become 189 = .ok (.invokestatic 90, 3) := dg_a12.2.2.2.2.1
theorem dX0_become_192 : decode cX0_become 192 = .ok (.return_, 1) := dg_a12.2.2.2.2.2
theorem dg_a13 : (decode cX0_hasStar 0 = .ok (.iload_n 1, 1)) ∧ (decode cX0_hasStar 1 = .ok (.ifCond .lt 20, 3)) ∧ (decode cX0_hasStar 4 = .ok (.iload_n 1, 1)) ∧ (decode cX0_hasStar 5 = .ok (.aload_n 0, 1)) ∧ (decode cX0_hasStar 6 = .ok (.getfield 43, 3)) ∧ (decode cX0_hasStar 9 = .ok (.if_icmp .ge 12, 3)) ∧ (decode cX0_hasStar 12 = .ok (.iload_n 1, 1)) ∧ (decode cX0_hasStar 13 = .ok (.iconst 5, 1)) ∧ (decode cX0_hasStar 14 = .ok (.if_icmp .ge 7, 3)) ∧ (decode cX0_hasStar 17 = .ok (.iconst 1, 1)) ∧ (decode cX0_hasStar 18 = .ok (.goto 4, 3)) ∧ (decode cX0_hasStar 21 = .ok (.iconst 0, 1)) ∧ (decode cX0_hasStar 22 = .ok (.ireturn, 1)) := by decide +kernel
theorem dX0_hasStar_0 : decode cX0_hasStar 0 = .ok (.iload_n 1, 1) := dg_a13.1
theorem dX0_hasStar_1 : decode cX0_hasStar 1 = .ok (.ifCond .lt 20, 3) := dg_a13.2.1
theorem dX0_hasStar_4 : decode cX0_hasStar 4 = .ok (.iload_n 1, 1) := dg_a13.2.2.1
theorem dX0_hasStar_5 : decode cX0_hasStar 5 = .ok (.aload_n 0, 1) := dg_a13.2.2.2.1
theorem dX0_hasStar_6 : decode cX0_hasStar 6 = .ok (.getfield 43, 3) := dg_a13.2.2.2.2.1
theorem dX0_hasStar_9 : decode cX0_hasStar 9 = .ok (.if_icmp .ge 12, 3) := dg_a13.2.2.2.2.2.1
theorem dX0_hasStar_12 : decode cX0_hasStar 12 = .ok (.iload_n 1, 1) := dg_a13.2.2.2.2.2.2.1
theorem dX0_hasStar_13 : decode cX0_hasStar 13 = .ok (.iconst 5, 1) := dg_a13.2.2.2.2.2.2.2.1
theorem dX0_hasStar_14 : decode cX0_hasStar 14 = .ok (.if_icmp .ge 7, 3) := dg_a13.2.2.2.2.2.2.2.2.1
theorem dX0_hasStar_17 : decode cX0_hasStar 17 = .ok (.iconst 1, 1) := dg_a13.2.2.2.2.2.2.2.2.2.1
theorem dX0_hasStar_18 : decode cX0_hasStar 18 = .ok (.goto 4, 3) := dg_a13.2.2.2.2.2.2.2.2.2.2.1
theorem dX0_hasStar_21 : decode cX0_hasStar 21 = .ok (.iconst 0, 1) := dg_a13.2.2.2.2.2.2.2.2.2.2.2.1
theorem dX0_hasStar_22 : decode cX0_hasStar 22 = .ok (.ireturn, 1) := dg_a13.2.2.2.2.2.2.2.2.2.2.2.2
theorem dg_a14 : (decode cX0_hasWalker 0 = .ok (.iload_n 1, 1)) ∧ (decode cX0_hasWalker 1 = .ok (.ifCond .lt 20, 3)) ∧ (decode cX0_hasWalker 4 = .ok (.iload_n 1, 1)) ∧ (decode cX0_hasWalker 5 = .ok (.aload_n 0, 1)) ∧ (decode cX0_hasWalker 6 = .ok (.getfield 50, 3)) ∧ (decode cX0_hasWalker 9 = .ok (.if_icmp .ge 12, 3)) ∧ (decode cX0_hasWalker 12 = .ok (.iload_n 1, 1)) ∧ (decode cX0_hasWalker 13 = .ok (.iconst 3, 1)) ∧ (decode cX0_hasWalker 14 = .ok (.if_icmp .ge 7, 3)) ∧ (decode cX0_hasWalker 17 = .ok (.iconst 1, 1)) ∧ (decode cX0_hasWalker 18 = .ok (.goto 4, 3)) ∧ (decode cX0_hasWalker 21 = .ok (.iconst 0, 1)) ∧ (decode cX0_hasWalker 22 = .ok (.ireturn, 1)) := by decide +kernel
theorem dX0_hasWalker_0 : decode cX0_hasWalker 0 = .ok (.iload_n 1, 1) := dg_a14.1
theorem dX0_hasWalker_1 : decode cX0_hasWalker 1 = .ok (.ifCond .lt 20, 3) := dg_a14.2.1
theorem dX0_hasWalker_4 : decode cX0_hasWalker 4 = .ok (.iload_n 1, 1) := dg_a14.2.2.1
theorem dX0_hasWalker_5 : decode cX0_hasWalker 5 = .ok (.aload_n 0, 1) := dg_a14.2.2.2.1
theorem dX0_hasWalker_6 : decode cX0_hasWalker 6 = .ok (.getfield 50, 3) := dg_a14.2.2.2.2.1
theorem dX0_hasWalker_9 : decode cX0_hasWalker 9 = .ok (.if_icmp .ge 12, 3) := dg_a14.2.2.2.2.2.1
theorem dX0_hasWalker_12 : decode cX0_hasWalker 12 = .ok (.iload_n 1, 1) := dg_a14.2.2.2.2.2.2.1
theorem dX0_hasWalker_13 : decode cX0_hasWalker 13 = .ok (.iconst 3, 1) := dg_a14.2.2.2.2.2.2.2.1
theorem dX0_hasWalker_14 : decode cX0_hasWalker 14 = .ok (.if_icmp .ge 7, 3) := dg_a14.2.2.2.2.2.2.2.2.1
theorem dX0_hasWalker_17 : decode cX0_hasWalker 17 = .ok (.iconst 1, 1) := dg_a14.2.2.2.2.2.2.2.2.2.1
theorem dX0_hasWalker_18 : decode cX0_hasWalker 18 = .ok (.goto 4, 3) := dg_a14.2.2.2.2.2.2.2.2.2.2.1
theorem dX0_hasWalker_21 : decode cX0_hasWalker 21 = .ok (.iconst 0, 1) := dg_a14.2.2.2.2.2.2.2.2.2.2.2.1
theorem dX0_hasWalker_22 : decode cX0_hasWalker 22 = .ok (.ireturn, 1) := dg_a14.2.2.2.2.2.2.2.2.2.2.2.2
theorem dg_a15 : (decode cX0_hasPlanned 0 = .ok (.iload_n 1, 1)) ∧ (decode cX0_hasPlanned 1 = .ok (.ifCond .lt 21, 3)) ∧ (decode cX0_hasPlanned 4 = .ok (.iload_n 1, 1)) ∧ (decode cX0_hasPlanned 5 = .ok (.aload_n 0, 1)) ∧ (decode cX0_hasPlanned 6 = .ok (.getfield 80, 3)) ∧ (decode cX0_hasPlanned 9 = .ok (.if_icmp .ge 13, 3)) ∧ (decode cX0_hasPlanned 12 = .ok (.iload_n 1, 1)) ∧ (decode cX0_hasPlanned 13 = .ok (.bipush 8, 2)) ∧ (decode cX0_hasPlanned 15 = .ok (.if_icmp .ge 7, 3)) ∧ (decode cX0_hasPlanned 18 = .ok (.iconst 1, 1)) ∧ (decode cX0_hasPlanned 19 = .ok (.goto 4, 3)) ∧ (decode cX0_hasPlanned 22 = .ok (.iconst 0, 1)) ∧ (decode cX0_hasPlanned 23 = .ok (.ireturn, 1)) := by decide +kernel
theorem dX0_hasPlanned_0 : decode cX0_hasPlanned 0 = .ok (.iload_n 1, 1) := dg_a15.1
theorem dX0_hasPlanned_1 : decode cX0_hasPlanned 1 = .ok (.ifCond .lt 21, 3) := dg_a15.2.1
theorem dX0_hasPlanned_4 : decode cX0_hasPlanned 4 = .ok (.iload_n 1, 1) := dg_a15.2.2.1
theorem dX0_hasPlanned_5 : decode cX0_hasPlanned 5 = .ok (.aload_n 0, 1) := dg_a15.2.2.2.1
theorem dX0_hasPlanned_6 : decode cX0_hasPlanned 6 = .ok (.getfield 80, 3) := dg_a15.2.2.2.2.1
theorem dX0_hasPlanned_9 : decode cX0_hasPlanned 9 = .ok (.if_icmp .ge 13, 3) := dg_a15.2.2.2.2.2.1
theorem dX0_hasPlanned_12 : decode cX0_hasPlanned 12 = .ok (.iload_n 1, 1) := dg_a15.2.2.2.2.2.2.1
theorem dX0_hasPlanned_13 : decode cX0_hasPlanned 13 = .ok (.bipush 8, 2) := dg_a15.2.2.2.2.2.2.2.1
theorem dX0_hasPlanned_15 : decode cX0_hasPlanned 15 = .ok (.if_icmp .ge 7, 3) := dg_a15.2.2.2.2.2.2.2.2.1
theorem dX0_hasPlanned_18 : decode cX0_hasPlanned 18 = .ok (.iconst 1, 1) := dg_a15.2.2.2.2.2.2.2.2.2.1
theorem dX0_hasPlanned_19 : decode cX0_hasPlanned 19 = .ok (.goto 4, 3) := dg_a15.2.2.2.2.2.2.2.2.2.2.1
theorem dX0_hasPlanned_22 : decode cX0_hasPlanned 22 = .ok (.iconst 0, 1) := dg_a15.2.2.2.2.2.2.2.2.2.2.2.1
theorem dX0_hasPlanned_23 : decode cX0_hasPlanned 23 = .ok (.ireturn, 1) := dg_a15.2.2.2.2.2.2.2.2.2.2.2.2
theorem dg_a16 : (decode cX0_hasAim 0 = .ok (.iload_n 1, 1)) ∧ (decode cX0_hasAim 1 = .ok (.iconst 5, 1)) ∧ (decode cX0_hasAim 2 = .ok (.if_icmp .eq 17, 3)) ∧ (decode cX0_hasAim 5 = .ok (.iload_n 1, 1)) ∧ (decode cX0_hasAim 6 = .ok (.bipush 6, 2)) ∧ (decode cX0_hasAim 8 = .ok (.if_icmp .eq 11, 3)) ∧ (decode cX0_hasAim 11 = .ok (.aload_n 0, 1)) ∧ (decode cX0_hasAim 12 = .ok (.iload_n 1, 1)) ∧ (decode cX0_hasAim 13 = .ok (.invokevirtual 96, 3)) ∧ (decode cX0_hasAim 16 = .ok (.ifCond .eq 7, 3)) ∧ (decode cX0_hasAim 19 = .ok (.iconst 1, 1)) ∧ (decode cX0_hasAim 20 = .ok (.goto 4, 3)) ∧ (decode cX0_hasAim 23 = .ok (.iconst 0, 1)) ∧ (decode cX0_hasAim 24 = .ok (.ireturn, 1)) := by decide +kernel
theorem dX0_hasAim_0 : decode cX0_hasAim 0 = .ok (.iload_n 1, 1) := dg_a16.1
theorem dX0_hasAim_1 : decode cX0_hasAim 1 = .ok (.iconst 5, 1) := dg_a16.2.1
theorem dX0_hasAim_2 : decode cX0_hasAim 2 = .ok (.if_icmp .eq 17, 3) := dg_a16.2.2.1
theorem dX0_hasAim_5 : decode cX0_hasAim 5 = .ok (.iload_n 1, 1) := dg_a16.2.2.2.1
theorem dX0_hasAim_6 : decode cX0_hasAim 6 = .ok (.bipush 6, 2) := dg_a16.2.2.2.2.1
theorem dX0_hasAim_8 : decode cX0_hasAim 8 = .ok (.if_icmp .eq 11, 3) := dg_a16.2.2.2.2.2.1
theorem dX0_hasAim_11 : decode cX0_hasAim 11 = .ok (.aload_n 0, 1) := dg_a16.2.2.2.2.2.2.1
theorem dX0_hasAim_12 : decode cX0_hasAim 12 = .ok (.iload_n 1, 1) := dg_a16.2.2.2.2.2.2.2.1
theorem dX0_hasAim_13 : decode cX0_hasAim 13 = .ok (.invokevirtual 96, 3) := dg_a16.2.2.2.2.2.2.2.2.1
theorem dX0_hasAim_16 : decode cX0_hasAim 16 = .ok (.ifCond .eq 7, 3) := dg_a16.2.2.2.2.2.2.2.2.2.1
theorem dX0_hasAim_19 : decode cX0_hasAim 19 = .ok (.iconst 1, 1) := dg_a16.2.2.2.2.2.2.2.2.2.2.1
theorem dX0_hasAim_20 : decode cX0_hasAim 20 = .ok (.goto 4, 3) := dg_a16.2.2.2.2.2.2.2.2.2.2.2.1
theorem dX0_hasAim_23 : decode cX0_hasAim 23 = .ok (.iconst 0, 1) := dg_a16.2.2.2.2.2.2.2.2.2.2.2.2.1
theorem dX0_hasAim_24 : decode cX0_hasAim 24 = .ok (.ireturn, 1) := dg_a16.2.2.2.2.2.2.2.2.2.2.2.2.2
theorem dg_a17 : (decode cX0_isKnown 0 = .ok (.aload_n 0, 1)) ∧ (decode cX0_isKnown 1 = .ok (.getfield 47, 3)) ∧ (decode cX0_isKnown 4 = .ok (.iload_n 1, 1)) ∧ (decode cX0_isKnown 5 = .ok (.ishr, 1)) ∧ (decode cX0_isKnown 6 = .ok (.iconst 1, 1)) ∧ (decode cX0_isKnown 7 = .ok (.iand, 1)) ∧ (decode cX0_isKnown 8 = .ok (.iconst 1, 1)) ∧ (decode cX0_isKnown 9 = .ok (.if_icmp .ne 7, 3)) ∧ (decode cX0_isKnown 12 = .ok (.iconst 1, 1)) ∧ (decode cX0_isKnown 13 = .ok (.goto 4, 3)) ∧ (decode cX0_isKnown 16 = .ok (.iconst 0, 1)) ∧ (decode cX0_isKnown 17 = .ok (.ireturn, 1)) := by decide +kernel
theorem dX0_isKnown_0 : decode cX0_isKnown 0 = .ok (.aload_n 0, 1) := dg_a17.1
theorem dX0_isKnown_1 : decode cX0_isKnown 1 = .ok (.getfield 47, 3) := dg_a17.2.1
theorem dX0_isKnown_4 : decode cX0_isKnown 4 = .ok (.iload_n 1, 1) := dg_a17.2.2.1
theorem dX0_isKnown_5 : decode cX0_isKnown 5 = .ok (.ishr, 1) := dg_a17.2.2.2.1
theorem dX0_isKnown_6 : decode cX0_isKnown 6 = .ok (.iconst 1, 1) := dg_a17.2.2.2.2.1
theorem dX0_isKnown_7 : decode cX0_isKnown 7 = .ok (.iand, 1) := dg_a17.2.2.2.2.2.1
theorem dX0_isKnown_8 : decode cX0_isKnown 8 = .ok (.iconst 1, 1) := dg_a17.2.2.2.2.2.2.1
theorem dX0_isKnown_9 : decode cX0_isKnown 9 = .ok (.if_icmp .ne 7, 3) := dg_a17.2.2.2.2.2.2.2.1
theorem dX0_isKnown_12 : decode cX0_isKnown 12 = .ok (.iconst 1, 1) := dg_a17.2.2.2.2.2.2.2.2.1
theorem dX0_isKnown_13 : decode cX0_isKnown 13 = .ok (.goto 4, 3) := dg_a17.2.2.2.2.2.2.2.2.2.1
theorem dX0_isKnown_16 : decode cX0_isKnown 16 = .ok (.iconst 0, 1) := dg_a17.2.2.2.2.2.2.2.2.2.2.1
theorem dX0_isKnown_17 : decode cX0_isKnown 17 = .ok (.ireturn, 1) := dg_a17.2.2.2.2.2.2.2.2.2.2.2
theorem dg_a18 : (decode cX0_isCloudy 0 = .ok (.aload_n 0, 1)) ∧ (decode cX0_isCloudy 1 = .ok (.getfield 65, 3)) ∧ (decode cX0_isCloudy 4 = .ok (.iload_n 1, 1)) ∧ (decode cX0_isCloudy 5 = .ok (.ishr, 1)) ∧ (decode cX0_isCloudy 6 = .ok (.iconst 1, 1)) ∧ (decode cX0_isCloudy 7 = .ok (.iand, 1)) ∧ (decode cX0_isCloudy 8 = .ok (.iconst 1, 1)) ∧ (decode cX0_isCloudy 9 = .ok (.if_icmp .ne 7, 3)) ∧ (decode cX0_isCloudy 12 = .ok (.iconst 1, 1)) ∧ (decode cX0_isCloudy 13 = .ok (.goto 4, 3)) ∧ (decode cX0_isCloudy 16 = .ok (.iconst 0, 1)) ∧ (decode cX0_isCloudy 17 = .ok (.ireturn, 1)) := by decide +kernel
theorem dX0_isCloudy_0 : decode cX0_isCloudy 0 = .ok (.aload_n 0, 1) := dg_a18.1
theorem dX0_isCloudy_1 : decode cX0_isCloudy 1 = .ok (.getfield 65, 3) := dg_a18.2.1
theorem dX0_isCloudy_4 : decode cX0_isCloudy 4 = .ok (.iload_n 1, 1) := dg_a18.2.2.1
theorem dX0_isCloudy_5 : decode cX0_isCloudy 5 = .ok (.ishr, 1) := dg_a18.2.2.2.1
theorem dX0_isCloudy_6 : decode cX0_isCloudy 6 = .ok (.iconst 1, 1) := dg_a18.2.2.2.2.1
theorem dX0_isCloudy_7 : decode cX0_isCloudy 7 = .ok (.iand, 1) := dg_a18.2.2.2.2.2.1
theorem dX0_isCloudy_8 : decode cX0_isCloudy 8 = .ok (.iconst 1, 1) := dg_a18.2.2.2.2.2.2.1
theorem dX0_isCloudy_9 : decode cX0_isCloudy 9 = .ok (.if_icmp .ne 7, 3) := dg_a18.2.2.2.2.2.2.2.1
theorem dX0_isCloudy_12 : decode cX0_isCloudy 12 = .ok (.iconst 1, 1) := dg_a18.2.2.2.2.2.2.2.2.1
theorem dX0_isCloudy_13 : decode cX0_isCloudy 13 = .ok (.goto 4, 3) := dg_a18.2.2.2.2.2.2.2.2.2.1
theorem dX0_isCloudy_16 : decode cX0_isCloudy 16 = .ok (.iconst 0, 1) := dg_a18.2.2.2.2.2.2.2.2.2.2.1
theorem dX0_isCloudy_17 : decode cX0_isCloudy 17 = .ok (.ireturn, 1) := dg_a18.2.2.2.2.2.2.2.2.2.2.2
theorem dg_a19 : (decode cX0_addStar 0 = .ok (.aload_n 0, 1)) ∧ (decode cX0_addStar 1 = .ok (.getfield 43, 3)) ∧ (decode cX0_addStar 4 = .ok (.iconst 5, 1)) ∧ (decode cX0_addStar 5 = .ok (.if_icmp .lt 5, 3)) ∧ (decode cX0_addStar 8 = .ok (.iconst 0, 1)) ∧ (decode cX0_addStar 9 = .ok (.ireturn, 1)) ∧ (decode cX0_addStar 10 = .ok (.aload_n 0, 1)) ∧ (decode cX0_addStar 11 = .ok (.getfield 9, 3)) ∧ (decode cX0_addStar 14 = .ok (.aload_n 0, 1)) ∧ (decode cX0_addStar 15 = .ok (.getfield 43, 3)) ∧ (decode cX0_addStar 18 = .ok (.iload_n 1, 1)) ∧ (decode cX0_addStar 19 = .ok (.iastore, 1)) ∧ (decode cX0_addStar 20 = .ok (.aload_n 0, 1)) ∧ (decode cX0_addStar 21 = .ok (.getfield 15, 3)) ∧ (decode cX0_addStar 24 = .ok (.aload_n 0, 1)) ∧ (decode cX0_addStar 25 = .ok (.getfield 43, 3)) := by decide +kernel
theorem dX0_addStar_0 : decode cX0_addStar 0 = .ok (.aload_n 0, 1) := dg_a19.1
theorem dX0_addStar_1 : decode cX0_addStar 1 = .ok (.getfield 43, 3) := dg_a19.2.1
theorem dX0_addStar_4 : decode cX0_addStar 4 = .ok (.iconst 5, 1) := dg_a19.2.2.1
theorem dX0_addStar_5 : decode cX0_addStar 5 = .ok (.if_icmp .lt 5, 3) := dg_a19.2.2.2.1
theorem dX0_addStar_8 : decode cX0_addStar 8 = .ok (.iconst 0, 1) := dg_a19.2.2.2.2.1
theorem dX0_addStar_9 : decode cX0_addStar 9 = .ok (.ireturn, 1) := dg_a19.2.2.2.2.2.1
theorem dX0_addStar_10 : decode cX0_addStar 10 = .ok (.aload_n 0, 1) := dg_a19.2.2.2.2.2.2.1
theorem dX0_addStar_11 : decode cX0_addStar 11 = .ok (.getfield 9, 3) := dg_a19.2.2.2.2.2.2.2.1
theorem dX0_addStar_14 : decode cX0_addStar 14 = .ok (.aload_n 0, 1) := dg_a19.2.2.2.2.2.2.2.2.1
theorem dX0_addStar_15 : decode cX0_addStar 15 = .ok (.getfield 43, 3) := dg_a19.2.2.2.2.2.2.2.2.2.1
theorem dX0_addStar_18 : decode cX0_addStar 18 = .ok (.iload_n 1, 1) := dg_a19.2.2.2.2.2.2.2.2.2.2.1
theorem dX0_addStar_19 : decode cX0_addStar 19 = .ok (.iastore, 1) := dg_a19.2.2.2.2.2.2.2.2.2.2.2.1
theorem dX0_addStar_20 : decode cX0_addStar 20 = .ok (.aload_n 0, 1) := dg_a19.2.2.2.2.2.2.2.2.2.2.2.2.1
theorem dX0_addStar_21 : decode cX0_addStar 21 = .ok (.getfield 15, 3) := dg_a19.2.2.2.2.2.2.2.2.2.2.2.2.2.1
theorem dX0_addStar_24 : decode cX0_addStar 24 = .ok (.aload_n 0, 1) := dg_a19.2.2.2.2.2.2.2.2.2.2.2.2.2.2.1
theorem dX0_addStar_25 : decode cX0_addStar 25 = .ok (.getfield 43, 3) := dg_a19.2.2.2.2.2.2.2.2.2.2.2.2.2.2.2
theorem dg_a20 : (decode cX0_addStar 28 = .ok (.iload_n 2, 1)) ∧ (decode cX0_addStar 29 = .ok (.iastore, 1)) ∧ (decode cX0_addStar 30 = .ok (.aload_n 0, 1)) ∧ (decode cX0_addStar 31 = .ok (.getfield 18, 3)) ∧ (decode cX0_addStar 34 = .ok (.aload_n 0, 1)) ∧ (decode cX0_addStar 35 = .ok (.getfield 43, 3)) ∧ (decode cX0_addStar 38 = .ok (.iload_n 3, 1)) ∧ (decode cX0_addStar 39 = .ok (.iastore, 1)) ∧ (decode cX0_addStar 40 = .ok (.aload_n 0, 1)) ∧ (decode cX0_addStar 41 = .ok (.dup, 1)) ∧ (decode cX0_addStar 42 = .ok (.getfield 43, 3)) ∧ (decode cX0_addStar 45 = .ok (.iconst 1, 1)) ∧ (decode cX0_addStar 46 = .ok (.iadd, 1)) ∧ (decode cX0_addStar 47 = .ok (.putfield 43, 3)) ∧ (decode cX0_addStar 50 = .ok (.iconst 1, 1)) ∧ (decode cX0_addStar 51 = .ok (.ireturn, 1)) := by decide +kernel
theorem dX0_addStar_28 : decode cX0_addStar 28 = .ok (.iload_n 2, 1) := dg_a20.1
theorem dX0_addStar_29 : decode cX0_addStar 29 = .ok (.iastore, 1) := dg_a20.2.1
theorem dX0_addStar_30 : decode cX0_addStar 30 = .ok (.aload_n 0, 1) := dg_a20.2.2.1
theorem dX0_addStar_31 : decode cX0_addStar 31 = .ok (.getfield 18, 3) := dg_a20.2.2.2.1
theorem dX0_addStar_34 : decode cX0_addStar 34 = .ok (.aload_n 0, 1) := dg_a20.2.2.2.2.1
theorem dX0_addStar_35 : decode cX0_addStar 35 = .ok (.getfield 43, 3) := dg_a20.2.2.2.2.2.1
theorem dX0_addStar_38 : decode cX0_addStar 38 = .ok (.iload_n 3, 1) := dg_a20.2.2.2.2.2.2.1
theorem dX0_addStar_39 : decode cX0_addStar 39 = .ok (.iastore, 1) := dg_a20.2.2.2.2.2.2.2.1
theorem dX0_addStar_40 : decode cX0_addStar 40 = .ok (.aload_n 0, 1) := dg_a20.2.2.2.2.2.2.2.2.1
theorem dX0_addStar_41 : decode cX0_addStar 41 = .ok (.dup, 1) := dg_a20.2.2.2.2.2.2.2.2.2.1
theorem dX0_addStar_42 : decode cX0_addStar 42 = .ok (.getfield 43, 3) := dg_a20.2.2.2.2.2.2.2.2.2.2.1
theorem dX0_addStar_45 : decode cX0_addStar 45 = .ok (.iconst 1, 1) := dg_a20.2.2.2.2.2.2.2.2.2.2.2.1
theorem dX0_addStar_46 : decode cX0_addStar 46 = .ok (.iadd, 1) := dg_a20.2.2.2.2.2.2.2.2.2.2.2.2.1
theorem dX0_addStar_47 : decode cX0_addStar 47 = .ok (.putfield 43, 3) := dg_a20.2.2.2.2.2.2.2.2.2.2.2.2.2.1
theorem dX0_addStar_50 : decode cX0_addStar 50 = .ok (.iconst 1, 1) := dg_a20.2.2.2.2.2.2.2.2.2.2.2.2.2.2.1
theorem dX0_addStar_51 : decode cX0_addStar 51 = .ok (.ireturn, 1) := dg_a20.2.2.2.2.2.2.2.2.2.2.2.2.2.2.2
theorem dg_a21 : (decode cX0_addWalker 0 = .ok (.aload_n 0, 1)) ∧ (decode cX0_addWalker 1 = .ok (.getfield 50, 3)) ∧ (decode cX0_addWalker 4 = .ok (.iconst 3, 1)) ∧ (decode cX0_addWalker 5 = .ok (.if_icmp .lt 5, 3)) ∧ (decode cX0_addWalker 8 = .ok (.iconst 0, 1)) ∧ (decode cX0_addWalker 9 = .ok (.ireturn, 1)) ∧ (decode cX0_addWalker 10 = .ok (.aload_n 0, 1)) ∧ (decode cX0_addWalker 11 = .ok (.getfield 21, 3)) ∧ (decode cX0_addWalker 14 = .ok (.aload_n 0, 1)) ∧ (decode cX0_addWalker 15 = .ok (.getfield 50, 3)) ∧ (decode cX0_addWalker 18 = .ok (.iload_n 1, 1)) ∧ (decode cX0_addWalker 19 = .ok (.iastore, 1)) ∧ (decode cX0_addWalker 20 = .ok (.aload_n 0, 1)) ∧ (decode cX0_addWalker 21 = .ok (.dup, 1)) ∧ (decode cX0_addWalker 22 = .ok (.getfield 50, 3)) ∧ (decode cX0_addWalker 25 = .ok (.iconst 1, 1)) := by decide +kernel
theorem dX0_addWalker_0 : decode cX0_addWalker 0 = .ok (.aload_n 0, 1) := dg_a21.1
theorem dX0_addWalker_1 : decode cX0_addWalker 1 = .ok (.getfield 50, 3) := dg_a21.2.1
theorem dX0_addWalker_4 : decode cX0_addWalker 4 = .ok (.iconst 3, 1) := dg_a21.2.2.1
theorem dX0_addWalker_5 : decode cX0_addWalker 5 = .ok (.if_icmp .lt 5, 3) := dg_a21.2.2.2.1
theorem dX0_addWalker_8 : decode cX0_addWalker 8 = .ok (.iconst 0, 1) := dg_a21.2.2.2.2.1
theorem dX0_addWalker_9 : decode cX0_addWalker 9 = .ok (.ireturn, 1) := dg_a21.2.2.2.2.2.1
theorem dX0_addWalker_10 : decode cX0_addWalker 10 = .ok (.aload_n 0, 1) := dg_a21.2.2.2.2.2.2.1
theorem dX0_addWalker_11 : decode cX0_addWalker 11 = .ok (.getfield 21, 3) := dg_a21.2.2.2.2.2.2.2.1
theorem dX0_addWalker_14 : decode cX0_addWalker 14 = .ok (.aload_n 0, 1) := dg_a21.2.2.2.2.2.2.2.2.1
theorem dX0_addWalker_15 : decode cX0_addWalker 15 = .ok (.getfield 50, 3) := dg_a21.2.2.2.2.2.2.2.2.2.1
theorem dX0_addWalker_18 : decode cX0_addWalker 18 = .ok (.iload_n 1, 1) := dg_a21.2.2.2.2.2.2.2.2.2.2.1
theorem dX0_addWalker_19 : decode cX0_addWalker 19 = .ok (.iastore, 1) := dg_a21.2.2.2.2.2.2.2.2.2.2.2.1
theorem dX0_addWalker_20 : decode cX0_addWalker 20 = .ok (.aload_n 0, 1) := dg_a21.2.2.2.2.2.2.2.2.2.2.2.2.1
theorem dX0_addWalker_21 : decode cX0_addWalker 21 = .ok (.dup, 1) := dg_a21.2.2.2.2.2.2.2.2.2.2.2.2.2.1
theorem dX0_addWalker_22 : decode cX0_addWalker 22 = .ok (.getfield 50, 3) := dg_a21.2.2.2.2.2.2.2.2.2.2.2.2.2.2.1
theorem dX0_addWalker_25 : decode cX0_addWalker 25 = .ok (.iconst 1, 1) := dg_a21.2.2.2.2.2.2.2.2.2.2.2.2.2.2.2
theorem dg_a22 : (decode cX0_addWalker 26 = .ok (.iadd, 1)) ∧ (decode cX0_addWalker 27 = .ok (.putfield 50, 3)) ∧ (decode cX0_addWalker 30 = .ok (.iconst 1, 1)) ∧ (decode cX0_addWalker 31 = .ok (.ireturn, 1)) := by decide +kernel
theorem dX0_addWalker_26 : decode cX0_addWalker 26 = .ok (.iadd, 1) := dg_a22.1
theorem dX0_addWalker_27 : decode cX0_addWalker 27 = .ok (.putfield 50, 3) := dg_a22.2.1
theorem dX0_addWalker_30 : decode cX0_addWalker 30 = .ok (.iconst 1, 1) := dg_a22.2.2.1
theorem dX0_addWalker_31 : decode cX0_addWalker 31 = .ok (.ireturn, 1) := dg_a22.2.2.2
theorem dg_a23 : (decode cX0_addAim 0 = .ok (.aload_n 0, 1)) ∧ (decode cX0_addAim 1 = .ok (.getfield 80, 3)) ∧ (decode cX0_addAim 4 = .ok (.bipush 8, 2)) ∧ (decode cX0_addAim 6 = .ok (.if_icmp .lt 5, 3)) ∧ (decode cX0_addAim 9 = .ok (.iconst 0, 1)) ∧ (decode cX0_addAim 10 = .ok (.ireturn, 1)) ∧ (decode cX0_addAim 11 = .ok (.aload_n 0, 1)) ∧ (decode cX0_addAim 12 = .ok (.getfield 31, 3)) ∧ (decode cX0_addAim 15 = .ok (.aload_n 0, 1)) ∧ (decode cX0_addAim 16 = .ok (.getfield 80, 3)) ∧ (decode cX0_addAim 19 = .ok (.iload_n 1, 1)) ∧ (decode cX0_addAim 20 = .ok (.iastore, 1)) ∧ (decode cX0_addAim 21 = .ok (.aload_n 0, 1)) ∧ (decode cX0_addAim 22 = .ok (.dup, 1)) ∧ (decode cX0_addAim 23 = .ok (.getfield 80, 3)) ∧ (decode cX0_addAim 26 = .ok (.iconst 1, 1)) := by decide +kernel
theorem dX0_addAim_0 : decode cX0_addAim 0 = .ok (.aload_n 0, 1) := dg_a23.1
theorem dX0_addAim_1 : decode cX0_addAim 1 = .ok (.getfield 80, 3) := dg_a23.2.1
theorem dX0_addAim_4 : decode cX0_addAim 4 = .ok (.bipush 8, 2) := dg_a23.2.2.1
theorem dX0_addAim_6 : decode cX0_addAim 6 = .ok (.if_icmp .lt 5, 3) := dg_a23.2.2.2.1
theorem dX0_addAim_9 : decode cX0_addAim 9 = .ok (.iconst 0, 1) := dg_a23.2.2.2.2.1
theorem dX0_addAim_10 : decode cX0_addAim 10 = .ok (.ireturn, 1) := dg_a23.2.2.2.2.2.1
theorem dX0_addAim_11 : decode cX0_addAim 11 = .ok (.aload_n 0, 1) := dg_a23.2.2.2.2.2.2.1
theorem dX0_addAim_12 : decode cX0_addAim 12 = .ok (.getfield 31, 3) := dg_a23.2.2.2.2.2.2.2.1
theorem dX0_addAim_15 : decode cX0_addAim 15 = .ok (.aload_n 0, 1) := dg_a23.2.2.2.2.2.2.2.2.1
theorem dX0_addAim_16 : decode cX0_addAim 16 = .ok (.getfield 80, 3) := dg_a23.2.2.2.2.2.2.2.2.2.1
theorem dX0_addAim_19 : decode cX0_addAim 19 = .ok (.iload_n 1, 1) := dg_a23.2.2.2.2.2.2.2.2.2.2.1
theorem dX0_addAim_20 : decode cX0_addAim 20 = .ok (.iastore, 1) := dg_a23.2.2.2.2.2.2.2.2.2.2.2.1
theorem dX0_addAim_21 : decode cX0_addAim 21 = .ok (.aload_n 0, 1) := dg_a23.2.2.2.2.2.2.2.2.2.2.2.2.1
theorem dX0_addAim_22 : decode cX0_addAim 22 = .ok (.dup, 1) := dg_a23.2.2.2.2.2.2.2.2.2.2.2.2.2.1
theorem dX0_addAim_23 : decode cX0_addAim 23 = .ok (.getfield 80, 3) := dg_a23.2.2.2.2.2.2.2.2.2.2.2.2.2.2.1
theorem dX0_addAim_26 : decode cX0_addAim 26 = .ok (.iconst 1, 1) := dg_a23.2.2.2.2.2.2.2.2.2.2.2.2.2.2.2
theorem dg_a24 : (decode cX0_addAim 27 = .ok (.iadd, 1)) ∧ (decode cX0_addAim 28 = .ok (.putfield 80, 3)) ∧ (decode cX0_addAim 31 = .ok (.iconst 1, 1)) ∧ (decode cX0_addAim 32 = .ok (.ireturn, 1)) := by decide +kernel
theorem dX0_addAim_27 : decode cX0_addAim 27 = .ok (.iadd, 1) := dg_a24.1
theorem dX0_addAim_28 : decode cX0_addAim 28 = .ok (.putfield 80, 3) := dg_a24.2.1
theorem dX0_addAim_31 : decode cX0_addAim 31 = .ok (.iconst 1, 1) := dg_a24.2.2.1
theorem dX0_addAim_32 : decode cX0_addAim 32 = .ok (.ireturn, 1) := dg_a24.2.2.2
theorem dg_a25 : (decode cX0_isStarUp 0 = .ok (.aload_n 0, 1)) ∧ (decode cX0_isStarUp 1 = .ok (.iload_n 1, 1)) ∧ (decode cX0_isStarUp 2 = .ok (.invokevirtual 96, 3)) ∧ (decode cX0_isStarUp 5 = .ok (.ifCond .eq 35, 3)) ∧ (decode cX0_isStarUp 8 = .ok (.aload_n 0, 1)) ∧ (decode cX0_isStarUp 9 = .ok (.getfield 9, 3)) ∧ (decode cX0_isStarUp 12 = .ok (.iload_n 1, 1)) ∧ (decode cX0_isStarUp 13 = .ok (.iaload, 1)) ∧ (decode cX0_isStarUp 14 = .ok (.iload_n 2, 1)) ∧ (decode cX0_isStarUp 15 = .ok (.if_icmp .gt 25, 3)) ∧ (decode cX0_isStarUp 18 = .ok (.iload_n 2, 1)) ∧ (decode cX0_isStarUp 19 = .ok (.aload_n 0, 1)) ∧ (decode cX0_isStarUp 20 = .ok (.getfield 15, 3)) ∧ (decode cX0_isStarUp 23 = .ok (.iload_n 1, 1)) ∧ (decode cX0_isStarUp 24 = .ok (.iaload, 1)) ∧ (decode cX0_isStarUp 25 = .ok (.if_icmp .gt 15, 3)) := by decide +kernel
theorem dX0_isStarUp_0 : decode cX0_isStarUp 0 = .ok (.aload_n 0, 1) := dg_a25.1
theorem dX0_isStarUp_1 : decode cX0_isStarUp 1 = .ok (.iload_n 1, 1) := dg_a25.2.1
theorem dX0_isStarUp_2 : decode cX0_isStarUp 2 = .ok (.invokevirtual 96, 3) := dg_a25.2.2.1
theorem dX0_isStarUp_5 : decode cX0_isStarUp 5 = .ok (.ifCond .eq 35, 3) := dg_a25.2.2.2.1
theorem dX0_isStarUp_8 : decode cX0_isStarUp 8 = .ok (.aload_n 0, 1) := dg_a25.2.2.2.2.1
theorem dX0_isStarUp_9 : decode cX0_isStarUp 9 = .ok (.getfield 9, 3) := dg_a25.2.2.2.2.2.1
theorem dX0_isStarUp_12 : decode cX0_isStarUp 12 = .ok (.iload_n 1, 1) := dg_a25.2.2.2.2.2.2.1
theorem dX0_isStarUp_13 : decode cX0_isStarUp 13 = .ok (.iaload, 1) := dg_a25.2.2.2.2.2.2.2.1
theorem dX0_isStarUp_14 : decode cX0_isStarUp 14 = .ok (.iload_n 2, 1) := dg_a25.2.2.2.2.2.2.2.2.1
theorem dX0_isStarUp_15 : decode cX0_isStarUp 15 = .ok (.if_icmp .gt 25, 3) := dg_a25.2.2.2.2.2.2.2.2.2.1
theorem dX0_isStarUp_18 : decode cX0_isStarUp 18 = .ok (.iload_n 2, 1) := dg_a25.2.2.2.2.2.2.2.2.2.2.1
theorem dX0_isStarUp_19 : decode cX0_isStarUp 19 = .ok (.aload_n 0, 1) := dg_a25.2.2.2.2.2.2.2.2.2.2.2.1
theorem dX0_isStarUp_20 : decode cX0_isStarUp 20 = .ok (.getfield 15, 3) := dg_a25.2.2.2.2.2.2.2.2.2.2.2.2.1
theorem dX0_isStarUp_23 : decode cX0_isStarUp 23 = .ok (.iload_n 1, 1) := dg_a25.2.2.2.2.2.2.2.2.2.2.2.2.2.1
theorem dX0_isStarUp_24 : decode cX0_isStarUp 24 = .ok (.iaload, 1) := dg_a25.2.2.2.2.2.2.2.2.2.2.2.2.2.2.1
theorem dX0_isStarUp_25 : decode cX0_isStarUp 25 = .ok (.if_icmp .gt 15, 3) := dg_a25.2.2.2.2.2.2.2.2.2.2.2.2.2.2.2
theorem dg_a26 : (decode cX0_isStarUp 28 = .ok (.aload_n 0, 1)) ∧ (decode cX0_isStarUp 29 = .ok (.iload_n 2, 1)) ∧ (decode cX0_isStarUp 30 = .ok (.invokevirtual 100, 3)) ∧ (decode cX0_isStarUp 33 = .ok (.ifCond .ne 7, 3)) ∧ (decode cX0_isStarUp 36 = .ok (.iconst 1, 1)) ∧ (decode cX0_isStarUp 37 = .ok (.goto 4, 3)) ∧ (decode cX0_isStarUp 40 = .ok (.iconst 0, 1)) ∧ (decode cX0_isStarUp 41 = .ok (.ireturn, 1)) := by decide +kernel
theorem dX0_isStarUp_28 : decode cX0_isStarUp 28 = .ok (.aload_n 0, 1) := dg_a26.1
theorem dX0_isStarUp_29 : decode cX0_isStarUp 29 = .ok (.iload_n 2, 1) := dg_a26.2.1
theorem dX0_isStarUp_30 : decode cX0_isStarUp 30 = .ok (.invokevirtual 100, 3) := dg_a26.2.2.1
theorem dX0_isStarUp_33 : decode cX0_isStarUp 33 = .ok (.ifCond .ne 7, 3) := dg_a26.2.2.2.1
theorem dX0_isStarUp_36 : decode cX0_isStarUp 36 = .ok (.iconst 1, 1) := dg_a26.2.2.2.2.1
theorem dX0_isStarUp_37 : decode cX0_isStarUp 37 = .ok (.goto 4, 3) := dg_a26.2.2.2.2.2.1
theorem dX0_isStarUp_40 : decode cX0_isStarUp 40 = .ok (.iconst 0, 1) := dg_a26.2.2.2.2.2.2.1
theorem dX0_isStarUp_41 : decode cX0_isStarUp 41 = .ok (.ireturn, 1) := dg_a26.2.2.2.2.2.2.2
theorem dg_a27 : (decode cX0_isBlind 0 = .ok (.iload_n 1, 1)) ∧ (decode cX0_isBlind 1 = .ok (.bipush 6, 2)) ∧ (decode cX0_isBlind 3 = .ok (.if_icmp .eq 24, 3)) ∧ (decode cX0_isBlind 6 = .ok (.aload_n 0, 1)) ∧ (decode cX0_isBlind 7 = .ok (.iload_n 1, 1)) ∧ (decode cX0_isBlind 8 = .ok (.iload_n 2, 1)) ∧ (decode cX0_isBlind 9 = .ok (.invokevirtual 103, 3)) ∧ (decode cX0_isBlind 12 = .ok (.ifCond .ne 15, 3)) ∧ (decode cX0_isBlind 15 = .ok (.iload_n 2, 1)) ∧ (decode cX0_isBlind 16 = .ok (.aload_n 0, 1)) ∧ (decode cX0_isBlind 17 = .ok (.getfield 62, 3)) ∧ (decode cX0_isBlind 20 = .ok (.if_icmp .lt 7, 3)) ∧ (decode cX0_isBlind 23 = .ok (.iconst 1, 1)) ∧ (decode cX0_isBlind 24 = .ok (.goto 4, 3)) ∧ (decode cX0_isBlind 27 = .ok (.iconst 0, 1)) ∧ (decode cX0_isBlind 28 = .ok (.ireturn, 1)) := by decide +kernel
theorem dX0_isBlind_0 : decode cX0_isBlind 0 = .ok (.iload_n 1, 1) := dg_a27.1
theorem dX0_isBlind_1 : decode cX0_isBlind 1 = .ok (.bipush 6, 2) := dg_a27.2.1
theorem dX0_isBlind_3 : decode cX0_isBlind 3 = .ok (.if_icmp .eq 24, 3) := dg_a27.2.2.1
theorem dX0_isBlind_6 : decode cX0_isBlind 6 = .ok (.aload_n 0, 1) := dg_a27.2.2.2.1
theorem dX0_isBlind_7 : decode cX0_isBlind 7 = .ok (.iload_n 1, 1) := dg_a27.2.2.2.2.1
theorem dX0_isBlind_8 : decode cX0_isBlind 8 = .ok (.iload_n 2, 1) := dg_a27.2.2.2.2.2.1
theorem dX0_isBlind_9 : decode cX0_isBlind 9 = .ok (.invokevirtual 103, 3) := dg_a27.2.2.2.2.2.2.1
theorem dX0_isBlind_12 : decode cX0_isBlind 12 = .ok (.ifCond .ne 15, 3) := dg_a27.2.2.2.2.2.2.2.1
theorem dX0_isBlind_15 : decode cX0_isBlind 15 = .ok (.iload_n 2, 1) := dg_a27.2.2.2.2.2.2.2.2.1
theorem dX0_isBlind_16 : decode cX0_isBlind 16 = .ok (.aload_n 0, 1) := dg_a27.2.2.2.2.2.2.2.2.2.1
theorem dX0_isBlind_17 : decode cX0_isBlind 17 = .ok (.getfield 62, 3) := dg_a27.2.2.2.2.2.2.2.2.2.2.1
theorem dX0_isBlind_20 : decode cX0_isBlind 20 = .ok (.if_icmp .lt 7, 3) := dg_a27.2.2.2.2.2.2.2.2.2.2.2.1
theorem dX0_isBlind_23 : decode cX0_isBlind 23 = .ok (.iconst 1, 1) := dg_a27.2.2.2.2.2.2.2.2.2.2.2.2.1
theorem dX0_isBlind_24 : decode cX0_isBlind 24 = .ok (.goto 4, 3) := dg_a27.2.2.2.2.2.2.2.2.2.2.2.2.2.1
theorem dX0_isBlind_27 : decode cX0_isBlind 27 = .ok (.iconst 0, 1) := dg_a27.2.2.2.2.2.2.2.2.2.2.2.2.2.2.1
theorem dX0_isBlind_28 : decode cX0_isBlind 28 = .ok (.ireturn, 1) := dg_a27.2.2.2.2.2.2.2.2.2.2.2.2.2.2.2
theorem dg_a28 : (decode cX0_isWithinBroad 0 = .ok (.aload_n 1, 1)) ∧ (decode cX0_isWithinBroad 1 = .ok (.getfield 74, 3)) ∧ (decode cX0_isWithinBroad 4 = .ok (.invokestatic 107, 3)) ∧ (decode cX0_isWithinBroad 7 = .ok (.aload_n 0, 1)) ∧ (decode cX0_isWithinBroad 8 = .ok (.getfield 59, 3)) ∧ (decode cX0_isWithinBroad 11 = .ok (.if_icmp .gt 7, 3)) ∧ (decode cX0_isWithinBroad 14 = .ok (.iconst 1, 1)) ∧ (decode cX0_isWithinBroad 15 = .ok (.goto 4, 3)) ∧ (decode cX0_isWithinBroad 18 = .ok (.iconst 0, 1)) ∧ (decode cX0_isWithinBroad 19 = .ok (.ireturn, 1)) := by decide +kernel
theorem dX0_isWithinBroad_0 : decode cX0_isWithinBroad 0 = .ok (.aload_n 1, 1) := dg_a28.1
theorem dX0_isWithinBroad_1 : decode cX0_isWithinBroad 1 = .ok (.getfield 74, 3) := dg_a28.2.1
theorem dX0_isWithinBroad_4 : decode cX0_isWithinBroad 4 = .ok (.invokestatic 107, 3) := dg_a28.2.2.1
theorem dX0_isWithinBroad_7 : decode cX0_isWithinBroad 7 = .ok (.aload_n 0, 1) := dg_a28.2.2.2.1
theorem dX0_isWithinBroad_8 : decode cX0_isWithinBroad 8 = .ok (.getfield 59, 3) := dg_a28.2.2.2.2.1
theorem dX0_isWithinBroad_11 : decode cX0_isWithinBroad 11 = .ok (.if_icmp .gt 7, 3) := dg_a28.2.2.2.2.2.1
theorem dX0_isWithinBroad_14 : decode cX0_isWithinBroad 14 = .ok (.iconst 1, 1) := dg_a28.2.2.2.2.2.2.1
theorem dX0_isWithinBroad_15 : decode cX0_isWithinBroad 15 = .ok (.goto 4, 3) := dg_a28.2.2.2.2.2.2.2.1
theorem dX0_isWithinBroad_18 : decode cX0_isWithinBroad 18 = .ok (.iconst 0, 1) := dg_a28.2.2.2.2.2.2.2.2.1
theorem dX0_isWithinBroad_19 : decode cX0_isWithinBroad 19 = .ok (.ireturn, 1) := dg_a28.2.2.2.2.2.2.2.2.2
theorem dg_a29 : (decode cX0_isAtWell 0 = .ok (.aload_n 1, 1)) ∧ (decode cX0_isAtWell 1 = .ok (.getfield 71, 3)) ∧ (decode cX0_isAtWell 4 = .ok (.aload_n 0, 1)) ∧ (decode cX0_isAtWell 5 = .ok (.getfield 56, 3)) ∧ (decode cX0_isAtWell 8 = .ok (.if_icmp .lt 15, 3)) ∧ (decode cX0_isAtWell 11 = .ok (.aload_n 0, 1)) ∧ (decode cX0_isAtWell 12 = .ok (.aload_n 1, 1)) ∧ (decode cX0_isAtWell 13 = .ok (.invokevirtual 113, 3)) ∧ (decode cX0_isAtWell 16 = .ok (.ifCond .eq 7, 3)) ∧ (decode cX0_isAtWell 19 = .ok (.iconst 1, 1)) ∧ (decode cX0_isAtWell 20 = .ok (.goto 4, 3)) ∧ (decode cX0_isAtWell 23 = .ok (.iconst 0, 1)) ∧ (decode cX0_isAtWell 24 = .ok (.ireturn, 1)) := by decide +kernel
theorem dX0_isAtWell_0 : decode cX0_isAtWell 0 = .ok (.aload_n 1, 1) := dg_a29.1
theorem dX0_isAtWell_1 : decode cX0_isAtWell 1 = .ok (.getfield 71, 3) := dg_a29.2.1
theorem dX0_isAtWell_4 : decode cX0_isAtWell 4 = .ok (.aload_n 0, 1) := dg_a29.2.2.1
theorem dX0_isAtWell_5 : decode cX0_isAtWell 5 = .ok (.getfield 56, 3) := dg_a29.2.2.2.1
theorem dX0_isAtWell_8 : decode cX0_isAtWell 8 = .ok (.if_icmp .lt 15, 3) := dg_a29.2.2.2.2.1
theorem dX0_isAtWell_11 : decode cX0_isAtWell 11 = .ok (.aload_n 0, 1) := dg_a29.2.2.2.2.2.1
theorem dX0_isAtWell_12 : decode cX0_isAtWell 12 = .ok (.aload_n 1, 1) := dg_a29.2.2.2.2.2.2.1
theorem dX0_isAtWell_13 : decode cX0_isAtWell 13 = .ok (.invokevirtual 113, 3) := dg_a29.2.2.2.2.2.2.2.1
theorem dX0_isAtWell_16 : decode cX0_isAtWell 16 = .ok (.ifCond .eq 7, 3) := dg_a29.2.2.2.2.2.2.2.2.1
theorem dX0_isAtWell_19 : decode cX0_isAtWell 19 = .ok (.iconst 1, 1) := dg_a29.2.2.2.2.2.2.2.2.2.1
theorem dX0_isAtWell_20 : decode cX0_isAtWell 20 = .ok (.goto 4, 3) := dg_a29.2.2.2.2.2.2.2.2.2.2.1
theorem dX0_isAtWell_23 : decode cX0_isAtWell 23 = .ok (.iconst 0, 1) := dg_a29.2.2.2.2.2.2.2.2.2.2.2.1
theorem dX0_isAtWell_24 : decode cX0_isAtWell 24 = .ok (.ireturn, 1) := dg_a29.2.2.2.2.2.2.2.2.2.2.2.2
theorem dg_a30 : (decode cX0_pullOfKind 0 = .ok (.iload_n 1, 1)) ∧ (decode cX0_pullOfKind 1 = .ok (.iconst 5, 1)) ∧ (decode cX0_pullOfKind 2 = .ok (.if_icmp .lt 7, 3)) ∧ (decode cX0_pullOfKind 5 = .ok (.iconst 1, 1)) ∧ (decode cX0_pullOfKind 6 = .ok (.goto 4, 3)) ∧ (decode cX0_pullOfKind 9 = .ok (.iconst 0, 1)) ∧ (decode cX0_pullOfKind 10 = .ok (.istore_n 2, 1)) ∧ (decode cX0_pullOfKind 11 = .ok (.iload_n 2, 1)) ∧ (decode cX0_pullOfKind 12 = .ok (.iconst 1, 1)) ∧ (decode cX0_pullOfKind 13 = .ok (.iadd, 1)) ∧ (decode cX0_pullOfKind 14 = .ok (.istore_n 3, 1)) ∧ (decode cX0_pullOfKind 15 = .ok (.iload_n 0, 1)) ∧ (decode cX0_pullOfKind 16 = .ok (.tableswitch 38 0 2 #[28, 30, 32], 28)) ∧ (decode cX0_pullOfKind 44 = .ok (.iload_n 2, 1)) ∧ (decode cX0_pullOfKind 45 = .ok (.ireturn, 1)) ∧ (decode cX0_pullOfKind 46 = .ok (.iload_n 3, 1)) := by decide +kernel
theorem dX0_pullOfKind_0 : decode cX0_pullOfKind 0 = .ok (.iload_n 1, 1) := dg_a30.1
theorem dX0_pullOfKind_1 : decode cX0_pullOfKind 1 = .ok (.iconst 5, 1) := dg_a30.2.1
theorem dX0_pullOfKind_2 : decode cX0_pullOfKind 2 = .ok (.if_icmp .lt 7, 3) := dg_a30.2.2.1
theorem dX0_pullOfKind_5 : decode cX0_pullOfKind 5 = .ok (.iconst 1, 1) := dg_a30.2.2.2.1
theorem dX0_pullOfKind_6 : decode cX0_pullOfKind 6 = .ok (.goto 4, 3) := dg_a30.2.2.2.2.1
theorem dX0_pullOfKind_9 : decode cX0_pullOfKind 9 = .ok (.iconst 0, 1) := dg_a30.2.2.2.2.2.1
theorem dX0_pullOfKind_10 : decode cX0_pullOfKind 10 = .ok (.istore_n 2, 1) := dg_a30.2.2.2.2.2.2.1
theorem dX0_pullOfKind_11 : decode cX0_pullOfKind 11 = .ok (.iload_n 2, 1) := dg_a30.2.2.2.2.2.2.2.1
theorem dX0_pullOfKind_12 : decode cX0_pullOfKind 12 = .ok (.iconst 1, 1) := dg_a30.2.2.2.2.2.2.2.2.1
theorem dX0_pullOfKind_13 : decode cX0_pullOfKind 13 = .ok (.iadd, 1) := dg_a30.2.2.2.2.2.2.2.2.2.1
theorem dX0_pullOfKind_14 : decode cX0_pullOfKind 14 = .ok (.istore_n 3, 1) := dg_a30.2.2.2.2.2.2.2.2.2.2.1
theorem dX0_pullOfKind_15 : decode cX0_pullOfKind 15 = .ok (.iload_n 0, 1) := dg_a30.2.2.2.2.2.2.2.2.2.2.2.1
theorem dX0_pullOfKind_16 : decode cX0_pullOfKind 16 = .ok (.tableswitch 38 0 2 #[28, 30, 32], 28) := dg_a30.2.2.2.2.2.2.2.2.2.2.2.2.1
theorem dX0_pullOfKind_44 : decode cX0_pullOfKind 44 = .ok (.iload_n 2, 1) := dg_a30.2.2.2.2.2.2.2.2.2.2.2.2.2.1
theorem dX0_pullOfKind_45 : decode cX0_pullOfKind 45 = .ok (.ireturn, 1) := dg_a30.2.2.2.2.2.2.2.2.2.2.2.2.2.2.1
theorem dX0_pullOfKind_46 : decode cX0_pullOfKind 46 = .ok (.iload_n 3, 1) := dg_a30.2.2.2.2.2.2.2.2.2.2.2.2.2.2.2
theorem dg_a31 : (decode cX0_pullOfKind 47 = .ok (.ireturn, 1)) ∧ (decode cX0_pullOfKind 48 = .ok (.iload_n 3, 1)) ∧ (decode cX0_pullOfKind 49 = .ok (.iload_n 1, 1)) ∧ (decode cX0_pullOfKind 50 = .ok (.iconst 4, 1)) ∧ (decode cX0_pullOfKind 51 = .ok (.idiv, 1)) ∧ (decode cX0_pullOfKind 52 = .ok (.iadd, 1)) ∧ (decode cX0_pullOfKind 53 = .ok (.ireturn, 1)) ∧ (decode cX0_pullOfKind 54 = .ok (.iload_n 3, 1)) ∧ (decode cX0_pullOfKind 55 = .ok (.iconst 2, 1)) ∧ (decode cX0_pullOfKind 56 = .ok (.idiv, 1)) ∧ (decode cX0_pullOfKind 57 = .ok (.ireturn, 1)) := by decide +kernel
theorem dX0_pullOfKind_47 : decode cX0_pullOfKind 47 = .ok (.ireturn, 1) := dg_a31.1
theorem dX0_pullOfKind_48 : decode cX0_pullOfKind 48 = .ok (.iload_n 3, 1) := dg_a31.2.1
theorem dX0_pullOfKind_49 : decode cX0_pullOfKind 49 = .ok (.iload_n 1, 1) := dg_a31.2.2.1
theorem dX0_pullOfKind_50 : decode cX0_pullOfKind 50 = .ok (.iconst 4, 1) := dg_a31.2.2.2.1
theorem dX0_pullOfKind_51 : decode cX0_pullOfKind 51 = .ok (.idiv, 1) := dg_a31.2.2.2.2.1
theorem dX0_pullOfKind_52 : decode cX0_pullOfKind 52 = .ok (.iadd, 1) := dg_a31.2.2.2.2.2.1
theorem dX0_pullOfKind_53 : decode cX0_pullOfKind 53 = .ok (.ireturn, 1) := dg_a31.2.2.2.2.2.2.1
theorem dX0_pullOfKind_54 : decode cX0_pullOfKind 54 = .ok (.iload_n 3, 1) := dg_a31.2.2.2.2.2.2.2.1
theorem dX0_pullOfKind_55 : decode cX0_pullOfKind 55 = .ok (.iconst 2, 1) := dg_a31.2.2.2.2.2.2.2.2.1
theorem dX0_pullOfKind_56 : decode cX0_pullOfKind 56 = .ok (.idiv, 1) := dg_a31.2.2.2.2.2.2.2.2.2.1
theorem dX0_pullOfKind_57 : decode cX0_pullOfKind 57 = .ok (.ireturn, 1) := dg_a31.2.2.2.2.2.2.2.2.2.2
theorem dg_a32 : (decode cX0_pullOfRow 0 = .ok (.aload_n 0, 1)) ∧ (decode cX0_pullOfRow 1 = .ok (.aload_n 0, 1)) ∧ (decode cX0_pullOfRow 2 = .ok (.getfield 53, 3)) ∧ (decode cX0_pullOfRow 5 = .ok (.invokevirtual 117, 3)) ∧ (decode cX0_pullOfRow 8 = .ok (.ifCond .ne 5, 3)) ∧ (decode cX0_pullOfRow 11 = .ok (.iconst 0, 1)) ∧ (decode cX0_pullOfRow 12 = .ok (.ireturn, 1)) ∧ (decode cX0_pullOfRow 13 = .ok (.aload_n 0, 1)) ∧ (decode cX0_pullOfRow 14 = .ok (.getfield 21, 3)) ∧ (decode cX0_pullOfRow 17 = .ok (.aload_n 0, 1)) ∧ (decode cX0_pullOfRow 18 = .ok (.getfield 53, 3)) ∧ (decode cX0_pullOfRow 21 = .ok (.iaload, 1)) ∧ (decode cX0_pullOfRow 22 = .ok (.iload_n 1, 1)) ∧ (decode cX0_pullOfRow 23 = .ok (.invokestatic 120, 3)) ∧ (decode cX0_pullOfRow 26 = .ok (.istore_n 2, 1)) ∧ (decode cX0_pullOfRow 27 = .ok (.aload_n 0, 1)) := by decide +kernel
theorem dX0_pullOfRow_0 : decode cX0_pullOfRow 0 = .ok (.aload_n 0, 1) := dg_a32.1
theorem dX0_pullOfRow_1 : decode cX0_pullOfRow 1 = .ok (.aload_n 0, 1) := dg_a32.2.1
theorem dX0_pullOfRow_2 : decode cX0_pullOfRow 2 = .ok (.getfield 53, 3) := dg_a32.2.2.1
theorem dX0_pullOfRow_5 : decode cX0_pullOfRow 5 = .ok (.invokevirtual 117, 3) := dg_a32.2.2.2.1
theorem dX0_pullOfRow_8 : decode cX0_pullOfRow 8 = .ok (.ifCond .ne 5, 3) := dg_a32.2.2.2.2.1
theorem dX0_pullOfRow_11 : decode cX0_pullOfRow 11 = .ok (.iconst 0, 1) := dg_a32.2.2.2.2.2.1
theorem dX0_pullOfRow_12 : decode cX0_pullOfRow 12 = .ok (.ireturn, 1) := dg_a32.2.2.2.2.2.2.1
theorem dX0_pullOfRow_13 : decode cX0_pullOfRow 13 = .ok (.aload_n 0, 1) := dg_a32.2.2.2.2.2.2.2.1
theorem dX0_pullOfRow_14 : decode cX0_pullOfRow 14 = .ok (.getfield 21, 3) := dg_a32.2.2.2.2.2.2.2.2.1
theorem dX0_pullOfRow_17 : decode cX0_pullOfRow 17 = .ok (.aload_n 0, 1) := dg_a32.2.2.2.2.2.2.2.2.2.1
theorem dX0_pullOfRow_18 : decode cX0_pullOfRow 18 = .ok (.getfield 53, 3) := dg_a32.2.2.2.2.2.2.2.2.2.2.1
theorem dX0_pullOfRow_21 : decode cX0_pullOfRow 21 = .ok (.iaload, 1) := dg_a32.2.2.2.2.2.2.2.2.2.2.2.1
theorem dX0_pullOfRow_22 : decode cX0_pullOfRow 22 = .ok (.iload_n 1, 1) := dg_a32.2.2.2.2.2.2.2.2.2.2.2.2.1
theorem dX0_pullOfRow_23 : decode cX0_pullOfRow 23 = .ok (.invokestatic 120, 3) := dg_a32.2.2.2.2.2.2.2.2.2.2.2.2.2.1
theorem dX0_pullOfRow_26 : decode cX0_pullOfRow 26 = .ok (.istore_n 2, 1) := dg_a32.2.2.2.2.2.2.2.2.2.2.2.2.2.2.1
theorem dX0_pullOfRow_27 : decode cX0_pullOfRow 27 = .ok (.aload_n 0, 1) := dg_a32.2.2.2.2.2.2.2.2.2.2.2.2.2.2.2
theorem dg_a33 : (decode cX0_pullOfRow 28 = .ok (.getfield 50, 3)) ∧ (decode cX0_pullOfRow 31 = .ok (.iconst 3, 1)) ∧ (decode cX0_pullOfRow 32 = .ok (.if_icmp .ne 13, 3)) ∧ (decode cX0_pullOfRow 35 = .ok (.iconst 0, 1)) ∧ (decode cX0_pullOfRow 36 = .ok (.iload_n 2, 1)) ∧ (decode cX0_pullOfRow 37 = .ok (.iconst 1, 1)) ∧ (decode cX0_pullOfRow 38 = .ok (.isub, 1)) ∧ (decode cX0_pullOfRow 39 = .ok (.invokestatic 124, 3)) ∧ (decode cX0_pullOfRow 42 = .ok (.goto 4, 3)) ∧ (decode cX0_pullOfRow 45 = .ok (.iload_n 2, 1)) ∧ (decode cX0_pullOfRow 46 = .ok (.ireturn, 1)) := by decide +kernel
theorem dX0_pullOfRow_28 : decode cX0_pullOfRow 28 = .ok (.getfield 50, 3) := dg_a33.1
theorem dX0_pullOfRow_31 : decode cX0_pullOfRow 31 = .ok (.iconst 3, 1) := dg_a33.2.1
theorem dX0_pullOfRow_32 : decode cX0_pullOfRow 32 = .ok (.if_icmp .ne 13, 3) := dg_a33.2.2.1
theorem dX0_pullOfRow_35 : decode cX0_pullOfRow 35 = .ok (.iconst 0, 1) := dg_a33.2.2.2.1
theorem dX0_pullOfRow_36 : decode cX0_pullOfRow 36 = .ok (.iload_n 2, 1) := dg_a33.2.2.2.2.1
theorem dX0_pullOfRow_37 : decode cX0_pullOfRow 37 = .ok (.iconst 1, 1) := dg_a33.2.2.2.2.2.1
theorem dX0_pullOfRow_38 : decode cX0_pullOfRow 38 = .ok (.isub, 1) := dg_a33.2.2.2.2.2.2.1
theorem dX0_pullOfRow_39 : decode cX0_pullOfRow 39 = .ok (.invokestatic 124, 3) := dg_a33.2.2.2.2.2.2.2.1
theorem dX0_pullOfRow_42 : decode cX0_pullOfRow 42 = .ok (.goto 4, 3) := dg_a33.2.2.2.2.2.2.2.2.1
theorem dX0_pullOfRow_45 : decode cX0_pullOfRow 45 = .ok (.iload_n 2, 1) := dg_a33.2.2.2.2.2.2.2.2.2.1
theorem dX0_pullOfRow_46 : decode cX0_pullOfRow 46 = .ok (.ireturn, 1) := dg_a33.2.2.2.2.2.2.2.2.2.2
theorem dg_a34 : (decode cX0_step 0 = .ok (.aload_n 0, 1)) ∧ (decode cX0_step 1 = .ok (.iload_n 2, 1)) ∧ (decode cX0_step 2 = .ok (.invokevirtual 127, 3)) ∧ (decode cX0_step 5 = .ok (.ifCond .eq 10, 3)) ∧ (decode cX0_step 8 = .ok (.aload_n 1, 1)) ∧ (decode cX0_step 9 = .ok (.invokevirtual 130, 3)) ∧ (decode cX0_step 12 = .ok (.ifCond .ne 5, 3)) ∧ (decode cX0_step 15 = .ok (.iconst 0, 1)) ∧ (decode cX0_step 16 = .ok (.ireturn, 1)) ∧ (decode cX0_step 17 = .ok (.aload_n 0, 1)) ∧ (decode cX0_step 18 = .ok (.aload_n 1, 1)) ∧ (decode cX0_step 19 = .ok (.getfield 68, 3)) ∧ (decode cX0_step 22 = .ok (.invokevirtual 134, 3)) ∧ (decode cX0_step 25 = .ok (.istore_n 3, 1)) ∧ (decode cX0_step 26 = .ok (.iload_n 2, 1)) ∧ (decode cX0_step 27 = .ok (.bipush 6, 2)) := by decide +kernel
theorem dX0_step_0 : decode cX0_step 0 = .ok (.aload_n 0, 1) := dg_a34.1
theorem dX0_step_1 : decode cX0_step 1 = .ok (.iload_n 2, 1) := dg_a34.2.1
theorem dX0_step_2 : decode cX0_step 2 = .ok (.invokevirtual 127, 3) := dg_a34.2.2.1
theorem dX0_step_5 : decode cX0_step 5 = .ok (.ifCond .eq 10, 3) := dg_a34.2.2.2.1
theorem dX0_step_8 : decode cX0_step 8 = .ok (.aload_n 1, 1) := dg_a34.2.2.2.2.1
theorem dX0_step_9 : decode cX0_step 9 = .ok (.invokevirtual 130, 3) := dg_a34.2.2.2.2.2.1
theorem dX0_step_12 : decode cX0_step 12 = .ok (.ifCond .ne 5, 3) := dg_a34.2.2.2.2.2.2.1
theorem dX0_step_15 : decode cX0_step 15 = .ok (.iconst 0, 1) := dg_a34.2.2.2.2.2.2.2.1
theorem dX0_step_16 : decode cX0_step 16 = .ok (.ireturn, 1) := dg_a34.2.2.2.2.2.2.2.2.1
theorem dX0_step_17 : decode cX0_step 17 = .ok (.aload_n 0, 1) := dg_a34.2.2.2.2.2.2.2.2.2.1
theorem dX0_step_18 : decode cX0_step 18 = .ok (.aload_n 1, 1) := dg_a34.2.2.2.2.2.2.2.2.2.2.1
theorem dX0_step_19 : decode cX0_step 19 = .ok (.getfield 68, 3) := dg_a34.2.2.2.2.2.2.2.2.2.2.2.1
theorem dX0_step_22 : decode cX0_step 22 = .ok (.invokevirtual 134, 3) := dg_a34.2.2.2.2.2.2.2.2.2.2.2.2.1
theorem dX0_step_25 : decode cX0_step 25 = .ok (.istore_n 3, 1) := dg_a34.2.2.2.2.2.2.2.2.2.2.2.2.2.1
theorem dX0_step_26 : decode cX0_step 26 = .ok (.iload_n 2, 1) := dg_a34.2.2.2.2.2.2.2.2.2.2.2.2.2.2.1
theorem dX0_step_27 : decode cX0_step 27 = .ok (.bipush 6, 2) := dg_a34.2.2.2.2.2.2.2.2.2.2.2.2.2.2.2
theorem dg_a35 : (decode cX0_step 29 = .ok (.if_icmp .ne 13, 3)) ∧ (decode cX0_step 32 = .ok (.aload_n 1, 1)) ∧ (decode cX0_step 33 = .ok (.iconst 0, 1)) ∧ (decode cX0_step 34 = .ok (.iconst 0, 1)) ∧ (decode cX0_step 35 = .ok (.iconst 1, 1)) ∧ (decode cX0_step 36 = .ok (.invokevirtual 137, 3)) ∧ (decode cX0_step 39 = .ok (.goto 81, 3)) ∧ (decode cX0_step 42 = .ok (.aload_n 0, 1)) ∧ (decode cX0_step 43 = .ok (.iload_n 2, 1)) ∧ (decode cX0_step 44 = .ok (.aload_n 1, 1)) ∧ (decode cX0_step 45 = .ok (.getfield 68, 3)) ∧ (decode cX0_step 48 = .ok (.invokevirtual 141, 3)) ∧ (decode cX0_step 51 = .ok (.ifCond .eq 17, 3)) ∧ (decode cX0_step 54 = .ok (.aload_n 1, 1)) ∧ (decode cX0_step 55 = .ok (.iconst 2, 1)) ∧ (decode cX0_step 56 = .ok (.iconst 2, 1)) := by decide +kernel
theorem dX0_step_29 : decode cX0_step 29 = .ok (.if_icmp .ne 13, 3) := dg_a35.1
theorem dX0_step_32 : decode cX0_step 32 = .ok (.aload_n 1, 1) := dg_a35.2.1
theorem dX0_step_33 : decode cX0_step 33 = .ok (.iconst 0, 1) := dg_a35.2.2.1
theorem dX0_step_34 : decode cX0_step 34 = .ok (.iconst 0, 1) := dg_a35.2.2.2.1
theorem dX0_step_35 : decode cX0_step 35 = .ok (.iconst 1, 1) := dg_a35.2.2.2.2.1
theorem dX0_step_36 : decode cX0_step 36 = .ok (.invokevirtual 137, 3) := dg_a35.2.2.2.2.2.1
theorem dX0_step_39 : decode cX0_step 39 = .ok (.goto 81, 3) := dg_a35.2.2.2.2.2.2.1
theorem dX0_step_42 : decode cX0_step 42 = .ok (.aload_n 0, 1) := dg_a35.2.2.2.2.2.2.2.1
theorem dX0_step_43 : decode cX0_step 43 = .ok (.iload_n 2, 1) := dg_a35.2.2.2.2.2.2.2.2.1
theorem dX0_step_44 : decode cX0_step 44 = .ok (.aload_n 1, 1) := dg_a35.2.2.2.2.2.2.2.2.2.1
theorem dX0_step_45 : decode cX0_step 45 = .ok (.getfield 68, 3) := dg_a35.2.2.2.2.2.2.2.2.2.2.1
theorem dX0_step_48 : decode cX0_step 48 = .ok (.invokevirtual 141, 3) := dg_a35.2.2.2.2.2.2.2.2.2.2.2.1
theorem dX0_step_51 : decode cX0_step 51 = .ok (.ifCond .eq 17, 3) := dg_a35.2.2.2.2.2.2.2.2.2.2.2.2.1
theorem dX0_step_54 : decode cX0_step 54 = .ok (.aload_n 1, 1) := dg_a35.2.2.2.2.2.2.2.2.2.2.2.2.2.1
theorem dX0_step_55 : decode cX0_step 55 = .ok (.iconst 2, 1) := dg_a35.2.2.2.2.2.2.2.2.2.2.2.2.2.2.1
theorem dX0_step_56 : decode cX0_step 56 = .ok (.iconst 2, 1) := dg_a35.2.2.2.2.2.2.2.2.2.2.2.2.2.2.2
theorem dg_a36 : (decode cX0_step 57 = .ok (.iload_n 3, 1)) ∧ (decode cX0_step 58 = .ok (.imul, 1)) ∧ (decode cX0_step 59 = .ok (.iconst 1, 1)) ∧ (decode cX0_step 60 = .ok (.iadd, 1)) ∧ (decode cX0_step 61 = .ok (.iconst 2, 1)) ∧ (decode cX0_step 62 = .ok (.invokevirtual 137, 3)) ∧ (decode cX0_step 65 = .ok (.goto 55, 3)) ∧ (decode cX0_step 68 = .ok (.aload_n 0, 1)) ∧ (decode cX0_step 69 = .ok (.iload_n 2, 1)) ∧ (decode cX0_step 70 = .ok (.aload_n 1, 1)) ∧ (decode cX0_step 71 = .ok (.getfield 68, 3)) ∧ (decode cX0_step 74 = .ok (.invokevirtual 103, 3)) ∧ (decode cX0_step 77 = .ok (.ifCond .eq 34, 3)) ∧ (decode cX0_step 80 = .ok (.aload_n 1, 1)) ∧ (decode cX0_step 81 = .ok (.iconst 3, 1)) ∧ (decode cX0_step 82 = .ok (.iload_n 3, 1)) := by decide +kernel
theorem dX0_step_57 : decode cX0_step 57 = .ok (.iload_n 3, 1) := dg_a36.1
theorem dX0_step_58 : decode cX0_step 58 = .ok (.imul, 1) := dg_a36.2.1
theorem dX0_step_59 : decode cX0_step 59 = .ok (.iconst 1, 1) := dg_a36.2.2.1
theorem dX0_step_60 : decode cX0_step 60 = .ok (.iadd, 1) := dg_a36.2.2.2.1
theorem dX0_step_61 : decode cX0_step 61 = .ok (.iconst 2, 1) := dg_a36.2.2.2.2.1
theorem dX0_step_62 : decode cX0_step 62 = .ok (.invokevirtual 137, 3) := dg_a36.2.2.2.2.2.1
theorem dX0_step_65 : decode cX0_step 65 = .ok (.goto 55, 3) := dg_a36.2.2.2.2.2.2.1
theorem dX0_step_68 : decode cX0_step 68 = .ok (.aload_n 0, 1) := dg_a36.2.2.2.2.2.2.2.1
theorem dX0_step_69 : decode cX0_step 69 = .ok (.iload_n 2, 1) := dg_a36.2.2.2.2.2.2.2.2.1
theorem dX0_step_70 : decode cX0_step 70 = .ok (.aload_n 1, 1) := dg_a36.2.2.2.2.2.2.2.2.2.1
theorem dX0_step_71 : decode cX0_step 71 = .ok (.getfield 68, 3) := dg_a36.2.2.2.2.2.2.2.2.2.2.1
theorem dX0_step_74 : decode cX0_step 74 = .ok (.invokevirtual 103, 3) := dg_a36.2.2.2.2.2.2.2.2.2.2.2.1
theorem dX0_step_77 : decode cX0_step 77 = .ok (.ifCond .eq 34, 3) := dg_a36.2.2.2.2.2.2.2.2.2.2.2.2.1
theorem dX0_step_80 : decode cX0_step 80 = .ok (.aload_n 1, 1) := dg_a36.2.2.2.2.2.2.2.2.2.2.2.2.2.1
theorem dX0_step_81 : decode cX0_step 81 = .ok (.iconst 3, 1) := dg_a36.2.2.2.2.2.2.2.2.2.2.2.2.2.2.1
theorem dX0_step_82 : decode cX0_step 82 = .ok (.iload_n 3, 1) := dg_a36.2.2.2.2.2.2.2.2.2.2.2.2.2.2.2
theorem dg_a37 : (decode cX0_step 83 = .ok (.aload_n 0, 1)) ∧ (decode cX0_step 84 = .ok (.iload_n 2, 1)) ∧ (decode cX0_step 85 = .ok (.invokevirtual 144, 3)) ∧ (decode cX0_step 88 = .ok (.ifCond .eq 7, 3)) ∧ (decode cX0_step 91 = .ok (.iconst 0, 1)) ∧ (decode cX0_step 92 = .ok (.goto 11, 3)) ∧ (decode cX0_step 95 = .ok (.aload_n 0, 1)) ∧ (decode cX0_step 96 = .ok (.getfield 18, 3)) ∧ (decode cX0_step 99 = .ok (.iload_n 2, 1)) ∧ (decode cX0_step 100 = .ok (.iaload, 1)) ∧ (decode cX0_step 101 = .ok (.iconst 3, 1)) ∧ (decode cX0_step 102 = .ok (.isub, 1)) ∧ (decode cX0_step 103 = .ok (.iadd, 1)) ∧ (decode cX0_step 104 = .ok (.iconst 1, 1)) ∧ (decode cX0_step 105 = .ok (.invokevirtual 137, 3)) ∧ (decode cX0_step 108 = .ok (.goto 12, 3)) := by decide +kernel
theorem dX0_step_83 : decode cX0_step 83 = .ok (.aload_n 0, 1) := dg_a37.1
theorem dX0_step_84 : decode cX0_step 84 = .ok (.iload_n 2, 1) := dg_a37.2.1
theorem dX0_step_85 : decode cX0_step 85 = .ok (.invokevirtual 144, 3) := dg_a37.2.2.1
theorem dX0_step_88 : decode cX0_step 88 = .ok (.ifCond .eq 7, 3) := dg_a37.2.2.2.1
theorem dX0_step_91 : decode cX0_step 91 = .ok (.iconst 0, 1) := dg_a37.2.2.2.2.1
theorem dX0_step_92 : decode cX0_step 92 = .ok (.goto 11, 3) := dg_a37.2.2.2.2.2.1
theorem dX0_step_95 : decode cX0_step 95 = .ok (.aload_n 0, 1) := dg_a37.2.2.2.2.2.2.1
theorem dX0_step_96 : decode cX0_step 96 = .ok (.getfield 18, 3) := dg_a37.2.2.2.2.2.2.2.1
theorem dX0_step_99 : decode cX0_step 99 = .ok (.iload_n 2, 1) := dg_a37.2.2.2.2.2.2.2.2.1
theorem dX0_step_100 : decode cX0_step 100 = .ok (.iaload, 1) := dg_a37.2.2.2.2.2.2.2.2.2.1
theorem dX0_step_101 : decode cX0_step 101 = .ok (.iconst 3, 1) := dg_a37.2.2.2.2.2.2.2.2.2.2.1
theorem dX0_step_102 : decode cX0_step 102 = .ok (.isub, 1) := dg_a37.2.2.2.2.2.2.2.2.2.2.2.1
theorem dX0_step_103 : decode cX0_step 103 = .ok (.iadd, 1) := dg_a37.2.2.2.2.2.2.2.2.2.2.2.2.1
theorem dX0_step_104 : decode cX0_step 104 = .ok (.iconst 1, 1) := dg_a37.2.2.2.2.2.2.2.2.2.2.2.2.2.1
theorem dX0_step_105 : decode cX0_step 105 = .ok (.invokevirtual 137, 3) := dg_a37.2.2.2.2.2.2.2.2.2.2.2.2.2.2.1
theorem dX0_step_108 : decode cX0_step 108 = .ok (.goto 12, 3) := dg_a37.2.2.2.2.2.2.2.2.2.2.2.2.2.2.2
theorem dg_a38 : (decode cX0_step 111 = .ok (.aload_n 1, 1)) ∧ (decode cX0_step 112 = .ok (.iconst 3, 1)) ∧ (decode cX0_step 113 = .ok (.iload_n 3, 1)) ∧ (decode cX0_step 114 = .ok (.iconst 1, 1)) ∧ (decode cX0_step 115 = .ok (.iadd, 1)) ∧ (decode cX0_step 116 = .ok (.iconst 1, 1)) ∧ (decode cX0_step 117 = .ok (.invokevirtual 137, 3)) ∧ (decode cX0_step 120 = .ok (.iconst 1, 1)) ∧ (decode cX0_step 121 = .ok (.ireturn, 1)) := by decide +kernel
theorem dX0_step_111 : decode cX0_step 111 = .ok (.aload_n 1, 1) := dg_a38.1
theorem dX0_step_112 : decode cX0_step 112 = .ok (.iconst 3, 1) := dg_a38.2.1
theorem dX0_step_113 : decode cX0_step 113 = .ok (.iload_n 3, 1) := dg_a38.2.2.1
theorem dX0_step_114 : decode cX0_step 114 = .ok (.iconst 1, 1) := dg_a38.2.2.2.1
theorem dX0_step_115 : decode cX0_step 115 = .ok (.iadd, 1) := dg_a38.2.2.2.2.1
theorem dX0_step_116 : decode cX0_step 116 = .ok (.iconst 1, 1) := dg_a38.2.2.2.2.2.1
theorem dX0_step_117 : decode cX0_step 117 = .ok (.invokevirtual 137, 3) := dg_a38.2.2.2.2.2.2.1
theorem dX0_step_120 : decode cX0_step 120 = .ok (.iconst 1, 1) := dg_a38.2.2.2.2.2.2.2.1
theorem dX0_step_121 : decode cX0_step 121 = .ok (.ireturn, 1) := dg_a38.2.2.2.2.2.2.2.2
theorem dg_a39 : (decode cX1_init 0 = .ok (.aload_n 0, 1)) ∧ (decode cX1_init 1 = .ok (.invokespecial 3, 3)) ∧ (decode cX1_init 4 = .ok (.aload_n 0, 1)) ∧ (decode cX1_init 5 = .ok (.new 9, 3)) ∧ (decode cX1_init 8 = .ok (.dup, 1)) ∧ (decode cX1_init 9 = .ok (.invokespecial 11, 3)) ∧ (decode cX1_init 12 = .ok (.putfield 12, 3)) ∧ (decode cX1_init 15 = .ok (.aload_n 0, 1)) ∧ (decode cX1_init 16 = .ok (.bipush 9, 2)) ∧ (decode cX1_init 18 = .ok (.anewarray 18, 3)) ∧ (decode cX1_init 21 = .ok (.putfield 20, 3)) ∧ (decode cX1_init 24 = .ok (.iconst 0, 1)) ∧ (decode cX1_init 25 = .ok (.istore_n 1, 1)) ∧ (decode cX1_init 26 = .ok (.iload_n 1, 1)) ∧ (decode cX1_init 27 = .ok (.bipush 8, 2)) ∧ (decode cX1_init 29 = .ok (.if_icmp .gt 22, 3)) := by decide +kernel
theorem dX1_init_0 : decode cX1_init 0 = .ok (.aload_n 0, 1) := dg_a39.1
theorem dX1_init_1 : decode cX1_init 1 = .ok (.invokespecial 3, 3) := dg_a39.2.1
theorem dX1_init_4 : decode cX1_init 4 = .ok (.aload_n 0, 1) := dg_a39.2.2.1
theorem dX1_init_5 : decode cX1_init 5 = .ok (.new 9, 3) := dg_a39.2.2.2.1
theorem dX1_init_8 : decode cX1_init 8 = .ok (.dup, 1) := dg_a39.2.2.2.2.1
theorem dX1_init_9 : decode cX1_init 9 = .ok (.invokespecial 11, 3) := dg_a39.2.2.2.2.2.1
theorem dX1_init_12 : decode cX1_init 12 = .ok (.putfield 12, 3) := dg_a39.2.2.2.2.2.2.1
theorem dX1_init_15 : decode cX1_init 15 = .ok (.aload_n 0, 1) := dg_a39.2.2.2.2.2.2.2.1
theorem dX1_init_16 : decode cX1_init 16 = .ok (.bipush 9, 2) := dg_a39.2.2.2.2.2.2.2.2.1
theorem dX1_init_18 : decode cX1_init 18 = .ok (.anewarray 18, 3) := dg_a39.2.2.2.2.2.2.2.2.2.1
theorem dX1_init_21 : decode cX1_init 21 = .ok (.putfield 20, 3) := dg_a39.2.2.2.2.2.2.2.2.2.2.1
theorem dX1_init_24 : decode cX1_init 24 = .ok (.iconst 0, 1) := dg_a39.2.2.2.2.2.2.2.2.2.2.2.1
theorem dX1_init_25 : decode cX1_init 25 = .ok (.istore_n 1, 1) := dg_a39.2.2.2.2.2.2.2.2.2.2.2.2.1
theorem dX1_init_26 : decode cX1_init 26 = .ok (.iload_n 1, 1) := dg_a39.2.2.2.2.2.2.2.2.2.2.2.2.2.1
theorem dX1_init_27 : decode cX1_init 27 = .ok (.bipush 8, 2) := dg_a39.2.2.2.2.2.2.2.2.2.2.2.2.2.2.1
theorem dX1_init_29 : decode cX1_init 29 = .ok (.if_icmp .gt 22, 3) := dg_a39.2.2.2.2.2.2.2.2.2.2.2.2.2.2.2
theorem dg_a40 : (decode cX1_init 32 = .ok (.aload_n 0, 1)) ∧ (decode cX1_init 33 = .ok (.getfield 20, 3)) ∧ (decode cX1_init 36 = .ok (.iload_n 1, 1)) ∧ (decode cX1_init 37 = .ok (.new 18, 3)) ∧ (decode cX1_init 40 = .ok (.dup, 1)) ∧ (decode cX1_init 41 = .ok (.invokespecial 24, 3)) ∧ (decode cX1_init 44 = .ok (.aastore, 1)) ∧ (decode cX1_init 45 = .ok (.iinc 1 1, 3)) ∧ (decode cX1_init 48 = .ok (.goto (-22), 3)) ∧ (decode cX1_init 51 = .ok (.return_, 1)) := by decide +kernel
theorem dX1_init_32 : decode cX1_init 32 = .ok (.aload_n 0, 1) := dg_a40.1
theorem dX1_init_33 : decode cX1_init 33 = .ok (.getfield 20, 3) := dg_a40.2.1
theorem dX1_init_36 : decode cX1_init 36 = .ok (.iload_n 1, 1) := dg_a40.2.2.1
theorem dX1_init_37 : decode cX1_init 37 = .ok (.new 18, 3) := dg_a40.2.2.2.1
theorem dX1_init_40 : decode cX1_init 40 = .ok (.dup, 1) := dg_a40.2.2.2.2.1
theorem dX1_init_41 : decode cX1_init 41 = .ok (.invokespecial 24, 3) := dg_a40.2.2.2.2.2.1
theorem dX1_init_44 : decode cX1_init 44 = .ok (.aastore, 1) := dg_a40.2.2.2.2.2.2.1
theorem dX1_init_45 : decode cX1_init 45 = .ok (.iinc 1 1, 3) := dg_a40.2.2.2.2.2.2.2.1
theorem dX1_init_48 : decode cX1_init 48 = .ok (.goto (-22), 3) := dg_a40.2.2.2.2.2.2.2.2.1
theorem dX1_init_51 : decode cX1_init 51 = .ok (.return_, 1) := dg_a40.2.2.2.2.2.2.2.2.2
theorem dg_a41 : (decode cX1_weighAll 0 = .ok (.aload_n 0, 1)) ∧ (decode cX1_weighAll 1 = .ok (.iload_n 2, 1)) ∧ (decode cX1_weighAll 2 = .ok (.putfield 25, 3)) ∧ (decode cX1_weighAll 5 = .ok (.aload_n 0, 1)) ∧ (decode cX1_weighAll 6 = .ok (.iload_n 3, 1)) ∧ (decode cX1_weighAll 7 = .ok (.putfield 29, 3)) ∧ (decode cX1_weighAll 10 = .ok (.aload_n 0, 1)) ∧ (decode cX1_weighAll 11 = .ok (.getfield 12, 3)) ∧ (decode cX1_weighAll 14 = .ok (.aload_n 1, 1)) ∧ (decode cX1_weighAll 15 = .ok (.invokevirtual 33, 3)) ∧ (decode cX1_weighAll 18 = .ok (.aload_n 0, 1)) ∧ (decode cX1_weighAll 19 = .ok (.getfield 20, 3)) ∧ (decode cX1_weighAll 22 = .ok (.iconst 0, 1)) ∧ (decode cX1_weighAll 23 = .ok (.aaload, 1)) ∧ (decode cX1_weighAll 24 = .ok (.aload_n 1, 1)) ∧ (decode cX1_weighAll 25 = .ok (.getfield 37, 3)) := by decide +kernel
theorem dX1_weighAll_0 : decode cX1_weighAll 0 = .ok (.aload_n 0, 1) := dg_a41.1
theorem dX1_weighAll_1 : decode cX1_weighAll 1 = .ok (.iload_n 2, 1) := dg_a41.2.1
theorem dX1_weighAll_2 : decode cX1_weighAll 2 = .ok (.putfield 25, 3) := dg_a41.2.2.1
theorem dX1_weighAll_5 : decode cX1_weighAll 5 = .ok (.aload_n 0, 1) := dg_a41.2.2.2.1
theorem dX1_weighAll_6 : decode cX1_weighAll 6 = .ok (.iload_n 3, 1) := dg_a41.2.2.2.2.1
theorem dX1_weighAll_7 : decode cX1_weighAll 7 = .ok (.putfield 29, 3) := dg_a41.2.2.2.2.2.1
theorem dX1_weighAll_10 : decode cX1_weighAll 10 = .ok (.aload_n 0, 1) := dg_a41.2.2.2.2.2.2.1
theorem dX1_weighAll_11 : decode cX1_weighAll 11 = .ok (.getfield 12, 3) := dg_a41.2.2.2.2.2.2.2.1
theorem dX1_weighAll_14 : decode cX1_weighAll 14 = .ok (.aload_n 1, 1) := dg_a41.2.2.2.2.2.2.2.2.1
theorem dX1_weighAll_15 : decode cX1_weighAll 15 = .ok (.invokevirtual 33, 3) := dg_a41.2.2.2.2.2.2.2.2.2.1
theorem dX1_weighAll_18 : decode cX1_weighAll 18 = .ok (.aload_n 0, 1) := dg_a41.2.2.2.2.2.2.2.2.2.2.1
theorem dX1_weighAll_19 : decode cX1_weighAll 19 = .ok (.getfield 20, 3) := dg_a41.2.2.2.2.2.2.2.2.2.2.2.1
theorem dX1_weighAll_22 : decode cX1_weighAll 22 = .ok (.iconst 0, 1) := dg_a41.2.2.2.2.2.2.2.2.2.2.2.2.1
theorem dX1_weighAll_23 : decode cX1_weighAll 23 = .ok (.aaload, 1) := dg_a41.2.2.2.2.2.2.2.2.2.2.2.2.2.1
theorem dX1_weighAll_24 : decode cX1_weighAll 24 = .ok (.aload_n 1, 1) := dg_a41.2.2.2.2.2.2.2.2.2.2.2.2.2.2.1
theorem dX1_weighAll_25 : decode cX1_weighAll 25 = .ok (.getfield 37, 3) := dg_a41.2.2.2.2.2.2.2.2.2.2.2.2.2.2.2
theorem dg_a42 : (decode cX1_weighAll 28 = .ok (.invokevirtual 41, 3)) ∧ (decode cX1_weighAll 31 = .ok (.aload_n 0, 1)) ∧ (decode cX1_weighAll 32 = .ok (.iconst 0, 1)) ∧ (decode cX1_weighAll 33 = .ok (.invokevirtual 44, 3)) ∧ (decode cX1_weighAll 36 = .ok (.lreturn, 1)) := by decide +kernel
theorem dX1_weighAll_28 : decode cX1_weighAll 28 = .ok (.invokevirtual 41, 3) := dg_a42.1
theorem dX1_weighAll_31 : decode cX1_weighAll 31 = .ok (.aload_n 0, 1) := dg_a42.2.1
theorem dX1_weighAll_32 : decode cX1_weighAll 32 = .ok (.iconst 0, 1) := dg_a42.2.2.1
theorem dX1_weighAll_33 : decode cX1_weighAll 33 = .ok (.invokevirtual 44, 3) := dg_a42.2.2.2.1
theorem dX1_weighAll_36 : decode cX1_weighAll 36 = .ok (.lreturn, 1) := dg_a42.2.2.2.2
theorem dg_a43 : (decode cX1_weigh 0 = .ok (.aload_n 0, 1)) ∧ (decode cX1_weigh 1 = .ok (.getfield 20, 3)) ∧ (decode cX1_weigh 4 = .ok (.iload_n 1, 1)) ∧ (decode cX1_weigh 5 = .ok (.aaload, 1)) ∧ (decode cX1_weigh 6 = .ok (.astore_n 2, 1)) ∧ (decode cX1_weigh 7 = .ok (.iload_n 1, 1)) ∧ (decode cX1_weigh 8 = .ok (.bipush 8, 2)) ∧ (decode cX1_weigh 10 = .ok (.if_icmp .ge 14, 3)) ∧ (decode cX1_weigh 13 = .ok (.aload_n 0, 1)) ∧ (decode cX1_weigh 14 = .ok (.getfield 12, 3)) ∧ (decode cX1_weigh 17 = .ok (.iload_n 1, 1)) ∧ (decode cX1_weigh 18 = .ok (.invokevirtual 48, 3)) ∧ (decode cX1_weigh 21 = .ok (.ifCond .ne 31, 3)) ∧ (decode cX1_weigh 24 = .ok (.aload_n 0, 1)) ∧ (decode cX1_weigh 25 = .ok (.getfield 29, 3)) ∧ (decode cX1_weigh 28 = .ok (.ifCond .eq 11, 3)) := by decide +kernel
theorem dX1_weigh_0 : decode cX1_weigh 0 = .ok (.aload_n 0, 1) := dg_a43.1
theorem dX1_weigh_1 : decode cX1_weigh 1 = .ok (.getfield 20, 3) := dg_a43.2.1
theorem dX1_weigh_4 : decode cX1_weigh 4 = .ok (.iload_n 1, 1) := dg_a43.2.2.1
theorem dX1_weigh_5 : decode cX1_weigh 5 = .ok (.aaload, 1) := dg_a43.2.2.2.1
theorem dX1_weigh_6 : decode cX1_weigh 6 = .ok (.astore_n 2, 1) := dg_a43.2.2.2.2.1
theorem dX1_weigh_7 : decode cX1_weigh 7 = .ok (.iload_n 1, 1) := dg_a43.2.2.2.2.2.1
theorem dX1_weigh_8 : decode cX1_weigh 8 = .ok (.bipush 8, 2) := dg_a43.2.2.2.2.2.2.1
theorem dX1_weigh_10 : decode cX1_weigh 10 = .ok (.if_icmp .ge 14, 3) := dg_a43.2.2.2.2.2.2.2.1
theorem dX1_weigh_13 : decode cX1_weigh 13 = .ok (.aload_n 0, 1) := dg_a43.2.2.2.2.2.2.2.2.1
theorem dX1_weigh_14 : decode cX1_weigh 14 = .ok (.getfield 12, 3) := dg_a43.2.2.2.2.2.2.2.2.2.1
theorem dX1_weigh_17 : decode cX1_weigh 17 = .ok (.iload_n 1, 1) := dg_a43.2.2.2.2.2.2.2.2.2.2.1
theorem dX1_weigh_18 : decode cX1_weigh 18 = .ok (.invokevirtual 48, 3) := dg_a43.2.2.2.2.2.2.2.2.2.2.2.1
theorem dX1_weigh_21 : decode cX1_weigh 21 = .ok (.ifCond .ne 31, 3) := dg_a43.2.2.2.2.2.2.2.2.2.2.2.2.1
theorem dX1_weigh_24 : decode cX1_weigh 24 = .ok (.aload_n 0, 1) := dg_a43.2.2.2.2.2.2.2.2.2.2.2.2.2.1
theorem dX1_weigh_25 : decode cX1_weigh 25 = .ok (.getfield 29, 3) := dg_a43.2.2.2.2.2.2.2.2.2.2.2.2.2.2.1
theorem dX1_weigh_28 : decode cX1_weigh 28 = .ok (.ifCond .eq 11, 3) := dg_a43.2.2.2.2.2.2.2.2.2.2.2.2.2.2.2
theorem dg_a44 : (decode cX1_weigh 31 = .ok (.aload_n 2, 1)) ∧ (decode cX1_weigh 32 = .ok (.getfield 52, 3)) ∧ (decode cX1_weigh 35 = .ok (.i2l, 1)) ∧ (decode cX1_weigh 36 = .ok (.goto 15, 3)) ∧ (decode cX1_weigh 39 = .ok (.aload_n 0, 1)) ∧ (decode cX1_weigh 40 = .ok (.getfield 12, 3)) ∧ (decode cX1_weigh 43 = .ok (.aload_n 2, 1)) ∧ (decode cX1_weigh 44 = .ok (.invokevirtual 55, 3)) ∧ (decode cX1_weigh 47 = .ok (.invokestatic 59, 3)) ∧ (decode cX1_weigh 50 = .ok (.i2l, 1)) ∧ (decode cX1_weigh 51 = .ok (.lreturn, 1)) ∧ (decode cX1_weigh 52 = .ok (.aload_n 0, 1)) ∧ (decode cX1_weigh 53 = .ok (.getfield 20, 3)) ∧ (decode cX1_weigh 56 = .ok (.iload_n 1, 1)) ∧ (decode cX1_weigh 57 = .ok (.iconst 1, 1)) ∧ (decode cX1_weigh 58 = .ok (.iadd, 1)) := by decide +kernel
theorem dX1_weigh_31 : decode cX1_weigh 31 = .ok (.aload_n 2, 1) := dg_a44.1
theorem dX1_weigh_32 : decode cX1_weigh 32 = .ok (.getfield 52, 3) := dg_a44.2.1
theorem dX1_weigh_35 : decode cX1_weigh 35 = .ok (.i2l, 1) := dg_a44.2.2.1
theorem dX1_weigh_36 : decode cX1_weigh 36 = .ok (.goto 15, 3) := dg_a44.2.2.2.1
theorem dX1_weigh_39 : decode cX1_weigh 39 = .ok (.aload_n 0, 1) := dg_a44.2.2.2.2.1
theorem dX1_weigh_40 : decode cX1_weigh 40 = .ok (.getfield 12, 3) := dg_a44.2.2.2.2.2.1
theorem dX1_weigh_43 : decode cX1_weigh 43 = .ok (.aload_n 2, 1) := dg_a44.2.2.2.2.2.2.1
theorem dX1_weigh_44 : decode cX1_weigh 44 = .ok (.invokevirtual 55, 3) := dg_a44.2.2.2.2.2.2.2.1
theorem dX1_weigh_47 : decode cX1_weigh 47 = .ok (.invokestatic 59, 3) := dg_a44.2.2.2.2.2.2.2.2.1
theorem dX1_weigh_50 : decode cX1_weigh 50 = .ok (.i2l, 1) := dg_a44.2.2.2.2.2.2.2.2.2.1
theorem dX1_weigh_51 : decode cX1_weigh 51 = .ok (.lreturn, 1) := dg_a44.2.2.2.2.2.2.2.2.2.2.1
theorem dX1_weigh_52 : decode cX1_weigh 52 = .ok (.aload_n 0, 1) := dg_a44.2.2.2.2.2.2.2.2.2.2.2.1
theorem dX1_weigh_53 : decode cX1_weigh 53 = .ok (.getfield 20, 3) := dg_a44.2.2.2.2.2.2.2.2.2.2.2.2.1
theorem dX1_weigh_56 : decode cX1_weigh 56 = .ok (.iload_n 1, 1) := dg_a44.2.2.2.2.2.2.2.2.2.2.2.2.2.1
theorem dX1_weigh_57 : decode cX1_weigh 57 = .ok (.iconst 1, 1) := dg_a44.2.2.2.2.2.2.2.2.2.2.2.2.2.2.1
theorem dX1_weigh_58 : decode cX1_weigh 58 = .ok (.iadd, 1) := dg_a44.2.2.2.2.2.2.2.2.2.2.2.2.2.2.2
theorem dg_a45 : (decode cX1_weigh 59 = .ok (.aaload, 1)) ∧ (decode cX1_weigh 60 = .ok (.astore_n 3, 1)) ∧ (decode cX1_weigh 61 = .ok (.aload_n 2, 1)) ∧ (decode cX1_weigh 62 = .ok (.invokevirtual 63, 3)) ∧ (decode cX1_weigh 65 = .ok (.ifCond .ne 20, 3)) ∧ (decode cX1_weigh 68 = .ok (.aload_n 3, 1)) ∧ (decode cX1_weigh 69 = .ok (.aload_n 2, 1)) ∧ (decode cX1_weigh 70 = .ok (.invokevirtual 41, 3)) ∧ (decode cX1_weigh 73 = .ok (.ldc2_w 67, 3)) ∧ (decode cX1_weigh 76 = .ok (.aload_n 0, 1)) ∧ (decode cX1_weigh 77 = .ok (.iload_n 1, 1)) ∧ (decode cX1_weigh 78 = .ok (.iconst 1, 1)) ∧ (decode cX1_weigh 79 = .ok (.iadd, 1)) ∧ (decode cX1_weigh 80 = .ok (.invokevirtual 44, 3)) ∧ (decode cX1_weigh 83 = .ok (.lmul, 1)) ∧ (decode cX1_weigh 84 = .ok (.lreturn, 1)) := by decide +kernel
theorem dX1_weigh_59 : decode cX1_weigh 59 = .ok (.aaload, 1) := dg_a45.1
theorem dX1_weigh_60 : decode cX1_weigh 60 = .ok (.astore_n 3, 1) := dg_a45.2.1
theorem dX1_weigh_61 : decode cX1_weigh 61 = .ok (.aload_n 2, 1) := dg_a45.2.2.1
theorem dX1_weigh_62 : decode cX1_weigh 62 = .ok (.invokevirtual 63, 3) := dg_a45.2.2.2.1
theorem dX1_weigh_65 : decode cX1_weigh 65 = .ok (.ifCond .ne 20, 3) := dg_a45.2.2.2.2.1
theorem dX1_weigh_68 : decode cX1_weigh 68 = .ok (.aload_n 3, 1) := dg_a45.2.2.2.2.2.1
theorem dX1_weigh_69 : decode cX1_weigh 69 = .ok (.aload_n 2, 1) := dg_a45.2.2.2.2.2.2.1
theorem dX1_weigh_70 : decode cX1_weigh 70 = .ok (.invokevirtual 41, 3) := dg_a45.2.2.2.2.2.2.2.1
theorem dX1_weigh_73 : decode cX1_weigh 73 = .ok (.ldc2_w 67, 3) := dg_a45.2.2.2.2.2.2.2.2.1
theorem dX1_weigh_76 : decode cX1_weigh 76 = .ok (.aload_n 0, 1) := dg_a45.2.2.2.2.2.2.2.2.2.1
theorem dX1_weigh_77 : decode cX1_weigh 77 = .ok (.iload_n 1, 1) := dg_a45.2.2.2.2.2.2.2.2.2.2.1
theorem dX1_weigh_78 : decode cX1_weigh 78 = .ok (.iconst 1, 1) := dg_a45.2.2.2.2.2.2.2.2.2.2.2.1
theorem dX1_weigh_79 : decode cX1_weigh 79 = .ok (.iadd, 1) := dg_a45.2.2.2.2.2.2.2.2.2.2.2.2.1
theorem dX1_weigh_80 : decode cX1_weigh 80 = .ok (.invokevirtual 44, 3) := dg_a45.2.2.2.2.2.2.2.2.2.2.2.2.2.1
theorem dX1_weigh_83 : decode cX1_weigh 83 = .ok (.lmul, 1) := dg_a45.2.2.2.2.2.2.2.2.2.2.2.2.2.2.1
theorem dX1_weigh_84 : decode cX1_weigh 84 = .ok (.lreturn, 1) := dg_a45.2.2.2.2.2.2.2.2.2.2.2.2.2.2.2
theorem dg_a46 : (decode cX1_weigh 85 = .ok (.lconst 0, 1)) ∧ (decode cX1_weigh 86 = .ok (.lstore 4, 2)) ∧ (decode cX1_weigh 88 = .ok (.iconst 0, 1)) ∧ (decode cX1_weigh 89 = .ok (.istore 6, 2)) ∧ (decode cX1_weigh 91 = .ok (.iload 6, 2)) ∧ (decode cX1_weigh 93 = .ok (.iconst 1, 1)) ∧ (decode cX1_weigh 94 = .ok (.if_icmp .gt 107, 3)) ∧ (decode cX1_weigh 97 = .ok (.iload 6, 2)) ∧ (decode cX1_weigh 99 = .ok (.iconst 1, 1)) ∧ (decode cX1_weigh 100 = .ok (.if_icmp .ne 10, 3)) ∧ (decode cX1_weigh 103 = .ok (.aload_n 0, 1)) ∧ (decode cX1_weigh 104 = .ok (.getfield 25, 3)) ∧ (decode cX1_weigh 107 = .ok (.goto 10, 3)) ∧ (decode cX1_weigh 110 = .ok (.bipush 10, 2)) ∧ (decode cX1_weigh 112 = .ok (.aload_n 0, 1)) ∧ (decode cX1_weigh 113 = .ok (.getfield 25, 3)) := by decide +kernel
theorem dX1_weigh_85 : decode cX1_weigh 85 = .ok (.lconst 0, 1) := dg_a46.1
theorem dX1_weigh_86 : decode cX1_weigh 86 = .ok (.lstore 4, 2) := dg_a46.2.1
theorem dX1_weigh_88 : decode cX1_weigh 88 = .ok (.iconst 0, 1) := dg_a46.2.2.1
theorem dX1_weigh_89 : decode cX1_weigh 89 = .ok (.istore 6, 2) := dg_a46.2.2.2.1
theorem dX1_weigh_91 : decode cX1_weigh 91 = .ok (.iload 6, 2) := dg_a46.2.2.2.2.1
theorem dX1_weigh_93 : decode cX1_weigh 93 = .ok (.iconst 1, 1) := dg_a46.2.2.2.2.2.1
theorem dX1_weigh_94 : decode cX1_weigh 94 = .ok (.if_icmp .gt 107, 3) := dg_a46.2.2.2.2.2.2.1
theorem dX1_weigh_97 : decode cX1_weigh 97 = .ok (.iload 6, 2) := dg_a46.2.2.2.2.2.2.2.1
theorem dX1_weigh_99 : decode cX1_weigh 99 = .ok (.iconst 1, 1) := dg_a46.2.2.2.2.2.2.2.2.1
theorem dX1_weigh_100 : decode cX1_weigh 100 = .ok (.if_icmp .ne 10, 3) := dg_a46.2.2.2.2.2.2.2.2.2.1
theorem dX1_weigh_103 : decode cX1_weigh 103 = .ok (.aload_n 0, 1) := dg_a46.2.2.2.2.2.2.2.2.2.2.1
theorem dX1_weigh_104 : decode cX1_weigh 104 = .ok (.getfield 25, 3) := dg_a46.2.2.2.2.2.2.2.2.2.2.2.1
theorem dX1_weigh_107 : decode cX1_weigh 107 = .ok (.goto 10, 3) := dg_a46.2.2.2.2.2.2.2.2.2.2.2.2.1
theorem dX1_weigh_110 : decode cX1_weigh 110 = .ok (.bipush 10, 2) := dg_a46.2.2.2.2.2.2.2.2.2.2.2.2.2.1
theorem dX1_weigh_112 : decode cX1_weigh 112 = .ok (.aload_n 0, 1) := dg_a46.2.2.2.2.2.2.2.2.2.2.2.2.2.2.1
theorem dX1_weigh_113 : decode cX1_weigh 113 = .ok (.getfield 25, 3) := dg_a46.2.2.2.2.2.2.2.2.2.2.2.2.2.2.2
theorem dg_a47 : (decode cX1_weigh 116 = .ok (.isub, 1)) ∧ (decode cX1_weigh 117 = .ok (.istore 7, 2)) ∧ (decode cX1_weigh 119 = .ok (.iload 7, 2)) ∧ (decode cX1_weigh 121 = .ok (.ifCond .le 74, 3)) ∧ (decode cX1_weigh 124 = .ok (.aload_n 3, 1)) ∧ (decode cX1_weigh 125 = .ok (.aload_n 2, 1)) ∧ (decode cX1_weigh 126 = .ok (.invokevirtual 41, 3)) ∧ (decode cX1_weigh 129 = .ok (.aload_n 0, 1)) ∧ (decode cX1_weigh 130 = .ok (.getfield 12, 3)) ∧ (decode cX1_weigh 133 = .ok (.aload_n 0, 1)) ∧ (decode cX1_weigh 134 = .ok (.getfield 12, 3)) ∧ (decode cX1_weigh 137 = .ok (.getfield 69, 3)) ∧ (decode cX1_weigh 140 = .ok (.aload_n 2, 1)) ∧ (decode cX1_weigh 141 = .ok (.getfield 72, 3)) ∧ (decode cX1_weigh 144 = .ok (.iload 6, 2)) ∧ (decode cX1_weigh 146 = .ok (.iconst 1, 1)) := by decide +kernel
theorem dX1_weigh_116 : decode cX1_weigh 116 = .ok (.isub, 1) := dg_a47.1
theorem dX1_weigh_117 : decode cX1_weigh 117 = .ok (.istore 7, 2) := dg_a47.2.1
theorem dX1_weigh_119 : decode cX1_weigh 119 = .ok (.iload 7, 2) := dg_a47.2.2.1
theorem dX1_weigh_121 : decode cX1_weigh 121 = .ok (.ifCond .le 74, 3) := dg_a47.2.2.2.1
theorem dX1_weigh_124 : decode cX1_weigh 124 = .ok (.aload_n 3, 1) := dg_a47.2.2.2.2.1
theorem dX1_weigh_125 : decode cX1_weigh 125 = .ok (.aload_n 2, 1) := dg_a47.2.2.2.2.2.1
theorem dX1_weigh_126 : decode cX1_weigh 126 = .ok (.invokevirtual 41, 3) := dg_a47.2.2.2.2.2.2.1
theorem dX1_weigh_129 : decode cX1_weigh 129 = .ok (.aload_n 0, 1) := dg_a47.2.2.2.2.2.2.2.1
theorem dX1_weigh_130 : decode cX1_weigh 130 = .ok (.getfield 12, 3) := dg_a47.2.2.2.2.2.2.2.2.1
theorem dX1_weigh_133 : decode cX1_weigh 133 = .ok (.aload_n 0, 1) := dg_a47.2.2.2.2.2.2.2.2.2.1
theorem dX1_weigh_134 : decode cX1_weigh 134 = .ok (.getfield 12, 3) := dg_a47.2.2.2.2.2.2.2.2.2.2.1
theorem dX1_weigh_137 : decode cX1_weigh 137 = .ok (.getfield 69, 3) := dg_a47.2.2.2.2.2.2.2.2.2.2.2.1
theorem dX1_weigh_140 : decode cX1_weigh 140 = .ok (.aload_n 2, 1) := dg_a47.2.2.2.2.2.2.2.2.2.2.2.2.1
theorem dX1_weigh_141 : decode cX1_weigh 141 = .ok (.getfield 72, 3) := dg_a47.2.2.2.2.2.2.2.2.2.2.2.2.2.1
theorem dX1_weigh_144 : decode cX1_weigh 144 = .ok (.iload 6, 2) := dg_a47.2.2.2.2.2.2.2.2.2.2.2.2.2.2.1
theorem dX1_weigh_146 : decode cX1_weigh 146 = .ok (.iconst 1, 1) := dg_a47.2.2.2.2.2.2.2.2.2.2.2.2.2.2.2
theorem dg_a48 : (decode cX1_weigh 147 = .ok (.if_icmp .ne 7, 3)) ∧ (decode cX1_weigh 150 = .ok (.iconst 1, 1)) ∧ (decode cX1_weigh 151 = .ok (.goto 4, 3)) ∧ (decode cX1_weigh 154 = .ok (.iconst 0, 1)) ∧ (decode cX1_weigh 155 = .ok (.invokestatic 75, 3)) ∧ (decode cX1_weigh 158 = .ok (.putfield 69, 3)) ∧ (decode cX1_weigh 161 = .ok (.aload_n 0, 1)) ∧ (decode cX1_weigh 162 = .ok (.getfield 12, 3)) ∧ (decode cX1_weigh 165 = .ok (.aload_n 3, 1)) ∧ (decode cX1_weigh 166 = .ok (.aload_n 0, 1)) ∧ (decode cX1_weigh 167 = .ok (.getfield 12, 3)) ∧ (decode cX1_weigh 170 = .ok (.getfield 79, 3)) ∧ (decode cX1_weigh 173 = .ok (.iload_n 1, 1)) ∧ (decode cX1_weigh 174 = .ok (.iaload, 1)) ∧ (decode cX1_weigh 175 = .ok (.invokevirtual 83, 3)) ∧ (decode cX1_weigh 178 = .ok (.pop, 1)) := by decide +kernel
theorem dX1_weigh_147 : decode cX1_weigh 147 = .ok (.if_icmp .ne 7, 3) := dg_a48.1
theorem dX1_weigh_150 : decode cX1_weigh 150 = .ok (.iconst 1, 1) := dg_a48.2.1
theorem dX1_weigh_151 : decode cX1_weigh 151 = .ok (.goto 4, 3) := dg_a48.2.2.1
theorem dX1_weigh_154 : decode cX1_weigh 154 = .ok (.iconst 0, 1) := dg_a48.2.2.2.1
theorem dX1_weigh_155 : decode cX1_weigh 155 = .ok (.invokestatic 75, 3) := dg_a48.2.2.2.2.1
theorem dX1_weigh_158 : decode cX1_weigh 158 = .ok (.putfield 69, 3) := dg_a48.2.2.2.2.2.1
theorem dX1_weigh_161 : decode cX1_weigh 161 = .ok (.aload_n 0, 1) := dg_a48.2.2.2.2.2.2.1
theorem dX1_weigh_162 : decode cX1_weigh 162 = .ok (.getfield 12, 3) := dg_a48.2.2.2.2.2.2.2.1
theorem dX1_weigh_165 : decode cX1_weigh 165 = .ok (.aload_n 3, 1) := dg_a48.2.2.2.2.2.2.2.2.1
theorem dX1_weigh_166 : decode cX1_weigh 166 = .ok (.aload_n 0, 1) := dg_a48.2.2.2.2.2.2.2.2.2.1
theorem dX1_weigh_167 : decode cX1_weigh 167 = .ok (.getfield 12, 3) := dg_a48.2.2.2.2.2.2.2.2.2.2.1
theorem dX1_weigh_170 : decode cX1_weigh 170 = .ok (.getfield 79, 3) := dg_a48.2.2.2.2.2.2.2.2.2.2.2.1
theorem dX1_weigh_173 : decode cX1_weigh 173 = .ok (.iload_n 1, 1) := dg_a48.2.2.2.2.2.2.2.2.2.2.2.2.1
theorem dX1_weigh_174 : decode cX1_weigh 174 = .ok (.iaload, 1) := dg_a48.2.2.2.2.2.2.2.2.2.2.2.2.2.1
theorem dX1_weigh_175 : decode cX1_weigh 175 = .ok (.invokevirtual 83, 3) := dg_a48.2.2.2.2.2.2.2.2.2.2.2.2.2.2.1
theorem dX1_weigh_178 : decode cX1_weigh 178 = .ok (.pop, 1) := dg_a48.2.2.2.2.2.2.2.2.2.2.2.2.2.2.2
theorem dg_a49 : (decode cX1_weigh 179 = .ok (.lload 4, 2)) ∧ (decode cX1_weigh 181 = .ok (.iload 7, 2)) ∧ (decode cX1_weigh 183 = .ok (.i2l, 1)) ∧ (decode cX1_weigh 184 = .ok (.aload_n 0, 1)) ∧ (decode cX1_weigh 185 = .ok (.iload_n 1, 1)) ∧ (decode cX1_weigh 186 = .ok (.iconst 1, 1)) ∧ (decode cX1_weigh 187 = .ok (.iadd, 1)) ∧ (decode cX1_weigh 188 = .ok (.invokevirtual 44, 3)) ∧ (decode cX1_weigh 191 = .ok (.lmul, 1)) ∧ (decode cX1_weigh 192 = .ok (.ladd, 1)) ∧ (decode cX1_weigh 193 = .ok (.lstore 4, 2)) ∧ (decode cX1_weigh 195 = .ok (.iinc 6 1, 3)) ∧ (decode cX1_weigh 198 = .ok (.goto (-107), 3)) ∧ (decode cX1_weigh 201 = .ok (.lload 4, 2)) ∧ (decode cX1_weigh 203 = .ok (.lreturn, 1)) := by decide +kernel
theorem dX1_weigh_179 : decode cX1_weigh 179 = .ok (.lload 4, 2) := dg_a49.1
theorem dX1_weigh_181 : decode cX1_weigh 181 = .ok (.iload 7, 2) := dg_a49.2.1
theorem dX1_weigh_183 : decode cX1_weigh 183 = .ok (.i2l, 1) := dg_a49.2.2.1
theorem dX1_weigh_184 : decode cX1_weigh 184 = .ok (.aload_n 0, 1) := dg_a49.2.2.2.1
theorem dX1_weigh_185 : decode cX1_weigh 185 = .ok (.iload_n 1, 1) := dg_a49.2.2.2.2.1
theorem dX1_weigh_186 : decode cX1_weigh 186 = .ok (.iconst 1, 1) := dg_a49.2.2.2.2.2.1
theorem dX1_weigh_187 : decode cX1_weigh 187 = .ok (.iadd, 1) := dg_a49.2.2.2.2.2.2.1
theorem dX1_weigh_188 : decode cX1_weigh 188 = .ok (.invokevirtual 44, 3) := dg_a49.2.2.2.2.2.2.2.1
theorem dX1_weigh_191 : decode cX1_weigh 191 = .ok (.lmul, 1) := dg_a49.2.2.2.2.2.2.2.2.1
theorem dX1_weigh_192 : decode cX1_weigh 192 = .ok (.ladd, 1) := dg_a49.2.2.2.2.2.2.2.2.2.1
theorem dX1_weigh_193 : decode cX1_weigh 193 = .ok (.lstore 4, 2) := dg_a49.2.2.2.2.2.2.2.2.2.2.1
theorem dX1_weigh_195 : decode cX1_weigh 195 = .ok (.iinc 6 1, 3) := dg_a49.2.2.2.2.2.2.2.2.2.2.2.1
theorem dX1_weigh_198 : decode cX1_weigh 198 = .ok (.goto (-107), 3) := dg_a49.2.2.2.2.2.2.2.2.2.2.2.2.1
theorem dX1_weigh_201 : decode cX1_weigh 201 = .ok (.lload 4, 2) := dg_a49.2.2.2.2.2.2.2.2.2.2.2.2.2.1
theorem dX1_weigh_203 : decode cX1_weigh 203 = .ok (.lreturn, 1) := dg_a49.2.2.2.2.2.2.2.2.2.2.2.2.2.2
theorem dg_a50 : (decode cX1_part 0 = .ok (.lconst 1, 1)) ∧ (decode cX1_part 1 = .ok (.lstore 5, 2)) ∧ (decode cX1_part 3 = .ok (.iconst 0, 1)) ∧ (decode cX1_part 4 = .ok (.istore 7, 2)) ∧ (decode cX1_part 6 = .ok (.iload 7, 2)) ∧ (decode cX1_part 8 = .ok (.iload_n 3, 1)) ∧ (decode cX1_part 9 = .ok (.if_icmp .ge 24, 3)) ∧ (decode cX1_part 12 = .ok (.iload 7, 2)) ∧ (decode cX1_part 14 = .ok (.bipush 8, 2)) ∧ (decode cX1_part 16 = .ok (.if_icmp .ge 17, 3)) ∧ (decode cX1_part 19 = .ok (.lload 5, 2)) ∧ (decode cX1_part 21 = .ok (.ldc2_w 67, 3)) ∧ (decode cX1_part 24 = .ok (.lmul, 1)) ∧ (decode cX1_part 25 = .ok (.lstore 5, 2)) ∧ (decode cX1_part 27 = .ok (.iinc 7 1, 3)) ∧ (decode cX1_part 30 = .ok (.goto (-24), 3)) := by decide +kernel
theorem dX1_part_0 : decode cX1_part 0 = .ok (.lconst 1, 1) := dg_a50.1
theorem dX1_part_1 : decode cX1_part 1 = .ok (.lstore 5, 2) := dg_a50.2.1
theorem dX1_part_3 : decode cX1_part 3 = .ok (.iconst 0, 1) := dg_a50.2.2.1
theorem dX1_part_4 : decode cX1_part 4 = .ok (.istore 7, 2) := dg_a50.2.2.2.1
theorem dX1_part_6 : decode cX1_part 6 = .ok (.iload 7, 2) := dg_a50.2.2.2.2.1
theorem dX1_part_8 : decode cX1_part 8 = .ok (.iload_n 3, 1) := dg_a50.2.2.2.2.2.1
theorem dX1_part_9 : decode cX1_part 9 = .ok (.if_icmp .ge 24, 3) := dg_a50.2.2.2.2.2.2.1
theorem dX1_part_12 : decode cX1_part 12 = .ok (.iload 7, 2) := dg_a50.2.2.2.2.2.2.2.1
theorem dX1_part_14 : decode cX1_part 14 = .ok (.bipush 8, 2) := dg_a50.2.2.2.2.2.2.2.2.1
theorem dX1_part_16 : decode cX1_part 16 = .ok (.if_icmp .ge 17, 3) := dg_a50.2.2.2.2.2.2.2.2.2.1
theorem dX1_part_19 : decode cX1_part 19 = .ok (.lload 5, 2) := dg_a50.2.2.2.2.2.2.2.2.2.2.1
theorem dX1_part_21 : decode cX1_part 21 = .ok (.ldc2_w 67, 3) := dg_a50.2.2.2.2.2.2.2.2.2.2.2.1
theorem dX1_part_24 : decode cX1_part 24 = .ok (.lmul, 1) := dg_a50.2.2.2.2.2.2.2.2.2.2.2.2.1
theorem dX1_part_25 : decode cX1_part 25 = .ok (.lstore 5, 2) := dg_a50.2.2.2.2.2.2.2.2.2.2.2.2.2.1
theorem dX1_part_27 : decode cX1_part 27 = .ok (.iinc 7 1, 3) := dg_a50.2.2.2.2.2.2.2.2.2.2.2.2.2.2.1
theorem dX1_part_30 : decode cX1_part 30 = .ok (.goto (-24), 3) := dg_a50.2.2.2.2.2.2.2.2.2.2.2.2.2.2.2
theorem dg_a51 : (decode cX1_part 33 = .ok (.lload_n 1, 1)) ∧ (decode cX1_part 34 = .ok (.lload 5, 2)) ∧ (decode cX1_part 36 = .ok (.invokestatic 87, 3)) ∧ (decode cX1_part 39 = .ok (.lstore 7, 2)) ∧ (decode cX1_part 41 = .ok (.lload 7, 2)) ∧ (decode cX1_part 43 = .ok (.lconst 0, 1)) ∧ (decode cX1_part 44 = .ok (.lcmp, 1)) ∧ (decode cX1_part 45 = .ok (.ifCond .ne 5, 3)) ∧ (decode cX1_part 48 = .ok (.lconst 0, 1)) ∧ (decode cX1_part 49 = .ok (.lreturn, 1)) ∧ (decode cX1_part 50 = .ok (.iload 4, 2)) ∧ (decode cX1_part 52 = .ok (.ifCond .ne 10, 3)) ∧ (decode cX1_part 55 = .ok (.lload_n 1, 1)) ∧ (decode cX1_part 56 = .ok (.lload 7, 2)) ∧ (decode cX1_part 58 = .ok (.ldiv, 1)) ∧ (decode cX1_part 59 = .ok (.goto 8, 3)) := by decide +kernel
theorem dX1_part_33 : decode cX1_part 33 = .ok (.lload_n 1, 1) := dg_a51.1
theorem dX1_part_34 : decode cX1_part 34 = .ok (.lload 5, 2) := dg_a51.2.1
theorem dX1_part_36 : decode cX1_part 36 = .ok (.invokestatic 87, 3) := dg_a51.2.2.1
theorem dX1_part_39 : decode cX1_part 39 = .ok (.lstore 7, 2) := dg_a51.2.2.2.1
theorem dX1_part_41 : decode cX1_part 41 = .ok (.lload 7, 2) := dg_a51.2.2.2.2.1
theorem dX1_part_43 : decode cX1_part 43 = .ok (.lconst 0, 1) := dg_a51.2.2.2.2.2.1
theorem dX1_part_44 : decode cX1_part 44 = .ok (.lcmp, 1) := dg_a51.2.2.2.2.2.2.1
theorem dX1_part_45 : decode cX1_part 45 = .ok (.ifCond .ne 5, 3) := dg_a51.2.2.2.2.2.2.2.1
theorem dX1_part_48 : decode cX1_part 48 = .ok (.lconst 0, 1) := dg_a51.2.2.2.2.2.2.2.2.1
theorem dX1_part_49 : decode cX1_part 49 = .ok (.lreturn, 1) := dg_a51.2.2.2.2.2.2.2.2.2.1
theorem dX1_part_50 : decode cX1_part 50 = .ok (.iload 4, 2) := dg_a51.2.2.2.2.2.2.2.2.2.2.1
theorem dX1_part_52 : decode cX1_part 52 = .ok (.ifCond .ne 10, 3) := dg_a51.2.2.2.2.2.2.2.2.2.2.2.1
theorem dX1_part_55 : decode cX1_part 55 = .ok (.lload_n 1, 1) := dg_a51.2.2.2.2.2.2.2.2.2.2.2.2.1
theorem dX1_part_56 : decode cX1_part 56 = .ok (.lload 7, 2) := dg_a51.2.2.2.2.2.2.2.2.2.2.2.2.2.1
theorem dX1_part_58 : decode cX1_part 58 = .ok (.ldiv, 1) := dg_a51.2.2.2.2.2.2.2.2.2.2.2.2.2.2.1
theorem dX1_part_59 : decode cX1_part 59 = .ok (.goto 8, 3) := dg_a51.2.2.2.2.2.2.2.2.2.2.2.2.2.2.2
theorem dg_a52 : (decode cX1_part 62 = .ok (.lload 5, 2)) ∧ (decode cX1_part 64 = .ok (.lload 7, 2)) ∧ (decode cX1_part 66 = .ok (.ldiv, 1)) ∧ (decode cX1_part 67 = .ok (.lreturn, 1)) := by decide +kernel
theorem dX1_part_62 : decode cX1_part 62 = .ok (.lload 5, 2) := dg_a52.1
theorem dX1_part_64 : decode cX1_part 64 = .ok (.lload 7, 2) := dg_a52.2.1
theorem dX1_part_66 : decode cX1_part 66 = .ok (.ldiv, 1) := dg_a52.2.2.1
theorem dX1_part_67 : decode cX1_part 67 = .ok (.lreturn, 1) := dg_a52.2.2.2
theorem dg_a53 : (decode cX1_divisorOf 0 = .ok (.lload_n 0, 1)) ∧ (decode cX1_divisorOf 1 = .ok (.lstore 4, 2)) ∧ (decode cX1_divisorOf 3 = .ok (.lload_n 2, 1)) ∧ (decode cX1_divisorOf 4 = .ok (.lstore 6, 2)) ∧ (decode cX1_divisorOf 6 = .ok (.iconst 0, 1)) ∧ (decode cX1_divisorOf 7 = .ok (.istore 8, 2)) ∧ (decode cX1_divisorOf 9 = .ok (.iload 8, 2)) ∧ (decode cX1_divisorOf 11 = .ok (.sipush 1000, 3)) ∧ (decode cX1_divisorOf 14 = .ok (.if_icmp .ge 31, 3)) ∧ (decode cX1_divisorOf 17 = .ok (.lload 6, 2)) ∧ (decode cX1_divisorOf 19 = .ok (.lconst 0, 1)) ∧ (decode cX1_divisorOf 20 = .ok (.lcmp, 1)) ∧ (decode cX1_divisorOf 21 = .ok (.ifCond .eq 24, 3)) ∧ (decode cX1_divisorOf 24 = .ok (.lload 4, 2)) ∧ (decode cX1_divisorOf 26 = .ok (.lload 6, 2)) ∧ (decode cX1_divisorOf 28 = .ok (.lrem, 1)) := by decide +kernel
theorem dX1_divisorOf_0 : decode cX1_divisorOf 0 = .ok (.lload_n 0, 1) := dg_a53.1
theorem dX1_divisorOf_1 : decode cX1_divisorOf 1 = .ok (.lstore 4, 2) := dg_a53.2.1
theorem dX1_divisorOf_3 : decode cX1_divisorOf 3 = .ok (.lload_n 2, 1) := dg_a53.2.2.1
theorem dX1_divisorOf_4 : decode cX1_divisorOf 4 = .ok (.lstore 6, 2) := dg_a53.2.2.2.1
theorem dX1_divisorOf_6 : decode cX1_divisorOf 6 = .ok (.iconst 0, 1) := dg_a53.2.2.2.2.1
theorem dX1_divisorOf_7 : decode cX1_divisorOf 7 = .ok (.istore 8, 2) := dg_a53.2.2.2.2.2.1
theorem dX1_divisorOf_9 : decode cX1_divisorOf 9 = .ok (.iload 8, 2) := dg_a53.2.2.2.2.2.2.1
theorem dX1_divisorOf_11 : decode cX1_divisorOf 11 = .ok (.sipush 1000, 3) := dg_a53.2.2.2.2.2.2.2.1
theorem dX1_divisorOf_14 : decode cX1_divisorOf 14 = .ok (.if_icmp .ge 31, 3) := dg_a53.2.2.2.2.2.2.2.2.1
theorem dX1_divisorOf_17 : decode cX1_divisorOf 17 = .ok (.lload 6, 2) := dg_a53.2.2.2.2.2.2.2.2.2.1
theorem dX1_divisorOf_19 : decode cX1_divisorOf 19 = .ok (.lconst 0, 1) := dg_a53.2.2.2.2.2.2.2.2.2.2.1
theorem dX1_divisorOf_20 : decode cX1_divisorOf 20 = .ok (.lcmp, 1) := dg_a53.2.2.2.2.2.2.2.2.2.2.2.1
theorem dX1_divisorOf_21 : decode cX1_divisorOf 21 = .ok (.ifCond .eq 24, 3) := dg_a53.2.2.2.2.2.2.2.2.2.2.2.2.1
theorem dX1_divisorOf_24 : decode cX1_divisorOf 24 = .ok (.lload 4, 2) := dg_a53.2.2.2.2.2.2.2.2.2.2.2.2.2.1
theorem dX1_divisorOf_26 : decode cX1_divisorOf 26 = .ok (.lload 6, 2) := dg_a53.2.2.2.2.2.2.2.2.2.2.2.2.2.2.1
theorem dX1_divisorOf_28 : decode cX1_divisorOf 28 = .ok (.lrem, 1) := dg_a53.2.2.2.2.2.2.2.2.2.2.2.2.2.2.2
theorem dg_a54 : (decode cX1_divisorOf 29 = .ok (.lstore 9, 2)) ∧ (decode cX1_divisorOf 31 = .ok (.lload 6, 2)) ∧ (decode cX1_divisorOf 33 = .ok (.lstore 4, 2)) ∧ (decode cX1_divisorOf 35 = .ok (.lload 9, 2)) ∧ (decode cX1_divisorOf 37 = .ok (.lstore 6, 2)) ∧ (decode cX1_divisorOf 39 = .ok (.iinc 8 1, 3)) ∧ (decode cX1_divisorOf 42 = .ok (.goto (-33), 3)) ∧ (decode cX1_divisorOf 45 = .ok (.lload 4, 2)) ∧ (decode cX1_divisorOf 47 = .ok (.lreturn, 1)) := by decide +kernel
theorem dX1_divisorOf_29 : decode cX1_divisorOf 29 = .ok (.lstore 9, 2) := dg_a54.1
theorem dX1_divisorOf_31 : decode cX1_divisorOf 31 = .ok (.lload 6, 2) := dg_a54.2.1
theorem dX1_divisorOf_33 : decode cX1_divisorOf 33 = .ok (.lstore 4, 2) := dg_a54.2.2.1
theorem dX1_divisorOf_35 : decode cX1_divisorOf 35 = .ok (.lload 9, 2) := dg_a54.2.2.2.1
theorem dX1_divisorOf_37 : decode cX1_divisorOf 37 = .ok (.lstore 6, 2) := dg_a54.2.2.2.2.1
theorem dX1_divisorOf_39 : decode cX1_divisorOf 39 = .ok (.iinc 8 1, 3) := dg_a54.2.2.2.2.2.1
theorem dX1_divisorOf_42 : decode cX1_divisorOf 42 = .ok (.goto (-33), 3) := dg_a54.2.2.2.2.2.2.1
theorem dX1_divisorOf_45 : decode cX1_divisorOf 45 = .ok (.lload 4, 2) := dg_a54.2.2.2.2.2.2.2.1
theorem dX1_divisorOf_47 : decode cX1_divisorOf 47 = .ok (.lreturn, 1) := dg_a54.2.2.2.2.2.2.2.2
theorem dg_a55 : (decode cX2_init 0 = .ok (.aload_n 0, 1)) ∧ (decode cX2_init 1 = .ok (.invokespecial 3, 3)) ∧ (decode cX2_init 4 = .ok (.return_, 1)) := by decide +kernel
theorem dX2_init_0 : decode cX2_init 0 = .ok (.aload_n 0, 1) := dg_a55.1
theorem dX2_init_1 : decode cX2_init 1 = .ok (.invokespecial 3, 3) := dg_a55.2.1
theorem dX2_init_4 : decode cX2_init 4 = .ok (.return_, 1) := dg_a55.2.2
theorem dg_a56 : (decode cX2_become 0 = .ok (.aload_n 0, 1)) ∧ (decode cX2_become 1 = .ok (.aload_n 1, 1)) ∧ (decode cX2_become 2 = .ok (.getfield 9, 3)) ∧ (decode cX2_become 5 = .ok (.putfield 9, 3)) ∧ (decode cX2_become 8 = .ok (.aload_n 0, 1)) ∧ (decode cX2_become 9 = .ok (.aload_n 1, 1)) ∧ (decode cX2_become 10 = .ok (.getfield 15, 3)) ∧ (decode cX2_become 13 = .ok (.putfield 15, 3)) ∧ (decode cX2_become 16 = .ok (.aload_n 0, 1)) ∧ (decode cX2_become 17 = .ok (.aload_n 1, 1)) ∧ (decode cX2_become 18 = .ok (.getfield 18, 3)) ∧ (decode cX2_become 21 = .ok (.putfield 18, 3)) ∧ (decode cX2_become 24 = .ok (.aload_n 0, 1)) ∧ (decode cX2_become 25 = .ok (.aload_n 1, 1)) ∧ (decode cX2_become 26 = .ok (.getfield 21, 3)) ∧ (decode cX2_become 29 = .ok (.putfield 21, 3)) := by decide +kernel
theorem dX2_become_0 : decode cX2_become 0 = .ok (.aload_n 0, 1) := dg_a56.1
theorem dX2_become_1 : decode cX2_become 1 = .ok (.aload_n 1, 1) := dg_a56.2.1
theorem dX2_become_2 : decode cX2_become 2 = .ok (.getfield 9, 3) := dg_a56.2.2.1
theorem dX2_become_5 : decode cX2_become 5 = .ok (.putfield 9, 3) := dg_a56.2.2.2.1
theorem dX2_become_8 : decode cX2_become 8 = .ok (.aload_n 0, 1) := dg_a56.2.2.2.2.1
theorem dX2_become_9 : decode cX2_become 9 = .ok (.aload_n 1, 1) := dg_a56.2.2.2.2.2.1
theorem dX2_become_10 : decode cX2_become 10 = .ok (.getfield 15, 3) := dg_a56.2.2.2.2.2.2.1
theorem dX2_become_13 : decode cX2_become 13 = .ok (.putfield 15, 3) := dg_a56.2.2.2.2.2.2.2.1
theorem dX2_become_16 : decode cX2_become 16 = .ok (.aload_n 0, 1) := dg_a56.2.2.2.2.2.2.2.2.1
theorem dX2_become_17 : decode cX2_become 17 = .ok (.aload_n 1, 1) := dg_a56.2.2.2.2.2.2.2.2.2.1
theorem dX2_become_18 : decode cX2_become 18 = .ok (.getfield 18, 3) := dg_a56.2.2.2.2.2.2.2.2.2.2.1
theorem dX2_become_21 : decode cX2_become 21 = .ok (.putfield 18, 3) := dg_a56.2.2.2.2.2.2.2.2.2.2.2.1
theorem dX2_become_24 : decode cX2_become 24 = .ok (.aload_n 0, 1) := dg_a56.2.2.2.2.2.2.2.2.2.2.2.2.1
theorem dX2_become_25 : decode cX2_become 25 = .ok (.aload_n 1, 1) := dg_a56.2.2.2.2.2.2.2.2.2.2.2.2.2.1
theorem dX2_become_26 : decode cX2_become 26 = .ok (.getfield 21, 3) := dg_a56.2.2.2.2.2.2.2.2.2.2.2.2.2.2.1
theorem dX2_become_29 : decode cX2_become 29 = .ok (.putfield 21, 3) := dg_a56.2.2.2.2.2.2.2.2.2.2.2.2.2.2.2
theorem dX2_become_32 : decode cX2_become 32 = .ok (.return_, 1) := by decide +kernel
theorem dg_a57 : (decode cX2_canStep 0 = .ok (.aload_n 0, 1)) ∧ (decode cX2_canStep 1 = .ok (.getfield 21, 3)) ∧ (decode cX2_canStep 4 = .ok (.ifCond .le 16, 3)) ∧ (decode cX2_canStep 7 = .ok (.aload_n 0, 1)) ∧ (decode cX2_canStep 8 = .ok (.getfield 9, 3)) ∧ (decode cX2_canStep 11 = .ok (.bipush 10, 2)) ∧ (decode cX2_canStep 13 = .ok (.if_icmp .ge 7, 3)) ∧ (decode cX2_canStep 16 = .ok (.iconst 1, 1)) ∧ (decode cX2_canStep 17 = .ok (.goto 4, 3)) ∧ (decode cX2_canStep 20 = .ok (.iconst 0, 1)) ∧ (decode cX2_canStep 21 = .ok (.ireturn, 1)) := by decide +kernel
theorem dX2_canStep_0 : decode cX2_canStep 0 = .ok (.aload_n 0, 1) := dg_a57.1
theorem dX2_canStep_1 : decode cX2_canStep 1 = .ok (.getfield 21, 3) := dg_a57.2.1
theorem dX2_canStep_4 : decode cX2_canStep 4 = .ok (.ifCond .le 16, 3) := dg_a57.2.2.1
theorem dX2_canStep_7 : decode cX2_canStep 7 = .ok (.aload_n 0, 1) := dg_a57.2.2.2.1
theorem dX2_canStep_8 : decode cX2_canStep 8 = .ok (.getfield 9, 3) := dg_a57.2.2.2.2.1
theorem dX2_canStep_11 : decode cX2_canStep 11 = .ok (.bipush 10, 2) := dg_a57.2.2.2.2.2.1
theorem dX2_canStep_13 : decode cX2_canStep 13 = .ok (.if_icmp .ge 7, 3) := dg_a57.2.2.2.2.2.2.1
theorem dX2_canStep_16 : decode cX2_canStep 16 = .ok (.iconst 1, 1) := dg_a57.2.2.2.2.2.2.2.1
theorem dX2_canStep_17 : decode cX2_canStep 17 = .ok (.goto 4, 3) := dg_a57.2.2.2.2.2.2.2.2.1
theorem dX2_canStep_20 : decode cX2_canStep 20 = .ok (.iconst 0, 1) := dg_a57.2.2.2.2.2.2.2.2.2.1
theorem dX2_canStep_21 : decode cX2_canStep 21 = .ok (.ireturn, 1) := dg_a57.2.2.2.2.2.2.2.2.2.2
theorem dg_a58 : (decode cX2_pass 0 = .ok (.aload_n 0, 1)) ∧ (decode cX2_pass 1 = .ok (.dup, 1)) ∧ (decode cX2_pass 2 = .ok (.getfield 9, 3)) ∧ (decode cX2_pass 5 = .ok (.iconst 1, 1)) ∧ (decode cX2_pass 6 = .ok (.iadd, 1)) ∧ (decode cX2_pass 7 = .ok (.putfield 9, 3)) ∧ (decode cX2_pass 10 = .ok (.aload_n 0, 1)) ∧ (decode cX2_pass 11 = .ok (.dup, 1)) ∧ (decode cX2_pass 12 = .ok (.getfield 15, 3)) ∧ (decode cX2_pass 15 = .ok (.iload_n 1, 1)) ∧ (decode cX2_pass 16 = .ok (.iadd, 1)) ∧ (decode cX2_pass 17 = .ok (.putfield 15, 3)) ∧ (decode cX2_pass 20 = .ok (.aload_n 0, 1)) ∧ (decode cX2_pass 21 = .ok (.dup, 1)) ∧ (decode cX2_pass 22 = .ok (.getfield 18, 3)) ∧ (decode cX2_pass 25 = .ok (.iload_n 2, 1)) := by decide +kernel
theorem dX2_pass_0 : decode cX2_pass 0 = .ok (.aload_n 0, 1) := dg_a58.1
theorem dX2_pass_1 : decode cX2_pass 1 = .ok (.dup, 1) := dg_a58.2.1
theorem dX2_pass_2 : decode cX2_pass 2 = .ok (.getfield 9, 3) := dg_a58.2.2.1
theorem dX2_pass_5 : decode cX2_pass 5 = .ok (.iconst 1, 1) := dg_a58.2.2.2.1
theorem dX2_pass_6 : decode cX2_pass 6 = .ok (.iadd, 1) := dg_a58.2.2.2.2.1
theorem dX2_pass_7 : decode cX2_pass 7 = .ok (.putfield 9, 3) := dg_a58.2.2.2.2.2.1
theorem dX2_pass_10 : decode cX2_pass 10 = .ok (.aload_n 0, 1) := dg_a58.2.2.2.2.2.2.1
theorem dX2_pass_11 : decode cX2_pass 11 = .ok (.dup, 1) := dg_a58.2.2.2.2.2.2.2.1
theorem dX2_pass_12 : decode cX2_pass 12 = .ok (.getfield 15, 3) := dg_a58.2.2.2.2.2.2.2.2.1
theorem dX2_pass_15 : decode cX2_pass 15 = .ok (.iload_n 1, 1) := dg_a58.2.2.2.2.2.2.2.2.2.1
theorem dX2_pass_16 : decode cX2_pass 16 = .ok (.iadd, 1) := dg_a58.2.2.2.2.2.2.2.2.2.2.1
theorem dX2_pass_17 : decode cX2_pass 17 = .ok (.putfield 15, 3) := dg_a58.2.2.2.2.2.2.2.2.2.2.2.1
theorem dX2_pass_20 : decode cX2_pass 20 = .ok (.aload_n 0, 1) := dg_a58.2.2.2.2.2.2.2.2.2.2.2.2.1
theorem dX2_pass_21 : decode cX2_pass 21 = .ok (.dup, 1) := dg_a58.2.2.2.2.2.2.2.2.2.2.2.2.2.1
theorem dX2_pass_22 : decode cX2_pass 22 = .ok (.getfield 18, 3) := dg_a58.2.2.2.2.2.2.2.2.2.2.2.2.2.2.1
theorem dX2_pass_25 : decode cX2_pass 25 = .ok (.iload_n 2, 1) := dg_a58.2.2.2.2.2.2.2.2.2.2.2.2.2.2.2
theorem dg_a59 : (decode cX2_pass 26 = .ok (.iadd, 1)) ∧ (decode cX2_pass 27 = .ok (.putfield 18, 3)) ∧ (decode cX2_pass 30 = .ok (.aload_n 0, 1)) ∧ (decode cX2_pass 31 = .ok (.iconst 0, 1)) ∧ (decode cX2_pass 32 = .ok (.aload_n 0, 1)) ∧ (decode cX2_pass 33 = .ok (.getfield 21, 3)) ∧ (decode cX2_pass 36 = .ok (.iload_n 3, 1)) ∧ (decode cX2_pass 37 = .ok (.isub, 1)) ∧ (decode cX2_pass 38 = .ok (.invokestatic 24, 3)) ∧ (decode cX2_pass 41 = .ok (.putfield 21, 3)) ∧ (decode cX2_pass 44 = .ok (.return_, 1)) := by decide +kernel
theorem dX2_pass_26 : decode cX2_pass 26 = .ok (.iadd, 1) := dg_a59.1
theorem dX2_pass_27 : decode cX2_pass 27 = .ok (.putfield 18, 3) := dg_a59.2.1
theorem dX2_pass_30 : decode cX2_pass 30 = .ok (.aload_n 0, 1) := dg_a59.2.2.1
theorem dX2_pass_31 : decode cX2_pass 31 = .ok (.iconst 0, 1) := dg_a59.2.2.2.1
theorem dX2_pass_32 : decode cX2_pass 32 = .ok (.aload_n 0, 1) := dg_a59.2.2.2.2.1
theorem dX2_pass_33 : decode cX2_pass 33 = .ok (.getfield 21, 3) := dg_a59.2.2.2.2.2.1
theorem dX2_pass_36 : decode cX2_pass 36 = .ok (.iload_n 3, 1) := dg_a59.2.2.2.2.2.2.1
theorem dX2_pass_37 : decode cX2_pass 37 = .ok (.isub, 1) := dg_a59.2.2.2.2.2.2.2.1
theorem dX2_pass_38 : decode cX2_pass 38 = .ok (.invokestatic 24, 3) := dg_a59.2.2.2.2.2.2.2.2.1
theorem dX2_pass_41 : decode cX2_pass 41 = .ok (.putfield 21, 3) := dg_a59.2.2.2.2.2.2.2.2.2.1
theorem dX2_pass_44 : decode cX2_pass 44 = .ok (.return_, 1) := dg_a59.2.2.2.2.2.2.2.2.2.2
theorem dg_a60 : (decode cX2_isBetterThan 0 = .ok (.aload_n 0, 1)) ∧ (decode cX2_isBetterThan 1 = .ok (.getfield 18, 3)) ∧ (decode cX2_isBetterThan 4 = .ok (.invokestatic 30, 3)) ∧ (decode cX2_isBetterThan 7 = .ok (.istore_n 3, 1)) ∧ (decode cX2_isBetterThan 8 = .ok (.iload_n 1, 1)) ∧ (decode cX2_isBetterThan 9 = .ok (.invokestatic 30, 3)) ∧ (decode cX2_isBetterThan 12 = .ok (.istore 4, 2)) ∧ (decode cX2_isBetterThan 14 = .ok (.iload_n 3, 1)) ∧ (decode cX2_isBetterThan 15 = .ok (.iload 4, 2)) ∧ (decode cX2_isBetterThan 17 = .ok (.if_icmp .lt 17, 3)) ∧ (decode cX2_isBetterThan 20 = .ok (.iload_n 3, 1)) ∧ (decode cX2_isBetterThan 21 = .ok (.iload 4, 2)) ∧ (decode cX2_isBetterThan 23 = .ok (.if_icmp .ne 15, 3)) ∧ (decode cX2_isBetterThan 26 = .ok (.aload_n 0, 1)) ∧ (decode cX2_isBetterThan 27 = .ok (.getfield 15, 3)) ∧ (decode cX2_isBetterThan 30 = .ok (.iload_n 2, 1)) := by decide +kernel
theorem dX2_isBetterThan_0 : decode cX2_isBetterThan 0 = .ok (.aload_n 0, 1) := dg_a60.1
theorem dX2_isBetterThan_1 : decode cX2_isBetterThan 1 = .ok (.getfield 18, 3) := dg_a60.2.1
theorem dX2_isBetterThan_4 : decode cX2_isBetterThan 4 = .ok (.invokestatic 30, 3) := dg_a60.2.2.1
theorem dX2_isBetterThan_7 : decode cX2_isBetterThan 7 = .ok (.istore_n 3, 1) := dg_a60.2.2.2.1
theorem dX2_isBetterThan_8 : decode cX2_isBetterThan 8 = .ok (.iload_n 1, 1) := dg_a60.2.2.2.2.1
theorem dX2_isBetterThan_9 : decode cX2_isBetterThan 9 = .ok (.invokestatic 30, 3) := dg_a60.2.2.2.2.2.1
theorem dX2_isBetterThan_12 : decode cX2_isBetterThan 12 = .ok (.istore 4, 2) := dg_a60.2.2.2.2.2.2.1
theorem dX2_isBetterThan_14 : decode cX2_isBetterThan 14 = .ok (.iload_n 3, 1) := dg_a60.2.2.2.2.2.2.2.1
theorem dX2_isBetterThan_15 : decode cX2_isBetterThan 15 = .ok (.iload 4, 2) := dg_a60.2.2.2.2.2.2.2.2.1
theorem dX2_isBetterThan_17 : decode cX2_isBetterThan 17 = .ok (.if_icmp .lt 17, 3) := dg_a60.2.2.2.2.2.2.2.2.2.1
theorem dX2_isBetterThan_20 : decode cX2_isBetterThan 20 = .ok (.iload_n 3, 1) := dg_a60.2.2.2.2.2.2.2.2.2.2.1
theorem dX2_isBetterThan_21 : decode cX2_isBetterThan 21 = .ok (.iload 4, 2) := dg_a60.2.2.2.2.2.2.2.2.2.2.2.1
theorem dX2_isBetterThan_23 : decode cX2_isBetterThan 23 = .ok (.if_icmp .ne 15, 3) := dg_a60.2.2.2.2.2.2.2.2.2.2.2.2.1
theorem dX2_isBetterThan_26 : decode cX2_isBetterThan 26 = .ok (.aload_n 0, 1) := dg_a60.2.2.2.2.2.2.2.2.2.2.2.2.2.1
theorem dX2_isBetterThan_27 : decode cX2_isBetterThan 27 = .ok (.getfield 15, 3) := dg_a60.2.2.2.2.2.2.2.2.2.2.2.2.2.2.1
theorem dX2_isBetterThan_30 : decode cX2_isBetterThan 30 = .ok (.iload_n 2, 1) := dg_a60.2.2.2.2.2.2.2.2.2.2.2.2.2.2.2
theorem dg_a61 : (decode cX2_isBetterThan 31 = .ok (.if_icmp .le 7, 3)) ∧ (decode cX2_isBetterThan 34 = .ok (.iconst 1, 1)) ∧ (decode cX2_isBetterThan 35 = .ok (.goto 4, 3)) ∧ (decode cX2_isBetterThan 38 = .ok (.iconst 0, 1)) ∧ (decode cX2_isBetterThan 39 = .ok (.ireturn, 1)) := by decide +kernel
theorem dX2_isBetterThan_31 : decode cX2_isBetterThan 31 = .ok (.if_icmp .le 7, 3) := dg_a61.1
theorem dX2_isBetterThan_34 : decode cX2_isBetterThan 34 = .ok (.iconst 1, 1) := dg_a61.2.1
theorem dX2_isBetterThan_35 : decode cX2_isBetterThan 35 = .ok (.goto 4, 3) := dg_a61.2.2.1
theorem dX2_isBetterThan_38 : decode cX2_isBetterThan 38 = .ok (.iconst 0, 1) := dg_a61.2.2.2.1
theorem dX2_isBetterThan_39 : decode cX2_isBetterThan 39 = .ok (.ireturn, 1) := dg_a61.2.2.2.2
theorem dg_a62 : (decode cX3_init 0 = .ok (.aload_n 0, 1)) ∧ (decode cX3_init 1 = .ok (.invokespecial 3, 3)) ∧ (decode cX3_init 4 = .ok (.aload_n 0, 1)) ∧ (decode cX3_init 5 = .ok (.iconst 5, 1)) ∧ (decode cX3_init 6 = .ok (.anewarray 9, 3)) ∧ (decode cX3_init 9 = .ok (.putfield 11, 3)) ∧ (decode cX3_init 12 = .ok (.aload_n 0, 1)) ∧ (decode cX3_init 13 = .ok (.iconst 4, 1)) ∧ (decode cX3_init 14 = .ok (.newarray .int, 2)) ∧ (decode cX3_init 16 = .ok (.putfield 17, 3)) ∧ (decode cX3_init 19 = .ok (.aload_n 0, 1)) ∧ (decode cX3_init 20 = .ok (.iconst 4, 1)) ∧ (decode cX3_init 21 = .ok (.newarray .int, 2)) ∧ (decode cX3_init 23 = .ok (.putfield 21, 3)) ∧ (decode cX3_init 26 = .ok (.iconst 0, 1)) ∧ (decode cX3_init 27 = .ok (.istore_n 1, 1)) := by decide +kernel
theorem dX3_init_0 : decode cX3_init 0 = .ok (.aload_n 0, 1) := dg_a62.1
theorem dX3_init_1 : decode cX3_init 1 = .ok (.invokespecial 3, 3) := dg_a62.2.1
theorem dX3_init_4 : decode cX3_init 4 = .ok (.aload_n 0, 1) := dg_a62.2.2.1
theorem dX3_init_5 : decode cX3_init 5 = .ok (.iconst 5, 1) := dg_a62.2.2.2.1
theorem dX3_init_6 : decode cX3_init 6 = .ok (.anewarray 9, 3) := dg_a62.2.2.2.2.1
theorem dX3_init_9 : decode cX3_init 9 = .ok (.putfield 11, 3) := dg_a62.2.2.2.2.2.1
theorem dX3_init_12 : decode cX3_init 12 = .ok (.aload_n 0, 1) := dg_a62.2.2.2.2.2.2.1
theorem dX3_init_13 : decode cX3_init 13 = .ok (.iconst 4, 1) := dg_a62.2.2.2.2.2.2.2.1
theorem dX3_init_14 : decode cX3_init 14 = .ok (.newarray .int, 2) := dg_a62.2.2.2.2.2.2.2.2.1
theorem dX3_init_16 : decode cX3_init 16 = .ok (.putfield 17, 3) := dg_a62.2.2.2.2.2.2.2.2.2.1
theorem dX3_init_19 : decode cX3_init 19 = .ok (.aload_n 0, 1) := dg_a62.2.2.2.2.2.2.2.2.2.2.1
theorem dX3_init_20 : decode cX3_init 20 = .ok (.iconst 4, 1) := dg_a62.2.2.2.2.2.2.2.2.2.2.2.1
theorem dX3_init_21 : decode cX3_init 21 = .ok (.newarray .int, 2) := dg_a62.2.2.2.2.2.2.2.2.2.2.2.2.1
theorem dX3_init_23 : decode cX3_init 23 = .ok (.putfield 21, 3) := dg_a62.2.2.2.2.2.2.2.2.2.2.2.2.2.1
theorem dX3_init_26 : decode cX3_init 26 = .ok (.iconst 0, 1) := dg_a62.2.2.2.2.2.2.2.2.2.2.2.2.2.2.1
theorem dX3_init_27 : decode cX3_init 27 = .ok (.istore_n 1, 1) := dg_a62.2.2.2.2.2.2.2.2.2.2.2.2.2.2.2
theorem dg_a63 : (decode cX3_init 28 = .ok (.iload_n 1, 1)) ∧ (decode cX3_init 29 = .ok (.iconst 4, 1)) ∧ (decode cX3_init 30 = .ok (.if_icmp .gt 22, 3)) ∧ (decode cX3_init 33 = .ok (.aload_n 0, 1)) ∧ (decode cX3_init 34 = .ok (.getfield 11, 3)) ∧ (decode cX3_init 37 = .ok (.iload_n 1, 1)) ∧ (decode cX3_init 38 = .ok (.new 9, 3)) ∧ (decode cX3_init 41 = .ok (.dup, 1)) ∧ (decode cX3_init 42 = .ok (.invokespecial 24, 3)) ∧ (decode cX3_init 45 = .ok (.aastore, 1)) ∧ (decode cX3_init 46 = .ok (.iinc 1 1, 3)) ∧ (decode cX3_init 49 = .ok (.goto (-21), 3)) ∧ (decode cX3_init 52 = .ok (.return_, 1)) := by decide +kernel
theorem dX3_init_28 : decode cX3_init 28 = .ok (.iload_n 1, 1) := dg_a63.1
theorem dX3_init_29 : decode cX3_init 29 = .ok (.iconst 4, 1) := dg_a63.2.1
theorem dX3_init_30 : decode cX3_init 30 = .ok (.if_icmp .gt 22, 3) := dg_a63.2.2.1
theorem dX3_init_33 : decode cX3_init 33 = .ok (.aload_n 0, 1) := dg_a63.2.2.2.1
theorem dX3_init_34 : decode cX3_init 34 = .ok (.getfield 11, 3) := dg_a63.2.2.2.2.1
theorem dX3_init_37 : decode cX3_init 37 = .ok (.iload_n 1, 1) := dg_a63.2.2.2.2.2.1
theorem dX3_init_38 : decode cX3_init 38 = .ok (.new 9, 3) := dg_a63.2.2.2.2.2.2.1
theorem dX3_init_41 : decode cX3_init 41 = .ok (.dup, 1) := dg_a63.2.2.2.2.2.2.2.1
theorem dX3_init_42 : decode cX3_init 42 = .ok (.invokespecial 24, 3) := dg_a63.2.2.2.2.2.2.2.2.1
theorem dX3_init_45 : decode cX3_init 45 = .ok (.aastore, 1) := dg_a63.2.2.2.2.2.2.2.2.2.1
theorem dX3_init_46 : decode cX3_init 46 = .ok (.iinc 1 1, 3) := dg_a63.2.2.2.2.2.2.2.2.2.2.1
theorem dX3_init_49 : decode cX3_init 49 = .ok (.goto (-21), 3) := dg_a63.2.2.2.2.2.2.2.2.2.2.2.1
theorem dX3_init_52 : decode cX3_init 52 = .ok (.return_, 1) := dg_a63.2.2.2.2.2.2.2.2.2.2.2.2
theorem dg_a64 : (decode cX3_findBest 0 = .ok (.aload_n 0, 1)) ∧ (decode cX3_findBest 1 = .ok (.iconst 0, 1)) ∧ (decode cX3_findBest 2 = .ok (.putfield 25, 3)) ∧ (decode cX3_findBest 5 = .ok (.aload_n 0, 1)) ∧ (decode cX3_findBest 6 = .ok (.getfield 11, 3)) ∧ (decode cX3_findBest 9 = .ok (.iconst 0, 1)) ∧ (decode cX3_findBest 10 = .ok (.aaload, 1)) ∧ (decode cX3_findBest 11 = .ok (.aload_n 1, 1)) ∧ (decode cX3_findBest 12 = .ok (.getfield 29, 3)) ∧ (decode cX3_findBest 15 = .ok (.invokevirtual 35, 3)) ∧ (decode cX3_findBest 18 = .ok (.aload_n 0, 1)) ∧ (decode cX3_findBest 19 = .ok (.aload_n 1, 1)) ∧ (decode cX3_findBest 20 = .ok (.iconst 0, 1)) ∧ (decode cX3_findBest 21 = .ok (.iload_n 2, 1)) ∧ (decode cX3_findBest 22 = .ok (.invokevirtual 39, 3)) ∧ (decode cX3_findBest 25 = .ok (.return_, 1)) := by decide +kernel
theorem dX3_findBest_0 : decode cX3_findBest 0 = .ok (.aload_n 0, 1) := dg_a64.1
theorem dX3_findBest_1 : decode cX3_findBest 1 = .ok (.iconst 0, 1) := dg_a64.2.1
theorem dX3_findBest_2 : decode cX3_findBest 2 = .ok (.putfield 25, 3) := dg_a64.2.2.1
theorem dX3_findBest_5 : decode cX3_findBest 5 = .ok (.aload_n 0, 1) := dg_a64.2.2.2.1
theorem dX3_findBest_6 : decode cX3_findBest 6 = .ok (.getfield 11, 3) := dg_a64.2.2.2.2.1
theorem dX3_findBest_9 : decode cX3_findBest 9 = .ok (.iconst 0, 1) := dg_a64.2.2.2.2.2.1
theorem dX3_findBest_10 : decode cX3_findBest 10 = .ok (.aaload, 1) := dg_a64.2.2.2.2.2.2.1
theorem dX3_findBest_11 : decode cX3_findBest 11 = .ok (.aload_n 1, 1) := dg_a64.2.2.2.2.2.2.2.1
theorem dX3_findBest_12 : decode cX3_findBest 12 = .ok (.getfield 29, 3) := dg_a64.2.2.2.2.2.2.2.2.1
theorem dX3_findBest_15 : decode cX3_findBest 15 = .ok (.invokevirtual 35, 3) := dg_a64.2.2.2.2.2.2.2.2.2.1
theorem dX3_findBest_18 : decode cX3_findBest 18 = .ok (.aload_n 0, 1) := dg_a64.2.2.2.2.2.2.2.2.2.2.1
theorem dX3_findBest_19 : decode cX3_findBest 19 = .ok (.aload_n 1, 1) := dg_a64.2.2.2.2.2.2.2.2.2.2.2.1
theorem dX3_findBest_20 : decode cX3_findBest 20 = .ok (.iconst 0, 1) := dg_a64.2.2.2.2.2.2.2.2.2.2.2.2.1
theorem dX3_findBest_21 : decode cX3_findBest 21 = .ok (.iload_n 2, 1) := dg_a64.2.2.2.2.2.2.2.2.2.2.2.2.2.1
theorem dX3_findBest_22 : decode cX3_findBest 22 = .ok (.invokevirtual 39, 3) := dg_a64.2.2.2.2.2.2.2.2.2.2.2.2.2.2.1
theorem dX3_findBest_25 : decode cX3_findBest 25 = .ok (.return_, 1) := dg_a64.2.2.2.2.2.2.2.2.2.2.2.2.2.2.2
theorem dg_a65 : (decode cX3_extend 0 = .ok (.iload_n 2, 1)) ∧ (decode cX3_extend 1 = .ok (.iload_n 3, 1)) ∧ (decode cX3_extend 2 = .ok (.if_icmp .ge 8, 3)) ∧ (decode cX3_extend 5 = .ok (.iload_n 2, 1)) ∧ (decode cX3_extend 6 = .ok (.iconst 4, 1)) ∧ (decode cX3_extend 7 = .ok (.if_icmp .lt 14, 3)) ∧ (decode cX3_extend 10 = .ok (.aload_n 0, 1)) ∧ (decode cX3_extend 11 = .ok (.aload_n 0, 1)) ∧ (decode cX3_extend 12 = .ok (.getfield 11, 3)) ∧ (decode cX3_extend 15 = .ok (.iload_n 2, 1)) ∧ (decode cX3_extend 16 = .ok (.aaload, 1)) ∧ (decode cX3_extend 17 = .ok (.invokevirtual 43, 3)) ∧ (decode cX3_extend 20 = .ok (.return_, 1)) ∧ (decode cX3_extend 21 = .ok (.iconst 1, 1)) ∧ (decode cX3_extend 22 = .ok (.istore 4, 2)) ∧ (decode cX3_extend 24 = .ok (.iconst 0, 1)) := by decide +kernel
theorem dX3_extend_0 : decode cX3_extend 0 = .ok (.iload_n 2, 1) := dg_a65.1
theorem dX3_extend_1 : decode cX3_extend 1 = .ok (.iload_n 3, 1) := dg_a65.2.1
theorem dX3_extend_2 : decode cX3_extend 2 = .ok (.if_icmp .ge 8, 3) := dg_a65.2.2.1
theorem dX3_extend_5 : decode cX3_extend 5 = .ok (.iload_n 2, 1) := dg_a65.2.2.2.1
theorem dX3_extend_6 : decode cX3_extend 6 = .ok (.iconst 4, 1) := dg_a65.2.2.2.2.1
theorem dX3_extend_7 : decode cX3_extend 7 = .ok (.if_icmp .lt 14, 3) := dg_a65.2.2.2.2.2.1
theorem dX3_extend_10 : decode cX3_extend 10 = .ok (.aload_n 0, 1) := dg_a65.2.2.2.2.2.2.1
theorem dX3_extend_11 : decode cX3_extend 11 = .ok (.aload_n 0, 1) := dg_a65.2.2.2.2.2.2.2.1
theorem dX3_extend_12 : decode cX3_extend 12 = .ok (.getfield 11, 3) := dg_a65.2.2.2.2.2.2.2.2.1
theorem dX3_extend_15 : decode cX3_extend 15 = .ok (.iload_n 2, 1) := dg_a65.2.2.2.2.2.2.2.2.2.1
theorem dX3_extend_16 : decode cX3_extend 16 = .ok (.aaload, 1) := dg_a65.2.2.2.2.2.2.2.2.2.2.1
theorem dX3_extend_17 : decode cX3_extend 17 = .ok (.invokevirtual 43, 3) := dg_a65.2.2.2.2.2.2.2.2.2.2.2.1
theorem dX3_extend_20 : decode cX3_extend 20 = .ok (.return_, 1) := dg_a65.2.2.2.2.2.2.2.2.2.2.2.2.1
theorem dX3_extend_21 : decode cX3_extend 21 = .ok (.iconst 1, 1) := dg_a65.2.2.2.2.2.2.2.2.2.2.2.2.2.1
theorem dX3_extend_22 : decode cX3_extend 22 = .ok (.istore 4, 2) := dg_a65.2.2.2.2.2.2.2.2.2.2.2.2.2.2.1
theorem dX3_extend_24 : decode cX3_extend 24 = .ok (.iconst 0, 1) := dg_a65.2.2.2.2.2.2.2.2.2.2.2.2.2.2.2
theorem dg_a66 : (decode cX3_extend 25 = .ok (.istore 5, 2)) ∧ (decode cX3_extend 27 = .ok (.iload 4, 2)) ∧ (decode cX3_extend 29 = .ok (.ifCond .eq 75, 3)) ∧ (decode cX3_extend 32 = .ok (.iload 5, 2)) ∧ (decode cX3_extend 34 = .ok (.bipush 7, 2)) ∧ (decode cX3_extend 36 = .ok (.if_icmp .ge 68, 3)) ∧ (decode cX3_extend 39 = .ok (.aload_n 1, 1)) ∧ (decode cX3_extend 40 = .ok (.iload 5, 2)) ∧ (decode cX3_extend 42 = .ok (.invokevirtual 46, 3)) ∧ (decode cX3_extend 45 = .ok (.ifCond .eq 53, 3)) ∧ (decode cX3_extend 48 = .ok (.aload_n 0, 1)) ∧ (decode cX3_extend 49 = .ok (.getfield 17, 3)) ∧ (decode cX3_extend 52 = .ok (.iload_n 2, 1)) ∧ (decode cX3_extend 53 = .ok (.iload 5, 2)) ∧ (decode cX3_extend 55 = .ok (.iastore, 1)) ∧ (decode cX3_extend 56 = .ok (.aload_n 0, 1)) := by decide +kernel
theorem dX3_extend_25 : decode cX3_extend 25 = .ok (.istore 5, 2) := dg_a66.1
theorem dX3_extend_27 : decode cX3_extend 27 = .ok (.iload 4, 2) := dg_a66.2.1
theorem dX3_extend_29 : decode cX3_extend 29 = .ok (.ifCond .eq 75, 3) := dg_a66.2.2.1
theorem dX3_extend_32 : decode cX3_extend 32 = .ok (.iload 5, 2) := dg_a66.2.2.2.1
theorem dX3_extend_34 : decode cX3_extend 34 = .ok (.bipush 7, 2) := dg_a66.2.2.2.2.1
theorem dX3_extend_36 : decode cX3_extend 36 = .ok (.if_icmp .ge 68, 3) := dg_a66.2.2.2.2.2.1
theorem dX3_extend_39 : decode cX3_extend 39 = .ok (.aload_n 1, 1) := dg_a66.2.2.2.2.2.2.1
theorem dX3_extend_40 : decode cX3_extend 40 = .ok (.iload 5, 2) := dg_a66.2.2.2.2.2.2.2.1
theorem dX3_extend_42 : decode cX3_extend 42 = .ok (.invokevirtual 46, 3) := dg_a66.2.2.2.2.2.2.2.2.1
theorem dX3_extend_45 : decode cX3_extend 45 = .ok (.ifCond .eq 53, 3) := dg_a66.2.2.2.2.2.2.2.2.2.1
theorem dX3_extend_48 : decode cX3_extend 48 = .ok (.aload_n 0, 1) := dg_a66.2.2.2.2.2.2.2.2.2.2.1
theorem dX3_extend_49 : decode cX3_extend 49 = .ok (.getfield 17, 3) := dg_a66.2.2.2.2.2.2.2.2.2.2.2.1
theorem dX3_extend_52 : decode cX3_extend 52 = .ok (.iload_n 2, 1) := dg_a66.2.2.2.2.2.2.2.2.2.2.2.2.1
theorem dX3_extend_53 : decode cX3_extend 53 = .ok (.iload 5, 2) := dg_a66.2.2.2.2.2.2.2.2.2.2.2.2.2.1
theorem dX3_extend_55 : decode cX3_extend 55 = .ok (.iastore, 1) := dg_a66.2.2.2.2.2.2.2.2.2.2.2.2.2.2.1
theorem dX3_extend_56 : decode cX3_extend 56 = .ok (.aload_n 0, 1) := dg_a66.2.2.2.2.2.2.2.2.2.2.2.2.2.2.2
theorem dg_a67 : (decode cX3_extend 57 = .ok (.getfield 11, 3)) ∧ (decode cX3_extend 60 = .ok (.iload_n 2, 1)) ∧ (decode cX3_extend 61 = .ok (.iconst 1, 1)) ∧ (decode cX3_extend 62 = .ok (.iadd, 1)) ∧ (decode cX3_extend 63 = .ok (.aaload, 1)) ∧ (decode cX3_extend 64 = .ok (.aload_n 0, 1)) ∧ (decode cX3_extend 65 = .ok (.getfield 11, 3)) ∧ (decode cX3_extend 68 = .ok (.iload_n 2, 1)) ∧ (decode cX3_extend 69 = .ok (.aaload, 1)) ∧ (decode cX3_extend 70 = .ok (.invokevirtual 35, 3)) ∧ (decode cX3_extend 73 = .ok (.aload_n 1, 1)) ∧ (decode cX3_extend 74 = .ok (.aload_n 0, 1)) ∧ (decode cX3_extend 75 = .ok (.getfield 11, 3)) ∧ (decode cX3_extend 78 = .ok (.iload_n 2, 1)) ∧ (decode cX3_extend 79 = .ok (.iconst 1, 1)) ∧ (decode cX3_extend 80 = .ok (.iadd, 1)) := by decide +kernel
theorem dX3_extend_57 : decode cX3_extend 57 = .ok (.getfield 11, 3) := dg_a67.1
theorem dX3_extend_60 : decode cX3_extend 60 = .ok (.iload_n 2, 1) := dg_a67.2.1
theorem dX3_extend_61 : decode cX3_extend 61 = .ok (.iconst 1, 1) := dg_a67.2.2.1
theorem dX3_extend_62 : decode cX3_extend 62 = .ok (.iadd, 1) := dg_a67.2.2.2.1
theorem dX3_extend_63 : decode cX3_extend 63 = .ok (.aaload, 1) := dg_a67.2.2.2.2.1
theorem dX3_extend_64 : decode cX3_extend 64 = .ok (.aload_n 0, 1) := dg_a67.2.2.2.2.2.1
theorem dX3_extend_65 : decode cX3_extend 65 = .ok (.getfield 11, 3) := dg_a67.2.2.2.2.2.2.1
theorem dX3_extend_68 : decode cX3_extend 68 = .ok (.iload_n 2, 1) := dg_a67.2.2.2.2.2.2.2.1
theorem dX3_extend_69 : decode cX3_extend 69 = .ok (.aaload, 1) := dg_a67.2.2.2.2.2.2.2.2.1
theorem dX3_extend_70 : decode cX3_extend 70 = .ok (.invokevirtual 35, 3) := dg_a67.2.2.2.2.2.2.2.2.2.1
theorem dX3_extend_73 : decode cX3_extend 73 = .ok (.aload_n 1, 1) := dg_a67.2.2.2.2.2.2.2.2.2.2.1
theorem dX3_extend_74 : decode cX3_extend 74 = .ok (.aload_n 0, 1) := dg_a67.2.2.2.2.2.2.2.2.2.2.2.1
theorem dX3_extend_75 : decode cX3_extend 75 = .ok (.getfield 11, 3) := dg_a67.2.2.2.2.2.2.2.2.2.2.2.2.1
theorem dX3_extend_78 : decode cX3_extend 78 = .ok (.iload_n 2, 1) := dg_a67.2.2.2.2.2.2.2.2.2.2.2.2.2.1
theorem dX3_extend_79 : decode cX3_extend 79 = .ok (.iconst 1, 1) := dg_a67.2.2.2.2.2.2.2.2.2.2.2.2.2.2.1
theorem dX3_extend_80 : decode cX3_extend 80 = .ok (.iadd, 1) := dg_a67.2.2.2.2.2.2.2.2.2.2.2.2.2.2.2
theorem dg_a68 : (decode cX3_extend 81 = .ok (.aaload, 1)) ∧ (decode cX3_extend 82 = .ok (.iload 5, 2)) ∧ (decode cX3_extend 84 = .ok (.invokevirtual 50, 3)) ∧ (decode cX3_extend 87 = .ok (.istore 4, 2)) ∧ (decode cX3_extend 89 = .ok (.aload_n 0, 1)) ∧ (decode cX3_extend 90 = .ok (.aload_n 1, 1)) ∧ (decode cX3_extend 91 = .ok (.iload_n 2, 1)) ∧ (decode cX3_extend 92 = .ok (.iconst 1, 1)) ∧ (decode cX3_extend 93 = .ok (.iadd, 1)) ∧ (decode cX3_extend 94 = .ok (.iload_n 3, 1)) ∧ (decode cX3_extend 95 = .ok (.invokevirtual 39, 3)) ∧ (decode cX3_extend 98 = .ok (.iinc 5 1, 3)) ∧ (decode cX3_extend 101 = .ok (.goto (-74), 3)) ∧ (decode cX3_extend 104 = .ok (.return_, 1)) := by decide +kernel
theorem dX3_extend_81 : decode cX3_extend 81 = .ok (.aaload, 1) := dg_a68.1
theorem dX3_extend_82 : decode cX3_extend 82 = .ok (.iload 5, 2) := dg_a68.2.1
theorem dX3_extend_84 : decode cX3_extend 84 = .ok (.invokevirtual 50, 3) := dg_a68.2.2.1
theorem dX3_extend_87 : decode cX3_extend 87 = .ok (.istore 4, 2) := dg_a68.2.2.2.1
theorem dX3_extend_89 : decode cX3_extend 89 = .ok (.aload_n 0, 1) := dg_a68.2.2.2.2.1
theorem dX3_extend_90 : decode cX3_extend 90 = .ok (.aload_n 1, 1) := dg_a68.2.2.2.2.2.1
theorem dX3_extend_91 : decode cX3_extend 91 = .ok (.iload_n 2, 1) := dg_a68.2.2.2.2.2.2.1
theorem dX3_extend_92 : decode cX3_extend 92 = .ok (.iconst 1, 1) := dg_a68.2.2.2.2.2.2.2.1
theorem dX3_extend_93 : decode cX3_extend 93 = .ok (.iadd, 1) := dg_a68.2.2.2.2.2.2.2.2.1
theorem dX3_extend_94 : decode cX3_extend 94 = .ok (.iload_n 3, 1) := dg_a68.2.2.2.2.2.2.2.2.2.1
theorem dX3_extend_95 : decode cX3_extend 95 = .ok (.invokevirtual 39, 3) := dg_a68.2.2.2.2.2.2.2.2.2.2.1
theorem dX3_extend_98 : decode cX3_extend 98 = .ok (.iinc 5 1, 3) := dg_a68.2.2.2.2.2.2.2.2.2.2.2.1
theorem dX3_extend_101 : decode cX3_extend 101 = .ok (.goto (-74), 3) := dg_a68.2.2.2.2.2.2.2.2.2.2.2.2.1
theorem dX3_extend_104 : decode cX3_extend 104 = .ok (.return_, 1) := dg_a68.2.2.2.2.2.2.2.2.2.2.2.2.2
theorem dg_a69 : (decode cX3_judge 0 = .ok (.aload_n 0, 1)) ∧ (decode cX3_judge 1 = .ok (.getfield 25, 3)) ∧ (decode cX3_judge 4 = .ok (.ifCond .eq 18, 3)) ∧ (decode cX3_judge 7 = .ok (.aload_n 1, 1)) ∧ (decode cX3_judge 8 = .ok (.aload_n 0, 1)) ∧ (decode cX3_judge 9 = .ok (.getfield 54, 3)) ∧ (decode cX3_judge 12 = .ok (.aload_n 0, 1)) ∧ (decode cX3_judge 13 = .ok (.getfield 58, 3)) ∧ (decode cX3_judge 16 = .ok (.invokevirtual 61, 3)) ∧ (decode cX3_judge 19 = .ok (.ifCond .eq 38, 3)) ∧ (decode cX3_judge 22 = .ok (.aload_n 0, 1)) ∧ (decode cX3_judge 23 = .ok (.iconst 1, 1)) ∧ (decode cX3_judge 24 = .ok (.putfield 25, 3)) ∧ (decode cX3_judge 27 = .ok (.aload_n 0, 1)) ∧ (decode cX3_judge 28 = .ok (.aload_n 1, 1)) ∧ (decode cX3_judge 29 = .ok (.getfield 65, 3)) := by decide +kernel
theorem dX3_judge_0 : decode cX3_judge 0 = .ok (.aload_n 0, 1) := dg_a69.1
theorem dX3_judge_1 : decode cX3_judge 1 = .ok (.getfield 25, 3) := dg_a69.2.1
theorem dX3_judge_4 : decode cX3_judge 4 = .ok (.ifCond .eq 18, 3) := dg_a69.2.2.1
theorem dX3_judge_7 : decode cX3_judge 7 = .ok (.aload_n 1, 1) := dg_a69.2.2.2.1
theorem dX3_judge_8 : decode cX3_judge 8 = .ok (.aload_n 0, 1) := dg_a69.2.2.2.2.1
theorem dX3_judge_9 : decode cX3_judge 9 = .ok (.getfield 54, 3) := dg_a69.2.2.2.2.2.1
theorem dX3_judge_12 : decode cX3_judge 12 = .ok (.aload_n 0, 1) := dg_a69.2.2.2.2.2.2.1
theorem dX3_judge_13 : decode cX3_judge 13 = .ok (.getfield 58, 3) := dg_a69.2.2.2.2.2.2.2.1
theorem dX3_judge_16 : decode cX3_judge 16 = .ok (.invokevirtual 61, 3) := dg_a69.2.2.2.2.2.2.2.2.1
theorem dX3_judge_19 : decode cX3_judge 19 = .ok (.ifCond .eq 38, 3) := dg_a69.2.2.2.2.2.2.2.2.2.1
theorem dX3_judge_22 : decode cX3_judge 22 = .ok (.aload_n 0, 1) := dg_a69.2.2.2.2.2.2.2.2.2.2.1
theorem dX3_judge_23 : decode cX3_judge 23 = .ok (.iconst 1, 1) := dg_a69.2.2.2.2.2.2.2.2.2.2.2.1
theorem dX3_judge_24 : decode cX3_judge 24 = .ok (.putfield 25, 3) := dg_a69.2.2.2.2.2.2.2.2.2.2.2.2.1
theorem dX3_judge_27 : decode cX3_judge 27 = .ok (.aload_n 0, 1) := dg_a69.2.2.2.2.2.2.2.2.2.2.2.2.2.1
theorem dX3_judge_28 : decode cX3_judge 28 = .ok (.aload_n 1, 1) := dg_a69.2.2.2.2.2.2.2.2.2.2.2.2.2.2.1
theorem dX3_judge_29 : decode cX3_judge 29 = .ok (.getfield 65, 3) := dg_a69.2.2.2.2.2.2.2.2.2.2.2.2.2.2.2
theorem dg_a70 : (decode cX3_judge 32 = .ok (.putfield 54, 3)) ∧ (decode cX3_judge 35 = .ok (.aload_n 0, 1)) ∧ (decode cX3_judge 36 = .ok (.aload_n 1, 1)) ∧ (decode cX3_judge 37 = .ok (.getfield 68, 3)) ∧ (decode cX3_judge 40 = .ok (.putfield 58, 3)) ∧ (decode cX3_judge 43 = .ok (.aload_n 0, 1)) ∧ (decode cX3_judge 44 = .ok (.getfield 17, 3)) ∧ (decode cX3_judge 47 = .ok (.iconst 0, 1)) ∧ (decode cX3_judge 48 = .ok (.aload_n 0, 1)) ∧ (decode cX3_judge 49 = .ok (.getfield 21, 3)) ∧ (decode cX3_judge 52 = .ok (.iconst 0, 1)) ∧ (decode cX3_judge 53 = .ok (.iconst 4, 1)) ∧ (decode cX3_judge 54 = .ok (.invokestatic 71, 3)) ∧ (decode cX3_judge 57 = .ok (.return_, 1)) := by decide +kernel
theorem dX3_judge_32 : decode cX3_judge 32 = .ok (.putfield 54, 3) := dg_a70.1
theorem dX3_judge_35 : decode cX3_judge 35 = .ok (.aload_n 0, 1) := dg_a70.2.1
theorem dX3_judge_36 : decode cX3_judge 36 = .ok (.aload_n 1, 1) := dg_a70.2.2.1
theorem dX3_judge_37 : decode cX3_judge 37 = .ok (.getfield 68, 3) := dg_a70.2.2.2.1
theorem dX3_judge_40 : decode cX3_judge 40 = .ok (.putfield 58, 3) := dg_a70.2.2.2.2.1
theorem dX3_judge_43 : decode cX3_judge 43 = .ok (.aload_n 0, 1) := dg_a70.2.2.2.2.2.1
theorem dX3_judge_44 : decode cX3_judge 44 = .ok (.getfield 17, 3) := dg_a70.2.2.2.2.2.2.1
theorem dX3_judge_47 : decode cX3_judge 47 = .ok (.iconst 0, 1) := dg_a70.2.2.2.2.2.2.2.1
theorem dX3_judge_48 : decode cX3_judge 48 = .ok (.aload_n 0, 1) := dg_a70.2.2.2.2.2.2.2.2.1
theorem dX3_judge_49 : decode cX3_judge 49 = .ok (.getfield 21, 3) := dg_a70.2.2.2.2.2.2.2.2.2.1
theorem dX3_judge_52 : decode cX3_judge 52 = .ok (.iconst 0, 1) := dg_a70.2.2.2.2.2.2.2.2.2.2.1
theorem dX3_judge_53 : decode cX3_judge 53 = .ok (.iconst 4, 1) := dg_a70.2.2.2.2.2.2.2.2.2.2.2.1
theorem dX3_judge_54 : decode cX3_judge 54 = .ok (.invokestatic 71, 3) := dg_a70.2.2.2.2.2.2.2.2.2.2.2.2.1
theorem dX3_judge_57 : decode cX3_judge 57 = .ok (.return_, 1) := dg_a70.2.2.2.2.2.2.2.2.2.2.2.2.2
theorem dg_a71 : (decode cX4_init 0 = .ok (.aload_n 0, 1)) ∧ (decode cX4_init 1 = .ok (.invokespecial 3, 3)) ∧ (decode cX4_init 4 = .ok (.aload_n 0, 1)) ∧ (decode cX4_init 5 = .ok (.iconst (-1), 1)) ∧ (decode cX4_init 6 = .ok (.putfield 11, 3)) ∧ (decode cX4_init 9 = .ok (.aload_n 0, 1)) ∧ (decode cX4_init 10 = .ok (.bipush 40, 2)) ∧ (decode cX4_init 12 = .ok (.newarray .int, 2)) ∧ (decode cX4_init 14 = .ok (.putfield 15, 3)) ∧ (decode cX4_init 17 = .ok (.return_, 1)) := by decide +kernel
theorem dX4_init_0 : decode cX4_init 0 = .ok (.aload_n 0, 1) := dg_a71.1
theorem dX4_init_1 : decode cX4_init 1 = .ok (.invokespecial 3, 3) := dg_a71.2.1
theorem dX4_init_4 : decode cX4_init 4 = .ok (.aload_n 0, 1) := dg_a71.2.2.1
theorem dX4_init_5 : decode cX4_init 5 = .ok (.iconst (-1), 1) := dg_a71.2.2.2.1
theorem dX4_init_6 : decode cX4_init 6 = .ok (.putfield 11, 3) := dg_a71.2.2.2.2.1
theorem dX4_init_9 : decode cX4_init 9 = .ok (.aload_n 0, 1) := dg_a71.2.2.2.2.2.1
theorem dX4_init_10 : decode cX4_init 10 = .ok (.bipush 40, 2) := dg_a71.2.2.2.2.2.2.1
theorem dX4_init_12 : decode cX4_init 12 = .ok (.newarray .int, 2) := dg_a71.2.2.2.2.2.2.2.1
theorem dX4_init_14 : decode cX4_init 14 = .ok (.putfield 15, 3) := dg_a71.2.2.2.2.2.2.2.2.1
theorem dX4_init_17 : decode cX4_init 17 = .ok (.return_, 1) := dg_a71.2.2.2.2.2.2.2.2.2
theorem dg_a72 : (decode cX4_renew 0 = .ok (.aload_n 0, 1)) ∧ (decode cX4_renew 1 = .ok (.iload_n 1, 1)) ∧ (decode cX4_renew 2 = .ok (.putfield 11, 3)) ∧ (decode cX4_renew 5 = .ok (.aload_n 0, 1)) ∧ (decode cX4_renew 6 = .ok (.iload_n 2, 1)) ∧ (decode cX4_renew 7 = .ok (.putfield 19, 3)) ∧ (decode cX4_renew 10 = .ok (.iconst 0, 1)) ∧ (decode cX4_renew 11 = .ok (.istore_n 3, 1)) ∧ (decode cX4_renew 12 = .ok (.iload_n 3, 1)) ∧ (decode cX4_renew 13 = .ok (.bipush 40, 2)) ∧ (decode cX4_renew 15 = .ok (.if_icmp .ge 16, 3)) ∧ (decode cX4_renew 18 = .ok (.aload_n 0, 1)) ∧ (decode cX4_renew 19 = .ok (.getfield 15, 3)) ∧ (decode cX4_renew 22 = .ok (.iload_n 3, 1)) ∧ (decode cX4_renew 23 = .ok (.iconst 0, 1)) ∧ (decode cX4_renew 24 = .ok (.iastore, 1)) := by decide +kernel
theorem dX4_renew_0 : decode cX4_renew 0 = .ok (.aload_n 0, 1) := dg_a72.1
theorem dX4_renew_1 : decode cX4_renew 1 = .ok (.iload_n 1, 1) := dg_a72.2.1
theorem dX4_renew_2 : decode cX4_renew 2 = .ok (.putfield 11, 3) := dg_a72.2.2.1
theorem dX4_renew_5 : decode cX4_renew 5 = .ok (.aload_n 0, 1) := dg_a72.2.2.2.1
theorem dX4_renew_6 : decode cX4_renew 6 = .ok (.iload_n 2, 1) := dg_a72.2.2.2.2.1
theorem dX4_renew_7 : decode cX4_renew 7 = .ok (.putfield 19, 3) := dg_a72.2.2.2.2.2.1
theorem dX4_renew_10 : decode cX4_renew 10 = .ok (.iconst 0, 1) := dg_a72.2.2.2.2.2.2.1
theorem dX4_renew_11 : decode cX4_renew 11 = .ok (.istore_n 3, 1) := dg_a72.2.2.2.2.2.2.2.1
theorem dX4_renew_12 : decode cX4_renew 12 = .ok (.iload_n 3, 1) := dg_a72.2.2.2.2.2.2.2.2.1
theorem dX4_renew_13 : decode cX4_renew 13 = .ok (.bipush 40, 2) := dg_a72.2.2.2.2.2.2.2.2.2.1
theorem dX4_renew_15 : decode cX4_renew 15 = .ok (.if_icmp .ge 16, 3) := dg_a72.2.2.2.2.2.2.2.2.2.2.1
theorem dX4_renew_18 : decode cX4_renew 18 = .ok (.aload_n 0, 1) := dg_a72.2.2.2.2.2.2.2.2.2.2.2.1
theorem dX4_renew_19 : decode cX4_renew 19 = .ok (.getfield 15, 3) := dg_a72.2.2.2.2.2.2.2.2.2.2.2.2.1
theorem dX4_renew_22 : decode cX4_renew 22 = .ok (.iload_n 3, 1) := dg_a72.2.2.2.2.2.2.2.2.2.2.2.2.2.1
theorem dX4_renew_23 : decode cX4_renew 23 = .ok (.iconst 0, 1) := dg_a72.2.2.2.2.2.2.2.2.2.2.2.2.2.2.1
theorem dX4_renew_24 : decode cX4_renew 24 = .ok (.iastore, 1) := dg_a72.2.2.2.2.2.2.2.2.2.2.2.2.2.2.2
theorem dg_a73 : (decode cX4_renew 25 = .ok (.iinc 3 1, 3)) ∧ (decode cX4_renew 28 = .ok (.goto (-16), 3)) ∧ (decode cX4_renew 31 = .ok (.return_, 1)) := by decide +kernel
theorem dX4_renew_25 : decode cX4_renew 25 = .ok (.iinc 3 1, 3) := dg_a73.1
theorem dX4_renew_28 : decode cX4_renew 28 = .ok (.goto (-16), 3) := dg_a73.2.1
theorem dX4_renew_31 : decode cX4_renew 31 = .ok (.return_, 1) := dg_a73.2.2
theorem dg_a74 : (decode cX4_tearAt 0 = .ok (.aload_n 0, 1)) ∧ (decode cX4_tearAt 1 = .ok (.getfield 11, 3)) ∧ (decode cX4_tearAt 4 = .ok (.iconst (-1), 1)) ∧ (decode cX4_tearAt 5 = .ok (.if_icmp .ne 5, 3)) ∧ (decode cX4_tearAt 8 = .ok (.iconst 1, 1)) ∧ (decode cX4_tearAt 9 = .ok (.ireturn, 1)) ∧ (decode cX4_tearAt 10 = .ok (.aload_n 0, 1)) ∧ (decode cX4_tearAt 11 = .ok (.getfield 11, 3)) ∧ (decode cX4_tearAt 14 = .ok (.iload_n 1, 1)) ∧ (decode cX4_tearAt 15 = .ok (.if_icmp .eq 5, 3)) ∧ (decode cX4_tearAt 18 = .ok (.iconst 3, 1)) ∧ (decode cX4_tearAt 19 = .ok (.ireturn, 1)) ∧ (decode cX4_tearAt 20 = .ok (.iload_n 2, 1)) ∧ (decode cX4_tearAt 21 = .ok (.ifCond .lt 17, 3)) ∧ (decode cX4_tearAt 24 = .ok (.iload_n 2, 1)) ∧ (decode cX4_tearAt 25 = .ok (.aload_n 0, 1)) := by decide +kernel
theorem dX4_tearAt_0 : decode cX4_tearAt 0 = .ok (.aload_n 0, 1) := dg_a74.1
theorem dX4_tearAt_1 : decode cX4_tearAt 1 = .ok (.getfield 11, 3) := dg_a74.2.1
theorem dX4_tearAt_4 : decode cX4_tearAt 4 = .ok (.iconst (-1), 1) := dg_a74.2.2.1
theorem dX4_tearAt_5 : decode cX4_tearAt 5 = .ok (.if_icmp .ne 5, 3) := dg_a74.2.2.2.1
theorem dX4_tearAt_8 : decode cX4_tearAt 8 = .ok (.iconst 1, 1) := dg_a74.2.2.2.2.1
theorem dX4_tearAt_9 : decode cX4_tearAt 9 = .ok (.ireturn, 1) := dg_a74.2.2.2.2.2.1
theorem dX4_tearAt_10 : decode cX4_tearAt 10 = .ok (.aload_n 0, 1) := dg_a74.2.2.2.2.2.2.1
theorem dX4_tearAt_11 : decode cX4_tearAt 11 = .ok (.getfield 11, 3) := dg_a74.2.2.2.2.2.2.2.1
theorem dX4_tearAt_14 : decode cX4_tearAt 14 = .ok (.iload_n 1, 1) := dg_a74.2.2.2.2.2.2.2.2.1
theorem dX4_tearAt_15 : decode cX4_tearAt 15 = .ok (.if_icmp .eq 5, 3) := dg_a74.2.2.2.2.2.2.2.2.2.1
theorem dX4_tearAt_18 : decode cX4_tearAt 18 = .ok (.iconst 3, 1) := dg_a74.2.2.2.2.2.2.2.2.2.2.1
theorem dX4_tearAt_19 : decode cX4_tearAt 19 = .ok (.ireturn, 1) := dg_a74.2.2.2.2.2.2.2.2.2.2.2.1
theorem dX4_tearAt_20 : decode cX4_tearAt 20 = .ok (.iload_n 2, 1) := dg_a74.2.2.2.2.2.2.2.2.2.2.2.2.1
theorem dX4_tearAt_21 : decode cX4_tearAt 21 = .ok (.ifCond .lt 17, 3) := dg_a74.2.2.2.2.2.2.2.2.2.2.2.2.2.1
theorem dX4_tearAt_24 : decode cX4_tearAt 24 = .ok (.iload_n 2, 1) := dg_a74.2.2.2.2.2.2.2.2.2.2.2.2.2.2.1
theorem dX4_tearAt_25 : decode cX4_tearAt 25 = .ok (.aload_n 0, 1) := dg_a74.2.2.2.2.2.2.2.2.2.2.2.2.2.2.2
theorem dg_a75 : (decode cX4_tearAt 26 = .ok (.getfield 19, 3)) ∧ (decode cX4_tearAt 29 = .ok (.if_icmp .ge 9, 3)) ∧ (decode cX4_tearAt 32 = .ok (.iload_n 2, 1)) ∧ (decode cX4_tearAt 33 = .ok (.bipush 40, 2)) ∧ (decode cX4_tearAt 35 = .ok (.if_icmp .lt 7, 3)) ∧ (decode cX4_tearAt 38 = .ok (.iconst 2, 1)) ∧ (decode cX4_tearAt 39 = .ok (.goto 4, 3)) ∧ (decode cX4_tearAt 42 = .ok (.iconst 0, 1)) ∧ (decode cX4_tearAt 43 = .ok (.ireturn, 1)) := by decide +kernel
theorem dX4_tearAt_26 : decode cX4_tearAt 26 = .ok (.getfield 19, 3) := dg_a75.1
theorem dX4_tearAt_29 : decode cX4_tearAt 29 = .ok (.if_icmp .ge 9, 3) := dg_a75.2.1
theorem dX4_tearAt_32 : decode cX4_tearAt 32 = .ok (.iload_n 2, 1) := dg_a75.2.2.1
theorem dX4_tearAt_33 : decode cX4_tearAt 33 = .ok (.bipush 40, 2) := dg_a75.2.2.2.1
theorem dX4_tearAt_35 : decode cX4_tearAt 35 = .ok (.if_icmp .lt 7, 3) := dg_a75.2.2.2.2.1
theorem dX4_tearAt_38 : decode cX4_tearAt 38 = .ok (.iconst 2, 1) := dg_a75.2.2.2.2.2.1
theorem dX4_tearAt_39 : decode cX4_tearAt 39 = .ok (.goto 4, 3) := dg_a75.2.2.2.2.2.2.1
theorem dX4_tearAt_42 : decode cX4_tearAt 42 = .ok (.iconst 0, 1) := dg_a75.2.2.2.2.2.2.2.1
theorem dX4_tearAt_43 : decode cX4_tearAt 43 = .ok (.ireturn, 1) := dg_a75.2.2.2.2.2.2.2.2
theorem dg_a76 : (decode cX4_lowest 0 = .ok (.aload_n 0, 1)) ∧ (decode cX4_lowest 1 = .ok (.getfield 11, 3)) ∧ (decode cX4_lowest 4 = .ok (.lookupswitch 34 #[(0, 28), (1, 31)], 28)) ∧ (decode cX4_lowest 32 = .ok (.iload_n 1, 1)) ∧ (decode cX4_lowest 33 = .ok (.i2b, 1)) ∧ (decode cX4_lowest 34 = .ok (.ireturn, 1)) ∧ (decode cX4_lowest 35 = .ok (.iload_n 1, 1)) ∧ (decode cX4_lowest 36 = .ok (.i2s, 1)) ∧ (decode cX4_lowest 37 = .ok (.ireturn, 1)) ∧ (decode cX4_lowest 38 = .ok (.iload_n 1, 1)) ∧ (decode cX4_lowest 39 = .ok (.ireturn, 1)) := by decide +kernel
theorem dX4_lowest_0 : decode cX4_lowest 0 = .ok (.aload_n 0, 1) := dg_a76.1
theorem dX4_lowest_1 : decode cX4_lowest 1 = .ok (.getfield 11, 3) := dg_a76.2.1
theorem dX4_lowest_4 : decode cX4_lowest 4 = .ok (.lookupswitch 34 #[(0, 28), (1, 31)], 28) := dg_a76.2.2.1
theorem dX4_lowest_32 : decode cX4_lowest 32 = .ok (.iload_n 1, 1) := dg_a76.2.2.2.1
theorem dX4_lowest_33 : decode cX4_lowest 33 = .ok (.i2b, 1) := dg_a76.2.2.2.2.1
theorem dX4_lowest_34 : decode cX4_lowest 34 = .ok (.ireturn, 1) := dg_a76.2.2.2.2.2.1
theorem dX4_lowest_35 : decode cX4_lowest 35 = .ok (.iload_n 1, 1) := dg_a76.2.2.2.2.2.2.1
theorem dX4_lowest_36 : decode cX4_lowest 36 = .ok (.i2s, 1) := dg_a76.2.2.2.2.2.2.2.1
theorem dX4_lowest_37 : decode cX4_lowest 37 = .ok (.ireturn, 1) := dg_a76.2.2.2.2.2.2.2.2.1
theorem dX4_lowest_38 : decode cX4_lowest 38 = .ok (.iload_n 1, 1) := dg_a76.2.2.2.2.2.2.2.2.2.1
theorem dX4_lowest_39 : decode cX4_lowest 39 = .ok (.ireturn, 1) := dg_a76.2.2.2.2.2.2.2.2.2.2
theorem dg_a77 : (decode cX5_init 0 = .ok (.aload_n 0, 1)) ∧ (decode cX5_init 1 = .ok (.invokespecial 3, 3)) ∧ (decode cX5_init 4 = .ok (.aload_n 0, 1)) ∧ (decode cX5_init 5 = .ok (.sipush 160, 3)) ∧ (decode cX5_init 8 = .ok (.newarray .byte, 2)) ∧ (decode cX5_init 10 = .ok (.putfield 9, 3)) ∧ (decode cX5_init 13 = .ok (.aload_n 0, 1)) ∧ (decode cX5_init 14 = .ok (.new 15, 3)) ∧ (decode cX5_init 17 = .ok (.dup, 1)) ∧ (decode cX5_init 18 = .ok (.invokespecial 17, 3)) ∧ (decode cX5_init 21 = .ok (.putfield 18, 3)) ∧ (decode cX5_init 24 = .ok (.return_, 1)) := by decide +kernel
theorem dX5_init_0 : decode cX5_init 0 = .ok (.aload_n 0, 1) := dg_a77.1
theorem dX5_init_1 : decode cX5_init 1 = .ok (.invokespecial 3, 3) := dg_a77.2.1
theorem dX5_init_4 : decode cX5_init 4 = .ok (.aload_n 0, 1) := dg_a77.2.2.1
theorem dX5_init_5 : decode cX5_init 5 = .ok (.sipush 160, 3) := dg_a77.2.2.2.1
theorem dX5_init_8 : decode cX5_init 8 = .ok (.newarray .byte, 2) := dg_a77.2.2.2.2.1
theorem dX5_init_10 : decode cX5_init 10 = .ok (.putfield 9, 3) := dg_a77.2.2.2.2.2.1
theorem dX5_init_13 : decode cX5_init 13 = .ok (.aload_n 0, 1) := dg_a77.2.2.2.2.2.2.1
theorem dX5_init_14 : decode cX5_init 14 = .ok (.new 15, 3) := dg_a77.2.2.2.2.2.2.2.1
theorem dX5_init_17 : decode cX5_init 17 = .ok (.dup, 1) := dg_a77.2.2.2.2.2.2.2.2.1
theorem dX5_init_18 : decode cX5_init 18 = .ok (.invokespecial 17, 3) := dg_a77.2.2.2.2.2.2.2.2.2.1
theorem dX5_init_21 : decode cX5_init 21 = .ok (.putfield 18, 3) := dg_a77.2.2.2.2.2.2.2.2.2.2.1
theorem dX5_init_24 : decode cX5_init 24 = .ok (.return_, 1) := dg_a77.2.2.2.2.2.2.2.2.2.2.2
theorem dg_a78 : (decode cX5_addByte 0 = .ok (.aload_n 0, 1)) ∧ (decode cX5_addByte 1 = .ok (.getfield 22, 3)) ∧ (decode cX5_addByte 4 = .ok (.sipush 160, 3)) ∧ (decode cX5_addByte 7 = .ok (.if_icmp .lt 5, 3)) ∧ (decode cX5_addByte 10 = .ok (.iconst 0, 1)) ∧ (decode cX5_addByte 11 = .ok (.ireturn, 1)) ∧ (decode cX5_addByte 12 = .ok (.aload_n 0, 1)) ∧ (decode cX5_addByte 13 = .ok (.getfield 9, 3)) ∧ (decode cX5_addByte 16 = .ok (.aload_n 0, 1)) ∧ (decode cX5_addByte 17 = .ok (.getfield 22, 3)) ∧ (decode cX5_addByte 20 = .ok (.iload_n 1, 1)) ∧ (decode cX5_addByte 21 = .ok (.i2b, 1)) ∧ (decode cX5_addByte 22 = .ok (.bastore, 1)) ∧ (decode cX5_addByte 23 = .ok (.aload_n 0, 1)) ∧ (decode cX5_addByte 24 = .ok (.dup, 1)) ∧ (decode cX5_addByte 25 = .ok (.getfield 22, 3)) := by decide +kernel
theorem dX5_addByte_0 : decode cX5_addByte 0 = .ok (.aload_n 0, 1) := dg_a78.1
theorem dX5_addByte_1 : decode cX5_addByte 1 = .ok (.getfield 22, 3) := dg_a78.2.1
theorem dX5_addByte_4 : decode cX5_addByte 4 = .ok (.sipush 160, 3) := dg_a78.2.2.1
theorem dX5_addByte_7 : decode cX5_addByte 7 = .ok (.if_icmp .lt 5, 3) := dg_a78.2.2.2.1
theorem dX5_addByte_10 : decode cX5_addByte 10 = .ok (.iconst 0, 1) := dg_a78.2.2.2.2.1
theorem dX5_addByte_11 : decode cX5_addByte 11 = .ok (.ireturn, 1) := dg_a78.2.2.2.2.2.1
theorem dX5_addByte_12 : decode cX5_addByte 12 = .ok (.aload_n 0, 1) := dg_a78.2.2.2.2.2.2.1
theorem dX5_addByte_13 : decode cX5_addByte 13 = .ok (.getfield 9, 3) := dg_a78.2.2.2.2.2.2.2.1
theorem dX5_addByte_16 : decode cX5_addByte 16 = .ok (.aload_n 0, 1) := dg_a78.2.2.2.2.2.2.2.2.1
theorem dX5_addByte_17 : decode cX5_addByte 17 = .ok (.getfield 22, 3) := dg_a78.2.2.2.2.2.2.2.2.2.1
theorem dX5_addByte_20 : decode cX5_addByte 20 = .ok (.iload_n 1, 1) := dg_a78.2.2.2.2.2.2.2.2.2.2.1
theorem dX5_addByte_21 : decode cX5_addByte 21 = .ok (.i2b, 1) := dg_a78.2.2.2.2.2.2.2.2.2.2.2.1
theorem dX5_addByte_22 : decode cX5_addByte 22 = .ok (.bastore, 1) := dg_a78.2.2.2.2.2.2.2.2.2.2.2.2.1
theorem dX5_addByte_23 : decode cX5_addByte 23 = .ok (.aload_n 0, 1) := dg_a78.2.2.2.2.2.2.2.2.2.2.2.2.2.1
theorem dX5_addByte_24 : decode cX5_addByte 24 = .ok (.dup, 1) := dg_a78.2.2.2.2.2.2.2.2.2.2.2.2.2.2.1
theorem dX5_addByte_25 : decode cX5_addByte 25 = .ok (.getfield 22, 3) := dg_a78.2.2.2.2.2.2.2.2.2.2.2.2.2.2.2
theorem dg_a79 : (decode cX5_addByte 28 = .ok (.iconst 1, 1)) ∧ (decode cX5_addByte 29 = .ok (.iadd, 1)) ∧ (decode cX5_addByte 30 = .ok (.putfield 22, 3)) ∧ (decode cX5_addByte 33 = .ok (.iconst 1, 1)) ∧ (decode cX5_addByte 34 = .ok (.ireturn, 1)) := by decide +kernel
theorem dX5_addByte_28 : decode cX5_addByte 28 = .ok (.iconst 1, 1) := dg_a79.1
theorem dX5_addByte_29 : decode cX5_addByte 29 = .ok (.iadd, 1) := dg_a79.2.1
theorem dX5_addByte_30 : decode cX5_addByte 30 = .ok (.putfield 22, 3) := dg_a79.2.2.1
theorem dX5_addByte_33 : decode cX5_addByte 33 = .ok (.iconst 1, 1) := dg_a79.2.2.2.1
theorem dX5_addByte_34 : decode cX5_addByte 34 = .ok (.ireturn, 1) := dg_a79.2.2.2.2
theorem dg_a80 : (decode cX5_readLines 0 = .ok (.aload_n 0, 1)) ∧ (decode cX5_readLines 1 = .ok (.getfield 18, 3)) ∧ (decode cX5_readLines 4 = .ok (.invokevirtual 26, 3)) ∧ (decode cX5_readLines 7 = .ok (.aload_n 0, 1)) ∧ (decode cX5_readLines 8 = .ok (.iconst 0, 1)) ∧ (decode cX5_readLines 9 = .ok (.putfield 29, 3)) ∧ (decode cX5_readLines 12 = .ok (.aload_n 0, 1)) ∧ (decode cX5_readLines 13 = .ok (.iconst 0, 1)) ∧ (decode cX5_readLines 14 = .ok (.putfield 32, 3)) ∧ (decode cX5_readLines 17 = .ok (.aload_n 0, 1)) ∧ (decode cX5_readLines 18 = .ok (.iconst 0, 1)) ∧ (decode cX5_readLines 19 = .ok (.putfield 35, 3)) ∧ (decode cX5_readLines 22 = .ok (.aload_n 0, 1)) ∧ (decode cX5_readLines 23 = .ok (.iconst 0, 1)) ∧ (decode cX5_readLines 24 = .ok (.putfield 38, 3)) ∧ (decode cX5_readLines 27 = .ok (.iconst 0, 1)) := by decide +kernel
theorem dX5_readLines_0 : decode cX5_readLines 0 = .ok (.aload_n 0, 1) := dg_a80.1
theorem dX5_readLines_1 : decode cX5_readLines 1 = .ok (.getfield 18, 3) := dg_a80.2.1
theorem dX5_readLines_4 : decode cX5_readLines 4 = .ok (.invokevirtual 26, 3) := dg_a80.2.2.1
theorem dX5_readLines_7 : decode cX5_readLines 7 = .ok (.aload_n 0, 1) := dg_a80.2.2.2.1
theorem dX5_readLines_8 : decode cX5_readLines 8 = .ok (.iconst 0, 1) := dg_a80.2.2.2.2.1
theorem dX5_readLines_9 : decode cX5_readLines 9 = .ok (.putfield 29, 3) := dg_a80.2.2.2.2.2.1
theorem dX5_readLines_12 : decode cX5_readLines 12 = .ok (.aload_n 0, 1) := dg_a80.2.2.2.2.2.2.1
theorem dX5_readLines_13 : decode cX5_readLines 13 = .ok (.iconst 0, 1) := dg_a80.2.2.2.2.2.2.2.1
theorem dX5_readLines_14 : decode cX5_readLines 14 = .ok (.putfield 32, 3) := dg_a80.2.2.2.2.2.2.2.2.1
theorem dX5_readLines_17 : decode cX5_readLines 17 = .ok (.aload_n 0, 1) := dg_a80.2.2.2.2.2.2.2.2.2.1
theorem dX5_readLines_18 : decode cX5_readLines 18 = .ok (.iconst 0, 1) := dg_a80.2.2.2.2.2.2.2.2.2.2.1
theorem dX5_readLines_19 : decode cX5_readLines 19 = .ok (.putfield 35, 3) := dg_a80.2.2.2.2.2.2.2.2.2.2.2.1
theorem dX5_readLines_22 : decode cX5_readLines 22 = .ok (.aload_n 0, 1) := dg_a80.2.2.2.2.2.2.2.2.2.2.2.2.1
theorem dX5_readLines_23 : decode cX5_readLines 23 = .ok (.iconst 0, 1) := dg_a80.2.2.2.2.2.2.2.2.2.2.2.2.2.1
theorem dX5_readLines_24 : decode cX5_readLines 24 = .ok (.putfield 38, 3) := dg_a80.2.2.2.2.2.2.2.2.2.2.2.2.2.2.1
theorem dX5_readLines_27 : decode cX5_readLines 27 = .ok (.iconst 0, 1) := dg_a80.2.2.2.2.2.2.2.2.2.2.2.2.2.2.2
theorem dg_a81 : (decode cX5_readLines 28 = .ok (.istore_n 1, 1)) ∧ (decode cX5_readLines 29 = .ok (.aload_n 0, 1)) ∧ (decode cX5_readLines 30 = .ok (.invokevirtual 41, 3)) ∧ (decode cX5_readLines 33 = .ok (.aload_n 0, 1)) ∧ (decode cX5_readLines 34 = .ok (.getfield 29, 3)) ∧ (decode cX5_readLines 37 = .ok (.ifCond .ne 31, 3)) ∧ (decode cX5_readLines 40 = .ok (.aload_n 0, 1)) ∧ (decode cX5_readLines 41 = .ok (.getfield 44, 3)) ∧ (decode cX5_readLines 44 = .ok (.ifCond .eq 24, 3)) ∧ (decode cX5_readLines 47 = .ok (.iload_n 1, 1)) ∧ (decode cX5_readLines 48 = .ok (.sipush 160, 3)) ∧ (decode cX5_readLines 51 = .ok (.if_icmp .gt 17, 3)) ∧ (decode cX5_readLines 54 = .ok (.aload_n 0, 1)) ∧ (decode cX5_readLines 55 = .ok (.invokevirtual 47, 3)) ∧ (decode cX5_readLines 58 = .ok (.iinc 1 1, 3)) ∧ (decode cX5_readLines 61 = .ok (.aload_n 0, 1)) := by decide +kernel
theorem dX5_readLines_28 : decode cX5_readLines 28 = .ok (.istore_n 1, 1) := dg_a81.1
theorem dX5_readLines_29 : decode cX5_readLines 29 = .ok (.aload_n 0, 1) := dg_a81.2.1
theorem dX5_readLines_30 : decode cX5_readLines 30 = .ok (.invokevirtual 41, 3) := dg_a81.2.2.1
theorem dX5_readLines_33 : decode cX5_readLines 33 = .ok (.aload_n 0, 1) := dg_a81.2.2.2.1
theorem dX5_readLines_34 : decode cX5_readLines 34 = .ok (.getfield 29, 3) := dg_a81.2.2.2.2.1
theorem dX5_readLines_37 : decode cX5_readLines 37 = .ok (.ifCond .ne 31, 3) := dg_a81.2.2.2.2.2.1
theorem dX5_readLines_40 : decode cX5_readLines 40 = .ok (.aload_n 0, 1) := dg_a81.2.2.2.2.2.2.1
theorem dX5_readLines_41 : decode cX5_readLines 41 = .ok (.getfield 44, 3) := dg_a81.2.2.2.2.2.2.2.1
theorem dX5_readLines_44 : decode cX5_readLines 44 = .ok (.ifCond .eq 24, 3) := dg_a81.2.2.2.2.2.2.2.2.1
theorem dX5_readLines_47 : decode cX5_readLines 47 = .ok (.iload_n 1, 1) := dg_a81.2.2.2.2.2.2.2.2.2.1
theorem dX5_readLines_48 : decode cX5_readLines 48 = .ok (.sipush 160, 3) := dg_a81.2.2.2.2.2.2.2.2.2.2.1
theorem dX5_readLines_51 : decode cX5_readLines 51 = .ok (.if_icmp .gt 17, 3) := dg_a81.2.2.2.2.2.2.2.2.2.2.2.1
theorem dX5_readLines_54 : decode cX5_readLines 54 = .ok (.aload_n 0, 1) := dg_a81.2.2.2.2.2.2.2.2.2.2.2.2.1
theorem dX5_readLines_55 : decode cX5_readLines 55 = .ok (.invokevirtual 47, 3) := dg_a81.2.2.2.2.2.2.2.2.2.2.2.2.2.1
theorem dX5_readLines_58 : decode cX5_readLines 58 = .ok (.iinc 1 1, 3) := dg_a81.2.2.2.2.2.2.2.2.2.2.2.2.2.2.1
theorem dX5_readLines_61 : decode cX5_readLines 61 = .ok (.aload_n 0, 1) := dg_a81.2.2.2.2.2.2.2.2.2.2.2.2.2.2.2
theorem dg_a82 : (decode cX5_readLines 62 = .ok (.invokevirtual 41, 3)) ∧ (decode cX5_readLines 65 = .ok (.goto (-32), 3)) ∧ (decode cX5_readLines 68 = .ok (.aload_n 0, 1)) ∧ (decode cX5_readLines 69 = .ok (.getfield 29, 3)) ∧ (decode cX5_readLines 72 = .ok (.ifCond .ne 20, 3)) ∧ (decode cX5_readLines 75 = .ok (.aload_n 0, 1)) ∧ (decode cX5_readLines 76 = .ok (.invokevirtual 50, 3)) ∧ (decode cX5_readLines 79 = .ok (.ifCond .eq 13, 3)) ∧ (decode cX5_readLines 82 = .ok (.aload_n 0, 1)) ∧ (decode cX5_readLines 83 = .ok (.bipush 6, 2)) ∧ (decode cX5_readLines 85 = .ok (.aload_n 0, 1)) ∧ (decode cX5_readLines 86 = .ok (.getfield 22, 3)) ∧ (decode cX5_readLines 89 = .ok (.invokevirtual 54, 3)) ∧ (decode cX5_readLines 92 = .ok (.iload_n 1, 1)) ∧ (decode cX5_readLines 93 = .ok (.ireturn, 1)) := by decide +kernel
theorem dX5_readLines_62 : decode cX5_readLines 62 = .ok (.invokevirtual 41, 3) := dg_a82.1
theorem dX5_readLines_65 : decode cX5_readLines 65 = .ok (.goto (-32), 3) := dg_a82.2.1
theorem dX5_readLines_68 : decode cX5_readLines 68 = .ok (.aload_n 0, 1) := dg_a82.2.2.1
theorem dX5_readLines_69 : decode cX5_readLines 69 = .ok (.getfield 29, 3) := dg_a82.2.2.2.1
theorem dX5_readLines_72 : decode cX5_readLines 72 = .ok (.ifCond .ne 20, 3) := dg_a82.2.2.2.2.1
theorem dX5_readLines_75 : decode cX5_readLines 75 = .ok (.aload_n 0, 1) := dg_a82.2.2.2.2.2.1
theorem dX5_readLines_76 : decode cX5_readLines 76 = .ok (.invokevirtual 50, 3) := dg_a82.2.2.2.2.2.2.1
theorem dX5_readLines_79 : decode cX5_readLines 79 = .ok (.ifCond .eq 13, 3) := dg_a82.2.2.2.2.2.2.2.1
theorem dX5_readLines_82 : decode cX5_readLines 82 = .ok (.aload_n 0, 1) := dg_a82.2.2.2.2.2.2.2.2.1
theorem dX5_readLines_83 : decode cX5_readLines 83 = .ok (.bipush 6, 2) := dg_a82.2.2.2.2.2.2.2.2.2.1
theorem dX5_readLines_85 : decode cX5_readLines 85 = .ok (.aload_n 0, 1) := dg_a82.2.2.2.2.2.2.2.2.2.2.1
theorem dX5_readLines_86 : decode cX5_readLines 86 = .ok (.getfield 22, 3) := dg_a82.2.2.2.2.2.2.2.2.2.2.2.1
theorem dX5_readLines_89 : decode cX5_readLines 89 = .ok (.invokevirtual 54, 3) := dg_a82.2.2.2.2.2.2.2.2.2.2.2.2.1
theorem dX5_readLines_92 : decode cX5_readLines 92 = .ok (.iload_n 1, 1) := dg_a82.2.2.2.2.2.2.2.2.2.2.2.2.2.1
theorem dX5_readLines_93 : decode cX5_readLines 93 = .ok (.ireturn, 1) := dg_a82.2.2.2.2.2.2.2.2.2.2.2.2.2.2
theorem dg_a83 : (decode cX5_namesNoStar 0 = .ok (.aload_n 0, 1)) ∧ (decode cX5_namesNoStar 1 = .ok (.getfield 18, 3)) ∧ (decode cX5_namesNoStar 4 = .ok (.getfield 58, 3)) ∧ (decode cX5_namesNoStar 7 = .ok (.aload_n 0, 1)) ∧ (decode cX5_namesNoStar 8 = .ok (.getfield 18, 3)) ∧ (decode cX5_namesNoStar 11 = .ok (.getfield 61, 3)) ∧ (decode cX5_namesNoStar 14 = .ok (.ishr, 1)) ∧ (decode cX5_namesNoStar 15 = .ok (.ifCond .eq 5, 3)) ∧ (decode cX5_namesNoStar 18 = .ok (.iconst 1, 1)) ∧ (decode cX5_namesNoStar 19 = .ok (.ireturn, 1)) ∧ (decode cX5_namesNoStar 20 = .ok (.iconst 0, 1)) ∧ (decode cX5_namesNoStar 21 = .ok (.istore_n 1, 1)) ∧ (decode cX5_namesNoStar 22 = .ok (.iload_n 1, 1)) ∧ (decode cX5_namesNoStar 23 = .ok (.bipush 8, 2)) ∧ (decode cX5_namesNoStar 25 = .ok (.if_icmp .ge 41, 3)) ∧ (decode cX5_namesNoStar 28 = .ok (.aload_n 0, 1)) := by decide +kernel
theorem dX5_namesNoStar_0 : decode cX5_namesNoStar 0 = .ok (.aload_n 0, 1) := dg_a83.1
theorem dX5_namesNoStar_1 : decode cX5_namesNoStar 1 = .ok (.getfield 18, 3) := dg_a83.2.1
theorem dX5_namesNoStar_4 : decode cX5_namesNoStar 4 = .ok (.getfield 58, 3) := dg_a83.2.2.1
theorem dX5_namesNoStar_7 : decode cX5_namesNoStar 7 = .ok (.aload_n 0, 1) := dg_a83.2.2.2.1
theorem dX5_namesNoStar_8 : decode cX5_namesNoStar 8 = .ok (.getfield 18, 3) := dg_a83.2.2.2.2.1
theorem dX5_namesNoStar_11 : decode cX5_namesNoStar 11 = .ok (.getfield 61, 3) := dg_a83.2.2.2.2.2.1
theorem dX5_namesNoStar_14 : decode cX5_namesNoStar 14 = .ok (.ishr, 1) := dg_a83.2.2.2.2.2.2.1
theorem dX5_namesNoStar_15 : decode cX5_namesNoStar 15 = .ok (.ifCond .eq 5, 3) := dg_a83.2.2.2.2.2.2.2.1
theorem dX5_namesNoStar_18 : decode cX5_namesNoStar 18 = .ok (.iconst 1, 1) := dg_a83.2.2.2.2.2.2.2.2.1
theorem dX5_namesNoStar_19 : decode cX5_namesNoStar 19 = .ok (.ireturn, 1) := dg_a83.2.2.2.2.2.2.2.2.2.1
theorem dX5_namesNoStar_20 : decode cX5_namesNoStar 20 = .ok (.iconst 0, 1) := dg_a83.2.2.2.2.2.2.2.2.2.2.1
theorem dX5_namesNoStar_21 : decode cX5_namesNoStar 21 = .ok (.istore_n 1, 1) := dg_a83.2.2.2.2.2.2.2.2.2.2.2.1
theorem dX5_namesNoStar_22 : decode cX5_namesNoStar 22 = .ok (.iload_n 1, 1) := dg_a83.2.2.2.2.2.2.2.2.2.2.2.2.1
theorem dX5_namesNoStar_23 : decode cX5_namesNoStar 23 = .ok (.bipush 8, 2) := dg_a83.2.2.2.2.2.2.2.2.2.2.2.2.2.1
theorem dX5_namesNoStar_25 : decode cX5_namesNoStar 25 = .ok (.if_icmp .ge 41, 3) := dg_a83.2.2.2.2.2.2.2.2.2.2.2.2.2.2.1
theorem dX5_namesNoStar_28 : decode cX5_namesNoStar 28 = .ok (.aload_n 0, 1) := dg_a83.2.2.2.2.2.2.2.2.2.2.2.2.2.2.2
theorem dg_a84 : (decode cX5_namesNoStar 29 = .ok (.getfield 18, 3)) ∧ (decode cX5_namesNoStar 32 = .ok (.iload_n 1, 1)) ∧ (decode cX5_namesNoStar 33 = .ok (.invokevirtual 64, 3)) ∧ (decode cX5_namesNoStar 36 = .ok (.ifCond .eq 30, 3)) ∧ (decode cX5_namesNoStar 39 = .ok (.aload_n 0, 1)) ∧ (decode cX5_namesNoStar 40 = .ok (.getfield 18, 3)) ∧ (decode cX5_namesNoStar 43 = .ok (.aload_n 0, 1)) ∧ (decode cX5_namesNoStar 44 = .ok (.getfield 18, 3)) ∧ (decode cX5_namesNoStar 47 = .ok (.getfield 68, 3)) ∧ (decode cX5_namesNoStar 50 = .ok (.iload_n 1, 1)) ∧ (decode cX5_namesNoStar 51 = .ok (.iaload, 1)) ∧ (decode cX5_namesNoStar 52 = .ok (.invokevirtual 72, 3)) ∧ (decode cX5_namesNoStar 55 = .ok (.ifCond .ne 5, 3)) ∧ (decode cX5_namesNoStar 58 = .ok (.iconst 1, 1)) ∧ (decode cX5_namesNoStar 59 = .ok (.ireturn, 1)) ∧ (decode cX5_namesNoStar 60 = .ok (.iinc 1 1, 3)) := by decide +kernel
theorem dX5_namesNoStar_29 : decode cX5_namesNoStar 29 = .ok (.getfield 18, 3) := dg_a84.1
theorem dX5_namesNoStar_32 : decode cX5_namesNoStar 32 = .ok (.iload_n 1, 1) := dg_a84.2.1
theorem dX5_namesNoStar_33 : decode cX5_namesNoStar 33 = .ok (.invokevirtual 64, 3) := dg_a84.2.2.1
theorem dX5_namesNoStar_36 : decode cX5_namesNoStar 36 = .ok (.ifCond .eq 30, 3) := dg_a84.2.2.2.1
theorem dX5_namesNoStar_39 : decode cX5_namesNoStar 39 = .ok (.aload_n 0, 1) := dg_a84.2.2.2.2.1
theorem dX5_namesNoStar_40 : decode cX5_namesNoStar 40 = .ok (.getfield 18, 3) := dg_a84.2.2.2.2.2.1
theorem dX5_namesNoStar_43 : decode cX5_namesNoStar 43 = .ok (.aload_n 0, 1) := dg_a84.2.2.2.2.2.2.1
theorem dX5_namesNoStar_44 : decode cX5_namesNoStar 44 = .ok (.getfield 18, 3) := dg_a84.2.2.2.2.2.2.2.1
theorem dX5_namesNoStar_47 : decode cX5_namesNoStar 47 = .ok (.getfield 68, 3) := dg_a84.2.2.2.2.2.2.2.2.1
theorem dX5_namesNoStar_50 : decode cX5_namesNoStar 50 = .ok (.iload_n 1, 1) := dg_a84.2.2.2.2.2.2.2.2.2.1
theorem dX5_namesNoStar_51 : decode cX5_namesNoStar 51 = .ok (.iaload, 1) := dg_a84.2.2.2.2.2.2.2.2.2.2.1
theorem dX5_namesNoStar_52 : decode cX5_namesNoStar 52 = .ok (.invokevirtual 72, 3) := dg_a84.2.2.2.2.2.2.2.2.2.2.2.1
theorem dX5_namesNoStar_55 : decode cX5_namesNoStar 55 = .ok (.ifCond .ne 5, 3) := dg_a84.2.2.2.2.2.2.2.2.2.2.2.2.1
theorem dX5_namesNoStar_58 : decode cX5_namesNoStar 58 = .ok (.iconst 1, 1) := dg_a84.2.2.2.2.2.2.2.2.2.2.2.2.2.1
theorem dX5_namesNoStar_59 : decode cX5_namesNoStar 59 = .ok (.ireturn, 1) := dg_a84.2.2.2.2.2.2.2.2.2.2.2.2.2.2.1
theorem dX5_namesNoStar_60 : decode cX5_namesNoStar 60 = .ok (.iinc 1 1, 3) := dg_a84.2.2.2.2.2.2.2.2.2.2.2.2.2.2.2
theorem dg_a85 : (decode cX5_namesNoStar 63 = .ok (.goto (-41), 3)) ∧ (decode cX5_namesNoStar 66 = .ok (.iconst 0, 1)) ∧ (decode cX5_namesNoStar 67 = .ok (.ireturn, 1)) := by decide +kernel
theorem dX5_namesNoStar_63 : decode cX5_namesNoStar 63 = .ok (.goto (-41), 3) := dg_a85.1
theorem dX5_namesNoStar_66 : decode cX5_namesNoStar 66 = .ok (.iconst 0, 1) := dg_a85.2.1
theorem dX5_namesNoStar_67 : decode cX5_namesNoStar 67 = .ok (.ireturn, 1) := dg_a85.2.2
theorem dg_a86 : (decode cX5_refuse 0 = .ok (.aload_n 0, 1)) ∧ (decode cX5_refuse 1 = .ok (.getfield 29, 3)) ∧ (decode cX5_refuse 4 = .ok (.ifCond .ne 13, 3)) ∧ (decode cX5_refuse 7 = .ok (.aload_n 0, 1)) ∧ (decode cX5_refuse 8 = .ok (.iload_n 1, 1)) ∧ (decode cX5_refuse 9 = .ok (.putfield 29, 3)) ∧ (decode cX5_refuse 12 = .ok (.aload_n 0, 1)) ∧ (decode cX5_refuse 13 = .ok (.iload_n 2, 1)) ∧ (decode cX5_refuse 14 = .ok (.putfield 32, 3)) ∧ (decode cX5_refuse 17 = .ok (.return_, 1)) := by decide +kernel
theorem dX5_refuse_0 : decode cX5_refuse 0 = .ok (.aload_n 0, 1) := dg_a86.1
theorem dX5_refuse_1 : decode cX5_refuse 1 = .ok (.getfield 29, 3) := dg_a86.2.1
theorem dX5_refuse_4 : decode cX5_refuse 4 = .ok (.ifCond .ne 13, 3) := dg_a86.2.2.1
theorem dX5_refuse_7 : decode cX5_refuse 7 = .ok (.aload_n 0, 1) := dg_a86.2.2.2.1
theorem dX5_refuse_8 : decode cX5_refuse 8 = .ok (.iload_n 1, 1) := dg_a86.2.2.2.2.1
theorem dX5_refuse_9 : decode cX5_refuse 9 = .ok (.putfield 29, 3) := dg_a86.2.2.2.2.2.1
theorem dX5_refuse_12 : decode cX5_refuse 12 = .ok (.aload_n 0, 1) := dg_a86.2.2.2.2.2.2.1
theorem dX5_refuse_13 : decode cX5_refuse 13 = .ok (.iload_n 2, 1) := dg_a86.2.2.2.2.2.2.2.1
theorem dX5_refuse_14 : decode cX5_refuse 14 = .ok (.putfield 32, 3) := dg_a86.2.2.2.2.2.2.2.2.1
theorem dX5_refuse_17 : decode cX5_refuse 17 = .ok (.return_, 1) := dg_a86.2.2.2.2.2.2.2.2.2
theorem dg_a87 : (decode cX5_readLine 0 = .ok (.aload_n 0, 1)) ∧ (decode cX5_readLine 1 = .ok (.ldc 75, 2)) ∧ (decode cX5_readLine 3 = .ok (.invokevirtual 77, 3)) ∧ (decode cX5_readLine 6 = .ok (.ifCond .eq 10, 3)) ∧ (decode cX5_readLine 9 = .ok (.aload_n 0, 1)) ∧ (decode cX5_readLine 10 = .ok (.invokevirtual 81, 3)) ∧ (decode cX5_readLine 13 = .ok (.goto 176, 3)) ∧ (decode cX5_readLine 16 = .ok (.aload_n 0, 1)) ∧ (decode cX5_readLine 17 = .ok (.ldc 84, 2)) ∧ (decode cX5_readLine 19 = .ok (.invokevirtual 77, 3)) ∧ (decode cX5_readLine 22 = .ok (.ifCond .eq 10, 3)) ∧ (decode cX5_readLine 25 = .ok (.aload_n 0, 1)) ∧ (decode cX5_readLine 26 = .ok (.invokevirtual 85, 3)) ∧ (decode cX5_readLine 29 = .ok (.goto 160, 3)) ∧ (decode cX5_readLine 32 = .ok (.aload_n 0, 1)) ∧ (decode cX5_readLine 33 = .ok (.ldc 88, 2)) := by decide +kernel
theorem dX5_readLine_0 : decode cX5_readLine 0 = .ok (.aload_n 0, 1) := dg_a87.1
theorem dX5_readLine_1 : decode cX5_readLine 1 = .ok (.ldc 75, 2) := dg_a87.2.1
theorem dX5_readLine_3 : decode cX5_readLine 3 = .ok (.invokevirtual 77, 3) := dg_a87.2.2.1
theorem dX5_readLine_6 : decode cX5_readLine 6 = .ok (.ifCond .eq 10, 3) := dg_a87.2.2.2.1
theorem dX5_readLine_9 : decode cX5_readLine 9 = .ok (.aload_n 0, 1) := dg_a87.2.2.2.2.1
theorem dX5_readLine_10 : decode cX5_readLine 10 = .ok (.invokevirtual 81, 3) := dg_a87.2.2.2.2.2.1
theorem dX5_readLine_13 : decode cX5_readLine 13 = .ok (.goto 176, 3) := dg_a87.2.2.2.2.2.2.1
theorem dX5_readLine_16 : decode cX5_readLine 16 = .ok (.aload_n 0, 1) := dg_a87.2.2.2.2.2.2.2.1
theorem dX5_readLine_17 : decode cX5_readLine 17 = .ok (.ldc 84, 2) := dg_a87.2.2.2.2.2.2.2.2.1
theorem dX5_readLine_19 : decode cX5_readLine 19 = .ok (.invokevirtual 77, 3) := dg_a87.2.2.2.2.2.2.2.2.2.1
theorem dX5_readLine_22 : decode cX5_readLine 22 = .ok (.ifCond .eq 10, 3) := dg_a87.2.2.2.2.2.2.2.2.2.2.1
theorem dX5_readLine_25 : decode cX5_readLine 25 = .ok (.aload_n 0, 1) := dg_a87.2.2.2.2.2.2.2.2.2.2.2.1
theorem dX5_readLine_26 : decode cX5_readLine 26 = .ok (.invokevirtual 85, 3) := dg_a87.2.2.2.2.2.2.2.2.2.2.2.2.1
theorem dX5_readLine_29 : decode cX5_readLine 29 = .ok (.goto 160, 3) := dg_a87.2.2.2.2.2.2.2.2.2.2.2.2.2.1
theorem dX5_readLine_32 : decode cX5_readLine 32 = .ok (.aload_n 0, 1) := dg_a87.2.2.2.2.2.2.2.2.2.2.2.2.2.2.1
theorem dX5_readLine_33 : decode cX5_readLine 33 = .ok (.ldc 88, 2) := dg_a87.2.2.2.2.2.2.2.2.2.2.2.2.2.2.2
theorem dg_a88 : (decode cX5_readLine 35 = .ok (.invokevirtual 77, 3)) ∧ (decode cX5_readLine 38 = .ok (.ifCond .eq 11, 3)) ∧ (decode cX5_readLine 41 = .ok (.aload_n 0, 1)) ∧ (decode cX5_readLine 42 = .ok (.iconst 0, 1)) ∧ (decode cX5_readLine 43 = .ok (.invokevirtual 90, 3)) ∧ (decode cX5_readLine 46 = .ok (.goto 143, 3)) ∧ (decode cX5_readLine 49 = .ok (.aload_n 0, 1)) ∧ (decode cX5_readLine 50 = .ok (.ldc 94, 2)) ∧ (decode cX5_readLine 52 = .ok (.invokevirtual 77, 3)) ∧ (decode cX5_readLine 55 = .ok (.ifCond .eq 11, 3)) ∧ (decode cX5_readLine 58 = .ok (.aload_n 0, 1)) ∧ (decode cX5_readLine 59 = .ok (.iconst 1, 1)) ∧ (decode cX5_readLine 60 = .ok (.invokevirtual 90, 3)) ∧ (decode cX5_readLine 63 = .ok (.goto 126, 3)) ∧ (decode cX5_readLine 66 = .ok (.aload_n 0, 1)) ∧ (decode cX5_readLine 67 = .ok (.ldc 96, 2)) := by decide +kernel
theorem dX5_readLine_35 : decode cX5_readLine 35 = .ok (.invokevirtual 77, 3) := dg_a88.1
theorem dX5_readLine_38 : decode cX5_readLine 38 = .ok (.ifCond .eq 11, 3) := dg_a88.2.1
theorem dX5_readLine_41 : decode cX5_readLine 41 = .ok (.aload_n 0, 1) := dg_a88.2.2.1
theorem dX5_readLine_42 : decode cX5_readLine 42 = .ok (.iconst 0, 1) := dg_a88.2.2.2.1
theorem dX5_readLine_43 : decode cX5_readLine 43 = .ok (.invokevirtual 90, 3) := dg_a88.2.2.2.2.1
theorem dX5_readLine_46 : decode cX5_readLine 46 = .ok (.goto 143, 3) := dg_a88.2.2.2.2.2.1
theorem dX5_readLine_49 : decode cX5_readLine 49 = .ok (.aload_n 0, 1) := dg_a88.2.2.2.2.2.2.1
theorem dX5_readLine_50 : decode cX5_readLine 50 = .ok (.ldc 94, 2) := dg_a88.2.2.2.2.2.2.2.1
theorem dX5_readLine_52 : decode cX5_readLine 52 = .ok (.invokevirtual 77, 3) := dg_a88.2.2.2.2.2.2.2.2.1
theorem dX5_readLine_55 : decode cX5_readLine 55 = .ok (.ifCond .eq 11, 3) := dg_a88.2.2.2.2.2.2.2.2.2.1
theorem dX5_readLine_58 : decode cX5_readLine 58 = .ok (.aload_n 0, 1) := dg_a88.2.2.2.2.2.2.2.2.2.2.1
theorem dX5_readLine_59 : decode cX5_readLine 59 = .ok (.iconst 1, 1) := dg_a88.2.2.2.2.2.2.2.2.2.2.2.1
theorem dX5_readLine_60 : decode cX5_readLine 60 = .ok (.invokevirtual 90, 3) := dg_a88.2.2.2.2.2.2.2.2.2.2.2.2.1
theorem dX5_readLine_63 : decode cX5_readLine 63 = .ok (.goto 126, 3) := dg_a88.2.2.2.2.2.2.2.2.2.2.2.2.2.1
theorem dX5_readLine_66 : decode cX5_readLine 66 = .ok (.aload_n 0, 1) := dg_a88.2.2.2.2.2.2.2.2.2.2.2.2.2.2.1
theorem dX5_readLine_67 : decode cX5_readLine 67 = .ok (.ldc 96, 2) := dg_a88.2.2.2.2.2.2.2.2.2.2.2.2.2.2.2
theorem dg_a89 : (decode cX5_readLine 69 = .ok (.invokevirtual 77, 3)) ∧ (decode cX5_readLine 72 = .ok (.ifCond .eq 11, 3)) ∧ (decode cX5_readLine 75 = .ok (.aload_n 0, 1)) ∧ (decode cX5_readLine 76 = .ok (.iconst 2, 1)) ∧ (decode cX5_readLine 77 = .ok (.invokevirtual 90, 3)) ∧ (decode cX5_readLine 80 = .ok (.goto 109, 3)) ∧ (decode cX5_readLine 83 = .ok (.aload_n 0, 1)) ∧ (decode cX5_readLine 84 = .ok (.ldc 98, 2)) ∧ (decode cX5_readLine 86 = .ok (.invokevirtual 77, 3)) ∧ (decode cX5_readLine 89 = .ok (.ifCond .eq 11, 3)) ∧ (decode cX5_readLine 92 = .ok (.aload_n 0, 1)) ∧ (decode cX5_readLine 93 = .ok (.iconst 3, 1)) ∧ (decode cX5_readLine 94 = .ok (.invokevirtual 90, 3)) ∧ (decode cX5_readLine 97 = .ok (.goto 92, 3)) ∧ (decode cX5_readLine 100 = .ok (.aload_n 0, 1)) ∧ (decode cX5_readLine 101 = .ok (.ldc 100, 2)) := by decide +kernel
theorem dX5_readLine_69 : decode cX5_readLine 69 = .ok (.invokevirtual 77, 3) := dg_a89.1
theorem dX5_readLine_72 : decode cX5_readLine 72 = .ok (.ifCond .eq 11, 3) := dg_a89.2.1
theorem dX5_readLine_75 : decode cX5_readLine 75 = .ok (.aload_n 0, 1) := dg_a89.2.2.1
theorem dX5_readLine_76 : decode cX5_readLine 76 = .ok (.iconst 2, 1) := dg_a89.2.2.2.1
theorem dX5_readLine_77 : decode cX5_readLine 77 = .ok (.invokevirtual 90, 3) := dg_a89.2.2.2.2.1
theorem dX5_readLine_80 : decode cX5_readLine 80 = .ok (.goto 109, 3) := dg_a89.2.2.2.2.2.1
theorem dX5_readLine_83 : decode cX5_readLine 83 = .ok (.aload_n 0, 1) := dg_a89.2.2.2.2.2.2.1
theorem dX5_readLine_84 : decode cX5_readLine 84 = .ok (.ldc 98, 2) := dg_a89.2.2.2.2.2.2.2.1
theorem dX5_readLine_86 : decode cX5_readLine 86 = .ok (.invokevirtual 77, 3) := dg_a89.2.2.2.2.2.2.2.2.1
theorem dX5_readLine_89 : decode cX5_readLine 89 = .ok (.ifCond .eq 11, 3) := dg_a89.2.2.2.2.2.2.2.2.2.1
theorem dX5_readLine_92 : decode cX5_readLine 92 = .ok (.aload_n 0, 1) := dg_a89.2.2.2.2.2.2.2.2.2.2.1
theorem dX5_readLine_93 : decode cX5_readLine 93 = .ok (.iconst 3, 1) := dg_a89.2.2.2.2.2.2.2.2.2.2.2.1
theorem dX5_readLine_94 : decode cX5_readLine 94 = .ok (.invokevirtual 90, 3) := dg_a89.2.2.2.2.2.2.2.2.2.2.2.2.1
theorem dX5_readLine_97 : decode cX5_readLine 97 = .ok (.goto 92, 3) := dg_a89.2.2.2.2.2.2.2.2.2.2.2.2.2.1
theorem dX5_readLine_100 : decode cX5_readLine 100 = .ok (.aload_n 0, 1) := dg_a89.2.2.2.2.2.2.2.2.2.2.2.2.2.2.1
theorem dX5_readLine_101 : decode cX5_readLine 101 = .ok (.ldc 100, 2) := dg_a89.2.2.2.2.2.2.2.2.2.2.2.2.2.2.2
theorem dg_a90 : (decode cX5_readLine 103 = .ok (.invokevirtual 77, 3)) ∧ (decode cX5_readLine 106 = .ok (.ifCond .eq 10, 3)) ∧ (decode cX5_readLine 109 = .ok (.aload_n 0, 1)) ∧ (decode cX5_readLine 110 = .ok (.invokevirtual 102, 3)) ∧ (decode cX5_readLine 113 = .ok (.goto 76, 3)) ∧ (decode cX5_readLine 116 = .ok (.aload_n 0, 1)) ∧ (decode cX5_readLine 117 = .ok (.ldc 105, 2)) ∧ (decode cX5_readLine 119 = .ok (.invokevirtual 77, 3)) ∧ (decode cX5_readLine 122 = .ok (.ifCond .eq 10, 3)) ∧ (decode cX5_readLine 125 = .ok (.aload_n 0, 1)) ∧ (decode cX5_readLine 126 = .ok (.invokevirtual 107, 3)) ∧ (decode cX5_readLine 129 = .ok (.goto 60, 3)) ∧ (decode cX5_readLine 132 = .ok (.aload_n 0, 1)) ∧ (decode cX5_readLine 133 = .ok (.ldc 110, 2)) ∧ (decode cX5_readLine 135 = .ok (.invokevirtual 77, 3)) ∧ (decode cX5_readLine 138 = .ok (.ifCond .eq 10, 3)) := by decide +kernel
theorem dX5_readLine_103 : decode cX5_readLine 103 = .ok (.invokevirtual 77, 3) := dg_a90.1
theorem dX5_readLine_106 : decode cX5_readLine 106 = .ok (.ifCond .eq 10, 3) := dg_a90.2.1
theorem dX5_readLine_109 : decode cX5_readLine 109 = .ok (.aload_n 0, 1) := dg_a90.2.2.1
theorem dX5_readLine_110 : decode cX5_readLine 110 = .ok (.invokevirtual 102, 3) := dg_a90.2.2.2.1
theorem dX5_readLine_113 : decode cX5_readLine 113 = .ok (.goto 76, 3) := dg_a90.2.2.2.2.1
theorem dX5_readLine_116 : decode cX5_readLine 116 = .ok (.aload_n 0, 1) := dg_a90.2.2.2.2.2.1
theorem dX5_readLine_117 : decode cX5_readLine 117 = .ok (.ldc 105, 2) := dg_a90.2.2.2.2.2.2.1
theorem dX5_readLine_119 : decode cX5_readLine 119 = .ok (.invokevirtual 77, 3) := dg_a90.2.2.2.2.2.2.2.1
theorem dX5_readLine_122 : decode cX5_readLine 122 = .ok (.ifCond .eq 10, 3) := dg_a90.2.2.2.2.2.2.2.2.1
theorem dX5_readLine_125 : decode cX5_readLine 125 = .ok (.aload_n 0, 1) := dg_a90.2.2.2.2.2.2.2.2.2.1
theorem dX5_readLine_126 : decode cX5_readLine 126 = .ok (.invokevirtual 107, 3) := dg_a90.2.2.2.2.2.2.2.2.2.2.1
theorem dX5_readLine_129 : decode cX5_readLine 129 = .ok (.goto 60, 3) := dg_a90.2.2.2.2.2.2.2.2.2.2.2.1
theorem dX5_readLine_132 : decode cX5_readLine 132 = .ok (.aload_n 0, 1) := dg_a90.2.2.2.2.2.2.2.2.2.2.2.2.1
theorem dX5_readLine_133 : decode cX5_readLine 133 = .ok (.ldc 110, 2) := dg_a90.2.2.2.2.2.2.2.2.2.2.2.2.2.1
theorem dX5_readLine_135 : decode cX5_readLine 135 = .ok (.invokevirtual 77, 3) := dg_a90.2.2.2.2.2.2.2.2.2.2.2.2.2.2.1
theorem dX5_readLine_138 : decode cX5_readLine 138 = .ok (.ifCond .eq 10, 3) := dg_a90.2.2.2.2.2.2.2.2.2.2.2.2.2.2.2
theorem dg_a91 : (decode cX5_readLine 141 = .ok (.aload_n 0, 1)) ∧ (decode cX5_readLine 142 = .ok (.invokevirtual 112, 3)) ∧ (decode cX5_readLine 145 = .ok (.goto 44, 3)) ∧ (decode cX5_readLine 148 = .ok (.aload_n 0, 1)) ∧ (decode cX5_readLine 149 = .ok (.ldc 115, 2)) ∧ (decode cX5_readLine 151 = .ok (.invokevirtual 77, 3)) ∧ (decode cX5_readLine 154 = .ok (.ifCond .eq 10, 3)) ∧ (decode cX5_readLine 157 = .ok (.aload_n 0, 1)) ∧ (decode cX5_readLine 158 = .ok (.invokevirtual 117, 3)) ∧ (decode cX5_readLine 161 = .ok (.goto 28, 3)) ∧ (decode cX5_readLine 164 = .ok (.aload_n 0, 1)) ∧ (decode cX5_readLine 165 = .ok (.ldc 120, 2)) ∧ (decode cX5_readLine 167 = .ok (.invokevirtual 77, 3)) ∧ (decode cX5_readLine 170 = .ok (.ifCond .eq 10, 3)) ∧ (decode cX5_readLine 173 = .ok (.aload_n 0, 1)) ∧ (decode cX5_readLine 174 = .ok (.invokevirtual 122, 3)) := by decide +kernel
theorem dX5_readLine_141 : decode cX5_readLine 141 = .ok (.aload_n 0, 1) := dg_a91.1
theorem dX5_readLine_142 : decode cX5_readLine 142 = .ok (.invokevirtual 112, 3) := dg_a91.2.1
theorem dX5_readLine_145 : decode cX5_readLine 145 = .ok (.goto 44, 3) := dg_a91.2.2.1
theorem dX5_readLine_148 : decode cX5_readLine 148 = .ok (.aload_n 0, 1) := dg_a91.2.2.2.1
theorem dX5_readLine_149 : decode cX5_readLine 149 = .ok (.ldc 115, 2) := dg_a91.2.2.2.2.1
theorem dX5_readLine_151 : decode cX5_readLine 151 = .ok (.invokevirtual 77, 3) := dg_a91.2.2.2.2.2.1
theorem dX5_readLine_154 : decode cX5_readLine 154 = .ok (.ifCond .eq 10, 3) := dg_a91.2.2.2.2.2.2.1
theorem dX5_readLine_157 : decode cX5_readLine 157 = .ok (.aload_n 0, 1) := dg_a91.2.2.2.2.2.2.2.1
theorem dX5_readLine_158 : decode cX5_readLine 158 = .ok (.invokevirtual 117, 3) := dg_a91.2.2.2.2.2.2.2.2.1
theorem dX5_readLine_161 : decode cX5_readLine 161 = .ok (.goto 28, 3) := dg_a91.2.2.2.2.2.2.2.2.2.1
theorem dX5_readLine_164 : decode cX5_readLine 164 = .ok (.aload_n 0, 1) := dg_a91.2.2.2.2.2.2.2.2.2.2.1
theorem dX5_readLine_165 : decode cX5_readLine 165 = .ok (.ldc 120, 2) := dg_a91.2.2.2.2.2.2.2.2.2.2.2.1
theorem dX5_readLine_167 : decode cX5_readLine 167 = .ok (.invokevirtual 77, 3) := dg_a91.2.2.2.2.2.2.2.2.2.2.2.2.1
theorem dX5_readLine_170 : decode cX5_readLine 170 = .ok (.ifCond .eq 10, 3) := dg_a91.2.2.2.2.2.2.2.2.2.2.2.2.2.1
theorem dX5_readLine_173 : decode cX5_readLine 173 = .ok (.aload_n 0, 1) := dg_a91.2.2.2.2.2.2.2.2.2.2.2.2.2.2.1
theorem dX5_readLine_174 : decode cX5_readLine 174 = .ok (.invokevirtual 122, 3) := dg_a91.2.2.2.2.2.2.2.2.2.2.2.2.2.2.2
theorem dg_a92 : (decode cX5_readLine 177 = .ok (.goto 12, 3)) ∧ (decode cX5_readLine 180 = .ok (.aload_n 0, 1)) ∧ (decode cX5_readLine 181 = .ok (.iconst 2, 1)) ∧ (decode cX5_readLine 182 = .ok (.aload_n 0, 1)) ∧ (decode cX5_readLine 183 = .ok (.getfield 125, 3)) ∧ (decode cX5_readLine 186 = .ok (.invokevirtual 54, 3)) ∧ (decode cX5_readLine 189 = .ok (.return_, 1)) := by decide +kernel
theorem dX5_readLine_177 : decode cX5_readLine 177 = .ok (.goto 12, 3) := dg_a92.1
theorem dX5_readLine_180 : decode cX5_readLine 180 = .ok (.aload_n 0, 1) := dg_a92.2.1
theorem dX5_readLine_181 : decode cX5_readLine 181 = .ok (.iconst 2, 1) := dg_a92.2.2.1
theorem dX5_readLine_182 : decode cX5_readLine 182 = .ok (.aload_n 0, 1) := dg_a92.2.2.2.1
theorem dX5_readLine_183 : decode cX5_readLine 183 = .ok (.getfield 125, 3) := dg_a92.2.2.2.2.1
theorem dX5_readLine_186 : decode cX5_readLine 186 = .ok (.invokevirtual 54, 3) := dg_a92.2.2.2.2.2.1
theorem dX5_readLine_189 : decode cX5_readLine 189 = .ok (.return_, 1) := dg_a92.2.2.2.2.2.2
theorem dg_a93 : (decode cX5_readStar 0 = .ok (.aload_n 0, 1)) ∧ (decode cX5_readStar 1 = .ok (.getfield 18, 3)) ∧ (decode cX5_readStar 4 = .ok (.getfield 61, 3)) ∧ (decode cX5_readStar 7 = .ok (.iconst 5, 1)) ∧ (decode cX5_readStar 8 = .ok (.if_icmp .lt 12, 3)) ∧ (decode cX5_readStar 11 = .ok (.aload_n 0, 1)) ∧ (decode cX5_readStar 12 = .ok (.iconst 5, 1)) ∧ (decode cX5_readStar 13 = .ok (.aload_n 0, 1)) ∧ (decode cX5_readStar 14 = .ok (.getfield 125, 3)) ∧ (decode cX5_readStar 17 = .ok (.invokevirtual 54, 3)) ∧ (decode cX5_readStar 20 = .ok (.aload_n 0, 1)) ∧ (decode cX5_readStar 21 = .ok (.iconst 0, 1)) ∧ (decode cX5_readStar 22 = .ok (.bipush 9, 2)) ∧ (decode cX5_readStar 24 = .ok (.invokevirtual 128, 3)) ∧ (decode cX5_readStar 27 = .ok (.istore_n 1, 1)) ∧ (decode cX5_readStar 28 = .ok (.aload_n 0, 1)) := by decide +kernel
theorem dX5_readStar_0 : decode cX5_readStar 0 = .ok (.aload_n 0, 1) := dg_a93.1
theorem dX5_readStar_1 : decode cX5_readStar 1 = .ok (.getfield 18, 3) := dg_a93.2.1
theorem dX5_readStar_4 : decode cX5_readStar 4 = .ok (.getfield 61, 3) := dg_a93.2.2.1
theorem dX5_readStar_7 : decode cX5_readStar 7 = .ok (.iconst 5, 1) := dg_a93.2.2.2.1
theorem dX5_readStar_8 : decode cX5_readStar 8 = .ok (.if_icmp .lt 12, 3) := dg_a93.2.2.2.2.1
theorem dX5_readStar_11 : decode cX5_readStar 11 = .ok (.aload_n 0, 1) := dg_a93.2.2.2.2.2.1
theorem dX5_readStar_12 : decode cX5_readStar 12 = .ok (.iconst 5, 1) := dg_a93.2.2.2.2.2.2.1
theorem dX5_readStar_13 : decode cX5_readStar 13 = .ok (.aload_n 0, 1) := dg_a93.2.2.2.2.2.2.2.1
theorem dX5_readStar_14 : decode cX5_readStar 14 = .ok (.getfield 125, 3) := dg_a93.2.2.2.2.2.2.2.2.1
theorem dX5_readStar_17 : decode cX5_readStar 17 = .ok (.invokevirtual 54, 3) := dg_a93.2.2.2.2.2.2.2.2.2.1
theorem dX5_readStar_20 : decode cX5_readStar 20 = .ok (.aload_n 0, 1) := dg_a93.2.2.2.2.2.2.2.2.2.2.1
theorem dX5_readStar_21 : decode cX5_readStar 21 = .ok (.iconst 0, 1) := dg_a93.2.2.2.2.2.2.2.2.2.2.2.1
theorem dX5_readStar_22 : decode cX5_readStar 22 = .ok (.bipush 9, 2) := dg_a93.2.2.2.2.2.2.2.2.2.2.2.2.1
theorem dX5_readStar_24 : decode cX5_readStar 24 = .ok (.invokevirtual 128, 3) := dg_a93.2.2.2.2.2.2.2.2.2.2.2.2.2.1
theorem dX5_readStar_27 : decode cX5_readStar 27 = .ok (.istore_n 1, 1) := dg_a93.2.2.2.2.2.2.2.2.2.2.2.2.2.2.1
theorem dX5_readStar_28 : decode cX5_readStar 28 = .ok (.aload_n 0, 1) := dg_a93.2.2.2.2.2.2.2.2.2.2.2.2.2.2.2
theorem dg_a94 : (decode cX5_readStar 29 = .ok (.iload_n 1, 1)) ∧ (decode cX5_readStar 30 = .ok (.bipush 9, 2)) ∧ (decode cX5_readStar 32 = .ok (.invokevirtual 128, 3)) ∧ (decode cX5_readStar 35 = .ok (.istore_n 2, 1)) ∧ (decode cX5_readStar 36 = .ok (.aload_n 0, 1)) ∧ (decode cX5_readStar 37 = .ok (.iconst 0, 1)) ∧ (decode cX5_readStar 38 = .ok (.bipush 6, 2)) ∧ (decode cX5_readStar 40 = .ok (.invokevirtual 128, 3)) ∧ (decode cX5_readStar 43 = .ok (.istore_n 3, 1)) ∧ (decode cX5_readStar 44 = .ok (.aload_n 0, 1)) ∧ (decode cX5_readStar 45 = .ok (.invokevirtual 132, 3)) ∧ (decode cX5_readStar 48 = .ok (.aload_n 0, 1)) ∧ (decode cX5_readStar 49 = .ok (.getfield 29, 3)) ∧ (decode cX5_readStar 52 = .ok (.ifCond .ne 14, 3)) ∧ (decode cX5_readStar 55 = .ok (.aload_n 0, 1)) ∧ (decode cX5_readStar 56 = .ok (.getfield 18, 3)) := by decide +kernel
theorem dX5_readStar_29 : decode cX5_readStar 29 = .ok (.iload_n 1, 1) := dg_a94.1
theorem dX5_readStar_30 : decode cX5_readStar 30 = .ok (.bipush 9, 2) := dg_a94.2.1
theorem dX5_readStar_32 : decode cX5_readStar 32 = .ok (.invokevirtual 128, 3) := dg_a94.2.2.1
theorem dX5_readStar_35 : decode cX5_readStar 35 = .ok (.istore_n 2, 1) := dg_a94.2.2.2.1
theorem dX5_readStar_36 : decode cX5_readStar 36 = .ok (.aload_n 0, 1) := dg_a94.2.2.2.2.1
theorem dX5_readStar_37 : decode cX5_readStar 37 = .ok (.iconst 0, 1) := dg_a94.2.2.2.2.2.1
theorem dX5_readStar_38 : decode cX5_readStar 38 = .ok (.bipush 6, 2) := dg_a94.2.2.2.2.2.2.1
theorem dX5_readStar_40 : decode cX5_readStar 40 = .ok (.invokevirtual 128, 3) := dg_a94.2.2.2.2.2.2.2.1
theorem dX5_readStar_43 : decode cX5_readStar 43 = .ok (.istore_n 3, 1) := dg_a94.2.2.2.2.2.2.2.2.1
theorem dX5_readStar_44 : decode cX5_readStar 44 = .ok (.aload_n 0, 1) := dg_a94.2.2.2.2.2.2.2.2.2.1
theorem dX5_readStar_45 : decode cX5_readStar 45 = .ok (.invokevirtual 132, 3) := dg_a94.2.2.2.2.2.2.2.2.2.2.1
theorem dX5_readStar_48 : decode cX5_readStar 48 = .ok (.aload_n 0, 1) := dg_a94.2.2.2.2.2.2.2.2.2.2.2.1
theorem dX5_readStar_49 : decode cX5_readStar 49 = .ok (.getfield 29, 3) := dg_a94.2.2.2.2.2.2.2.2.2.2.2.2.1
theorem dX5_readStar_52 : decode cX5_readStar 52 = .ok (.ifCond .ne 14, 3) := dg_a94.2.2.2.2.2.2.2.2.2.2.2.2.2.1
theorem dX5_readStar_55 : decode cX5_readStar 55 = .ok (.aload_n 0, 1) := dg_a94.2.2.2.2.2.2.2.2.2.2.2.2.2.2.1
theorem dX5_readStar_56 : decode cX5_readStar 56 = .ok (.getfield 18, 3) := dg_a94.2.2.2.2.2.2.2.2.2.2.2.2.2.2.2
theorem dg_a95 : (decode cX5_readStar 59 = .ok (.iload_n 1, 1)) ∧ (decode cX5_readStar 60 = .ok (.iload_n 2, 1)) ∧ (decode cX5_readStar 61 = .ok (.iload_n 3, 1)) ∧ (decode cX5_readStar 62 = .ok (.invokevirtual 135, 3)) ∧ (decode cX5_readStar 65 = .ok (.pop, 1)) ∧ (decode cX5_readStar 66 = .ok (.return_, 1)) := by decide +kernel
theorem dX5_readStar_59 : decode cX5_readStar 59 = .ok (.iload_n 1, 1) := dg_a95.1
theorem dX5_readStar_60 : decode cX5_readStar 60 = .ok (.iload_n 2, 1) := dg_a95.2.1
theorem dX5_readStar_61 : decode cX5_readStar 61 = .ok (.iload_n 3, 1) := dg_a95.2.2.1
theorem dX5_readStar_62 : decode cX5_readStar 62 = .ok (.invokevirtual 135, 3) := dg_a95.2.2.2.1
theorem dX5_readStar_65 : decode cX5_readStar 65 = .ok (.pop, 1) := dg_a95.2.2.2.2.1
theorem dX5_readStar_66 : decode cX5_readStar 66 = .ok (.return_, 1) := dg_a95.2.2.2.2.2
theorem dg_a96 : (decode cX5_readKnown 0 = .ok (.aload_n 0, 1)) ∧ (decode cX5_readKnown 1 = .ok (.iconst 0, 1)) ∧ (decode cX5_readKnown 2 = .ok (.iconst 4, 1)) ∧ (decode cX5_readKnown 3 = .ok (.invokevirtual 128, 3)) ∧ (decode cX5_readKnown 6 = .ok (.istore_n 1, 1)) ∧ (decode cX5_readKnown 7 = .ok (.aload_n 0, 1)) ∧ (decode cX5_readKnown 8 = .ok (.getfield 29, 3)) ∧ (decode cX5_readKnown 11 = .ok (.ifCond .ne 23, 3)) ∧ (decode cX5_readKnown 14 = .ok (.aload_n 0, 1)) ∧ (decode cX5_readKnown 15 = .ok (.getfield 18, 3)) ∧ (decode cX5_readKnown 18 = .ok (.iload_n 1, 1)) ∧ (decode cX5_readKnown 19 = .ok (.invokevirtual 139, 3)) ∧ (decode cX5_readKnown 22 = .ok (.ifCond .eq 12, 3)) ∧ (decode cX5_readKnown 25 = .ok (.aload_n 0, 1)) ∧ (decode cX5_readKnown 26 = .ok (.iconst 4, 1)) ∧ (decode cX5_readKnown 27 = .ok (.aload_n 0, 1)) := by decide +kernel
theorem dX5_readKnown_0 : decode cX5_readKnown 0 = .ok (.aload_n 0, 1) := dg_a96.1
theorem dX5_readKnown_1 : decode cX5_readKnown 1 = .ok (.iconst 0, 1) := dg_a96.2.1
theorem dX5_readKnown_2 : decode cX5_readKnown 2 = .ok (.iconst 4, 1) := dg_a96.2.2.1
theorem dX5_readKnown_3 : decode cX5_readKnown 3 = .ok (.invokevirtual 128, 3) := dg_a96.2.2.2.1
theorem dX5_readKnown_6 : decode cX5_readKnown 6 = .ok (.istore_n 1, 1) := dg_a96.2.2.2.2.1
theorem dX5_readKnown_7 : decode cX5_readKnown 7 = .ok (.aload_n 0, 1) := dg_a96.2.2.2.2.2.1
theorem dX5_readKnown_8 : decode cX5_readKnown 8 = .ok (.getfield 29, 3) := dg_a96.2.2.2.2.2.2.1
theorem dX5_readKnown_11 : decode cX5_readKnown 11 = .ok (.ifCond .ne 23, 3) := dg_a96.2.2.2.2.2.2.2.1
theorem dX5_readKnown_14 : decode cX5_readKnown 14 = .ok (.aload_n 0, 1) := dg_a96.2.2.2.2.2.2.2.2.1
theorem dX5_readKnown_15 : decode cX5_readKnown 15 = .ok (.getfield 18, 3) := dg_a96.2.2.2.2.2.2.2.2.2.1
theorem dX5_readKnown_18 : decode cX5_readKnown 18 = .ok (.iload_n 1, 1) := dg_a96.2.2.2.2.2.2.2.2.2.2.1
theorem dX5_readKnown_19 : decode cX5_readKnown 19 = .ok (.invokevirtual 139, 3) := dg_a96.2.2.2.2.2.2.2.2.2.2.2.1
theorem dX5_readKnown_22 : decode cX5_readKnown 22 = .ok (.ifCond .eq 12, 3) := dg_a96.2.2.2.2.2.2.2.2.2.2.2.2.1
theorem dX5_readKnown_25 : decode cX5_readKnown 25 = .ok (.aload_n 0, 1) := dg_a96.2.2.2.2.2.2.2.2.2.2.2.2.2.1
theorem dX5_readKnown_26 : decode cX5_readKnown 26 = .ok (.iconst 4, 1) := dg_a96.2.2.2.2.2.2.2.2.2.2.2.2.2.2.1
theorem dX5_readKnown_27 : decode cX5_readKnown 27 = .ok (.aload_n 0, 1) := dg_a96.2.2.2.2.2.2.2.2.2.2.2.2.2.2.2
theorem dg_a97 : (decode cX5_readKnown 28 = .ok (.getfield 125, 3)) ∧ (decode cX5_readKnown 31 = .ok (.invokevirtual 54, 3)) ∧ (decode cX5_readKnown 34 = .ok (.aload_n 0, 1)) ∧ (decode cX5_readKnown 35 = .ok (.invokevirtual 132, 3)) ∧ (decode cX5_readKnown 38 = .ok (.aload_n 0, 1)) ∧ (decode cX5_readKnown 39 = .ok (.getfield 29, 3)) ∧ (decode cX5_readKnown 42 = .ok (.ifCond .ne 22, 3)) ∧ (decode cX5_readKnown 45 = .ok (.aload_n 0, 1)) ∧ (decode cX5_readKnown 46 = .ok (.getfield 18, 3)) ∧ (decode cX5_readKnown 49 = .ok (.aload_n 0, 1)) ∧ (decode cX5_readKnown 50 = .ok (.getfield 18, 3)) ∧ (decode cX5_readKnown 53 = .ok (.getfield 58, 3)) ∧ (decode cX5_readKnown 56 = .ok (.iload_n 1, 1)) ∧ (decode cX5_readKnown 57 = .ok (.iconst 1, 1)) ∧ (decode cX5_readKnown 58 = .ok (.invokestatic 142, 3)) ∧ (decode cX5_readKnown 61 = .ok (.putfield 58, 3)) := by decide +kernel
theorem dX5_readKnown_28 : decode cX5_readKnown 28 = .ok (.getfield 125, 3) := dg_a97.1
theorem dX5_readKnown_31 : decode cX5_readKnown 31 = .ok (.invokevirtual 54, 3) := dg_a97.2.1
theorem dX5_readKnown_34 : decode cX5_readKnown 34 = .ok (.aload_n 0, 1) := dg_a97.2.2.1
theorem dX5_readKnown_35 : decode cX5_readKnown 35 = .ok (.invokevirtual 132, 3) := dg_a97.2.2.2.1
theorem dX5_readKnown_38 : decode cX5_readKnown 38 = .ok (.aload_n 0, 1) := dg_a97.2.2.2.2.1
theorem dX5_readKnown_39 : decode cX5_readKnown 39 = .ok (.getfield 29, 3) := dg_a97.2.2.2.2.2.1
theorem dX5_readKnown_42 : decode cX5_readKnown 42 = .ok (.ifCond .ne 22, 3) := dg_a97.2.2.2.2.2.2.1
theorem dX5_readKnown_45 : decode cX5_readKnown 45 = .ok (.aload_n 0, 1) := dg_a97.2.2.2.2.2.2.2.1
theorem dX5_readKnown_46 : decode cX5_readKnown 46 = .ok (.getfield 18, 3) := dg_a97.2.2.2.2.2.2.2.2.1
theorem dX5_readKnown_49 : decode cX5_readKnown 49 = .ok (.aload_n 0, 1) := dg_a97.2.2.2.2.2.2.2.2.2.1
theorem dX5_readKnown_50 : decode cX5_readKnown 50 = .ok (.getfield 18, 3) := dg_a97.2.2.2.2.2.2.2.2.2.2.1
theorem dX5_readKnown_53 : decode cX5_readKnown 53 = .ok (.getfield 58, 3) := dg_a97.2.2.2.2.2.2.2.2.2.2.2.1
theorem dX5_readKnown_56 : decode cX5_readKnown 56 = .ok (.iload_n 1, 1) := dg_a97.2.2.2.2.2.2.2.2.2.2.2.2.1
theorem dX5_readKnown_57 : decode cX5_readKnown 57 = .ok (.iconst 1, 1) := dg_a97.2.2.2.2.2.2.2.2.2.2.2.2.2.1
theorem dX5_readKnown_58 : decode cX5_readKnown 58 = .ok (.invokestatic 142, 3) := dg_a97.2.2.2.2.2.2.2.2.2.2.2.2.2.2.1
theorem dX5_readKnown_61 : decode cX5_readKnown 61 = .ok (.putfield 58, 3) := dg_a97.2.2.2.2.2.2.2.2.2.2.2.2.2.2.2
theorem dX5_readKnown_64 : decode cX5_readKnown 64 = .ok (.return_, 1) := by decide +kernel
theorem dg_a98 : (decode cX5_readWalker 0 = .ok (.aload_n 0, 1)) ∧ (decode cX5_readWalker 1 = .ok (.getfield 18, 3)) ∧ (decode cX5_readWalker 4 = .ok (.getfield 146, 3)) ∧ (decode cX5_readWalker 7 = .ok (.iconst 3, 1)) ∧ (decode cX5_readWalker 8 = .ok (.if_icmp .lt 12, 3)) ∧ (decode cX5_readWalker 11 = .ok (.aload_n 0, 1)) ∧ (decode cX5_readWalker 12 = .ok (.iconst 5, 1)) ∧ (decode cX5_readWalker 13 = .ok (.aload_n 0, 1)) ∧ (decode cX5_readWalker 14 = .ok (.getfield 125, 3)) ∧ (decode cX5_readWalker 17 = .ok (.invokevirtual 54, 3)) ∧ (decode cX5_readWalker 20 = .ok (.aload_n 0, 1)) ∧ (decode cX5_readWalker 21 = .ok (.invokevirtual 132, 3)) ∧ (decode cX5_readWalker 24 = .ok (.aload_n 0, 1)) ∧ (decode cX5_readWalker 25 = .ok (.getfield 29, 3)) ∧ (decode cX5_readWalker 28 = .ok (.ifCond .ne 12, 3)) ∧ (decode cX5_readWalker 31 = .ok (.aload_n 0, 1)) := by decide +kernel
theorem dX5_readWalker_0 : decode cX5_readWalker 0 = .ok (.aload_n 0, 1) := dg_a98.1
theorem dX5_readWalker_1 : decode cX5_readWalker 1 = .ok (.getfield 18, 3) := dg_a98.2.1
theorem dX5_readWalker_4 : decode cX5_readWalker 4 = .ok (.getfield 146, 3) := dg_a98.2.2.1
theorem dX5_readWalker_7 : decode cX5_readWalker 7 = .ok (.iconst 3, 1) := dg_a98.2.2.2.1
theorem dX5_readWalker_8 : decode cX5_readWalker 8 = .ok (.if_icmp .lt 12, 3) := dg_a98.2.2.2.2.1
theorem dX5_readWalker_11 : decode cX5_readWalker 11 = .ok (.aload_n 0, 1) := dg_a98.2.2.2.2.2.1
theorem dX5_readWalker_12 : decode cX5_readWalker 12 = .ok (.iconst 5, 1) := dg_a98.2.2.2.2.2.2.1
theorem dX5_readWalker_13 : decode cX5_readWalker 13 = .ok (.aload_n 0, 1) := dg_a98.2.2.2.2.2.2.2.1
theorem dX5_readWalker_14 : decode cX5_readWalker 14 = .ok (.getfield 125, 3) := dg_a98.2.2.2.2.2.2.2.2.1
theorem dX5_readWalker_17 : decode cX5_readWalker 17 = .ok (.invokevirtual 54, 3) := dg_a98.2.2.2.2.2.2.2.2.2.1
theorem dX5_readWalker_20 : decode cX5_readWalker 20 = .ok (.aload_n 0, 1) := dg_a98.2.2.2.2.2.2.2.2.2.2.1
theorem dX5_readWalker_21 : decode cX5_readWalker 21 = .ok (.invokevirtual 132, 3) := dg_a98.2.2.2.2.2.2.2.2.2.2.2.1
theorem dX5_readWalker_24 : decode cX5_readWalker 24 = .ok (.aload_n 0, 1) := dg_a98.2.2.2.2.2.2.2.2.2.2.2.2.1
theorem dX5_readWalker_25 : decode cX5_readWalker 25 = .ok (.getfield 29, 3) := dg_a98.2.2.2.2.2.2.2.2.2.2.2.2.2.1
theorem dX5_readWalker_28 : decode cX5_readWalker 28 = .ok (.ifCond .ne 12, 3) := dg_a98.2.2.2.2.2.2.2.2.2.2.2.2.2.2.1
theorem dX5_readWalker_31 : decode cX5_readWalker 31 = .ok (.aload_n 0, 1) := dg_a98.2.2.2.2.2.2.2.2.2.2.2.2.2.2.2
theorem dg_a99 : (decode cX5_readWalker 32 = .ok (.getfield 18, 3)) ∧ (decode cX5_readWalker 35 = .ok (.iload_n 1, 1)) ∧ (decode cX5_readWalker 36 = .ok (.invokevirtual 149, 3)) ∧ (decode cX5_readWalker 39 = .ok (.pop, 1)) ∧ (decode cX5_readWalker 40 = .ok (.return_, 1)) := by decide +kernel
theorem dX5_readWalker_32 : decode cX5_readWalker 32 = .ok (.getfield 18, 3) := dg_a99.1
theorem dX5_readWalker_35 : decode cX5_readWalker 35 = .ok (.iload_n 1, 1) := dg_a99.2.1
theorem dX5_readWalker_36 : decode cX5_readWalker 36 = .ok (.invokevirtual 149, 3) := dg_a99.2.2.1
theorem dX5_readWalker_39 : decode cX5_readWalker 39 = .ok (.pop, 1) := dg_a99.2.2.2.1
theorem dX5_readWalker_40 : decode cX5_readWalker 40 = .ok (.return_, 1) := dg_a99.2.2.2.2
theorem dg_a100 : (decode cX5_readWell 0 = .ok (.aload_n 0, 1)) ∧ (decode cX5_readWell 1 = .ok (.iconst 1, 1)) ∧ (decode cX5_readWell 2 = .ok (.invokevirtual 152, 3)) ∧ (decode cX5_readWell 5 = .ok (.aload_n 0, 1)) ∧ (decode cX5_readWell 6 = .ok (.getfield 18, 3)) ∧ (decode cX5_readWell 9 = .ok (.aload_n 0, 1)) ∧ (decode cX5_readWell 10 = .ok (.iconst 1, 1)) ∧ (decode cX5_readWell 11 = .ok (.bipush 40, 2)) ∧ (decode cX5_readWell 13 = .ok (.invokevirtual 128, 3)) ∧ (decode cX5_readWell 16 = .ok (.putfield 155, 3)) ∧ (decode cX5_readWell 19 = .ok (.aload_n 0, 1)) ∧ (decode cX5_readWell 20 = .ok (.getfield 18, 3)) ∧ (decode cX5_readWell 23 = .ok (.aload_n 0, 1)) ∧ (decode cX5_readWell 24 = .ok (.iconst 0, 1)) ∧ (decode cX5_readWell 25 = .ok (.bipush 9, 2)) ∧ (decode cX5_readWell 27 = .ok (.invokevirtual 128, 3)) := by decide +kernel
theorem dX5_readWell_0 : decode cX5_readWell 0 = .ok (.aload_n 0, 1) := dg_a100.1
theorem dX5_readWell_1 : decode cX5_readWell 1 = .ok (.iconst 1, 1) := dg_a100.2.1
theorem dX5_readWell_2 : decode cX5_readWell 2 = .ok (.invokevirtual 152, 3) := dg_a100.2.2.1
theorem dX5_readWell_5 : decode cX5_readWell 5 = .ok (.aload_n 0, 1) := dg_a100.2.2.2.1
theorem dX5_readWell_6 : decode cX5_readWell 6 = .ok (.getfield 18, 3) := dg_a100.2.2.2.2.1
theorem dX5_readWell_9 : decode cX5_readWell 9 = .ok (.aload_n 0, 1) := dg_a100.2.2.2.2.2.1
theorem dX5_readWell_10 : decode cX5_readWell 10 = .ok (.iconst 1, 1) := dg_a100.2.2.2.2.2.2.1
theorem dX5_readWell_11 : decode cX5_readWell 11 = .ok (.bipush 40, 2) := dg_a100.2.2.2.2.2.2.2.1
theorem dX5_readWell_13 : decode cX5_readWell 13 = .ok (.invokevirtual 128, 3) := dg_a100.2.2.2.2.2.2.2.2.1
theorem dX5_readWell_16 : decode cX5_readWell 16 = .ok (.putfield 155, 3) := dg_a100.2.2.2.2.2.2.2.2.2.1
theorem dX5_readWell_19 : decode cX5_readWell 19 = .ok (.aload_n 0, 1) := dg_a100.2.2.2.2.2.2.2.2.2.2.1
theorem dX5_readWell_20 : decode cX5_readWell 20 = .ok (.getfield 18, 3) := dg_a100.2.2.2.2.2.2.2.2.2.2.2.1
theorem dX5_readWell_23 : decode cX5_readWell 23 = .ok (.aload_n 0, 1) := dg_a100.2.2.2.2.2.2.2.2.2.2.2.2.1
theorem dX5_readWell_24 : decode cX5_readWell 24 = .ok (.iconst 0, 1) := dg_a100.2.2.2.2.2.2.2.2.2.2.2.2.2.1
theorem dX5_readWell_25 : decode cX5_readWell 25 = .ok (.bipush 9, 2) := dg_a100.2.2.2.2.2.2.2.2.2.2.2.2.2.2.1
theorem dX5_readWell_27 : decode cX5_readWell 27 = .ok (.invokevirtual 128, 3) := dg_a100.2.2.2.2.2.2.2.2.2.2.2.2.2.2.2
theorem dg_a101 : (decode cX5_readWell 30 = .ok (.putfield 158, 3)) ∧ (decode cX5_readWell 33 = .ok (.aload_n 0, 1)) ∧ (decode cX5_readWell 34 = .ok (.invokevirtual 132, 3)) ∧ (decode cX5_readWell 37 = .ok (.return_, 1)) := by decide +kernel
theorem dX5_readWell_30 : decode cX5_readWell 30 = .ok (.putfield 158, 3) := dg_a101.1
theorem dX5_readWell_33 : decode cX5_readWell 33 = .ok (.aload_n 0, 1) := dg_a101.2.1
theorem dX5_readWell_34 : decode cX5_readWell 34 = .ok (.invokevirtual 132, 3) := dg_a101.2.2.1
theorem dX5_readWell_37 : decode cX5_readWell 37 = .ok (.return_, 1) := dg_a101.2.2.2
theorem dg_a102 : (decode cX5_readWind 0 = .ok (.aload_n 0, 1)) ∧ (decode cX5_readWind 1 = .ok (.iconst 2, 1)) ∧ (decode cX5_readWind 2 = .ok (.invokevirtual 152, 3)) ∧ (decode cX5_readWind 5 = .ok (.aload_n 0, 1)) ∧ (decode cX5_readWind 6 = .ok (.getfield 18, 3)) ∧ (decode cX5_readWind 9 = .ok (.aload_n 0, 1)) ∧ (decode cX5_readWind 10 = .ok (.iconst 0, 1)) ∧ (decode cX5_readWind 11 = .ok (.bipush 10, 2)) ∧ (decode cX5_readWind 13 = .ok (.invokevirtual 128, 3)) ∧ (decode cX5_readWind 16 = .ok (.putfield 161, 3)) ∧ (decode cX5_readWind 19 = .ok (.aload_n 0, 1)) ∧ (decode cX5_readWind 20 = .ok (.invokevirtual 132, 3)) ∧ (decode cX5_readWind 23 = .ok (.return_, 1)) := by decide +kernel
theorem dX5_readWind_0 : decode cX5_readWind 0 = .ok (.aload_n 0, 1) := dg_a102.1
theorem dX5_readWind_1 : decode cX5_readWind 1 = .ok (.iconst 2, 1) := dg_a102.2.1
theorem dX5_readWind_2 : decode cX5_readWind 2 = .ok (.invokevirtual 152, 3) := dg_a102.2.2.1
theorem dX5_readWind_5 : decode cX5_readWind 5 = .ok (.aload_n 0, 1) := dg_a102.2.2.2.1
theorem dX5_readWind_6 : decode cX5_readWind 6 = .ok (.getfield 18, 3) := dg_a102.2.2.2.2.1
theorem dX5_readWind_9 : decode cX5_readWind 9 = .ok (.aload_n 0, 1) := dg_a102.2.2.2.2.2.1
theorem dX5_readWind_10 : decode cX5_readWind 10 = .ok (.iconst 0, 1) := dg_a102.2.2.2.2.2.2.1
theorem dX5_readWind_11 : decode cX5_readWind 11 = .ok (.bipush 10, 2) := dg_a102.2.2.2.2.2.2.2.1
theorem dX5_readWind_13 : decode cX5_readWind 13 = .ok (.invokevirtual 128, 3) := dg_a102.2.2.2.2.2.2.2.2.1
theorem dX5_readWind_16 : decode cX5_readWind 16 = .ok (.putfield 161, 3) := dg_a102.2.2.2.2.2.2.2.2.2.1
theorem dX5_readWind_19 : decode cX5_readWind 19 = .ok (.aload_n 0, 1) := dg_a102.2.2.2.2.2.2.2.2.2.2.1
theorem dX5_readWind_20 : decode cX5_readWind 20 = .ok (.invokevirtual 132, 3) := dg_a102.2.2.2.2.2.2.2.2.2.2.2.1
theorem dX5_readWind_23 : decode cX5_readWind 23 = .ok (.return_, 1) := dg_a102.2.2.2.2.2.2.2.2.2.2.2.2
theorem dg_a103 : (decode cX5_readWater 0 = .ok (.aload_n 0, 1)) ∧ (decode cX5_readWater 1 = .ok (.iconst 4, 1)) ∧ (decode cX5_readWater 2 = .ok (.invokevirtual 152, 3)) ∧ (decode cX5_readWater 5 = .ok (.aload_n 0, 1)) ∧ (decode cX5_readWater 6 = .ok (.getfield 18, 3)) ∧ (decode cX5_readWater 9 = .ok (.getfield 164, 3)) ∧ (decode cX5_readWater 12 = .ok (.aload_n 0, 1)) ∧ (decode cX5_readWater 13 = .ok (.iconst 0, 1)) ∧ (decode cX5_readWater 14 = .ok (.bipush 99, 2)) ∧ (decode cX5_readWater 16 = .ok (.invokevirtual 128, 3)) ∧ (decode cX5_readWater 19 = .ok (.putfield 168, 3)) ∧ (decode cX5_readWater 22 = .ok (.aload_n 0, 1)) ∧ (decode cX5_readWater 23 = .ok (.invokevirtual 132, 3)) ∧ (decode cX5_readWater 26 = .ok (.return_, 1)) := by decide +kernel
theorem dX5_readWater_0 : decode cX5_readWater 0 = .ok (.aload_n 0, 1) := dg_a103.1
theorem dX5_readWater_1 : decode cX5_readWater 1 = .ok (.iconst 4, 1) := dg_a103.2.1
theorem dX5_readWater_2 : decode cX5_readWater 2 = .ok (.invokevirtual 152, 3) := dg_a103.2.2.1
theorem dX5_readWater_5 : decode cX5_readWater 5 = .ok (.aload_n 0, 1) := dg_a103.2.2.2.1
theorem dX5_readWater_6 : decode cX5_readWater 6 = .ok (.getfield 18, 3) := dg_a103.2.2.2.2.1
theorem dX5_readWater_9 : decode cX5_readWater 9 = .ok (.getfield 164, 3) := dg_a103.2.2.2.2.2.1
theorem dX5_readWater_12 : decode cX5_readWater 12 = .ok (.aload_n 0, 1) := dg_a103.2.2.2.2.2.2.1
theorem dX5_readWater_13 : decode cX5_readWater 13 = .ok (.iconst 0, 1) := dg_a103.2.2.2.2.2.2.2.1
theorem dX5_readWater_14 : decode cX5_readWater 14 = .ok (.bipush 99, 2) := dg_a103.2.2.2.2.2.2.2.2.1
theorem dX5_readWater_16 : decode cX5_readWater 16 = .ok (.invokevirtual 128, 3) := dg_a103.2.2.2.2.2.2.2.2.2.1
theorem dX5_readWater_19 : decode cX5_readWater 19 = .ok (.putfield 168, 3) := dg_a103.2.2.2.2.2.2.2.2.2.2.1
theorem dX5_readWater_22 : decode cX5_readWater 22 = .ok (.aload_n 0, 1) := dg_a103.2.2.2.2.2.2.2.2.2.2.2.1
theorem dX5_readWater_23 : decode cX5_readWater 23 = .ok (.invokevirtual 132, 3) := dg_a103.2.2.2.2.2.2.2.2.2.2.2.2.1
theorem dX5_readWater_26 : decode cX5_readWater 26 = .ok (.return_, 1) := dg_a103.2.2.2.2.2.2.2.2.2.2.2.2.2
theorem dg_a104 : (decode cX5_readCloud 0 = .ok (.aload_n 0, 1)) ∧ (decode cX5_readCloud 1 = .ok (.iconst 0, 1)) ∧ (decode cX5_readCloud 2 = .ok (.bipush 9, 2)) ∧ (decode cX5_readCloud 4 = .ok (.invokevirtual 128, 3)) ∧ (decode cX5_readCloud 7 = .ok (.istore_n 1, 1)) ∧ (decode cX5_readCloud 8 = .ok (.aload_n 0, 1)) ∧ (decode cX5_readCloud 9 = .ok (.getfield 29, 3)) ∧ (decode cX5_readCloud 12 = .ok (.ifCond .ne 23, 3)) ∧ (decode cX5_readCloud 15 = .ok (.aload_n 0, 1)) ∧ (decode cX5_readCloud 16 = .ok (.getfield 18, 3)) ∧ (decode cX5_readCloud 19 = .ok (.iload_n 1, 1)) ∧ (decode cX5_readCloud 20 = .ok (.invokevirtual 172, 3)) ∧ (decode cX5_readCloud 23 = .ok (.ifCond .eq 12, 3)) ∧ (decode cX5_readCloud 26 = .ok (.aload_n 0, 1)) ∧ (decode cX5_readCloud 27 = .ok (.iconst 4, 1)) ∧ (decode cX5_readCloud 28 = .ok (.aload_n 0, 1)) := by decide +kernel
theorem dX5_readCloud_0 : decode cX5_readCloud 0 = .ok (.aload_n 0, 1) := dg_a104.1
theorem dX5_readCloud_1 : decode cX5_readCloud 1 = .ok (.iconst 0, 1) := dg_a104.2.1
theorem dX5_readCloud_2 : decode cX5_readCloud 2 = .ok (.bipush 9, 2) := dg_a104.2.2.1
theorem dX5_readCloud_4 : decode cX5_readCloud 4 = .ok (.invokevirtual 128, 3) := dg_a104.2.2.2.1
theorem dX5_readCloud_7 : decode cX5_readCloud 7 = .ok (.istore_n 1, 1) := dg_a104.2.2.2.2.1
theorem dX5_readCloud_8 : decode cX5_readCloud 8 = .ok (.aload_n 0, 1) := dg_a104.2.2.2.2.2.1
theorem dX5_readCloud_9 : decode cX5_readCloud 9 = .ok (.getfield 29, 3) := dg_a104.2.2.2.2.2.2.1
theorem dX5_readCloud_12 : decode cX5_readCloud 12 = .ok (.ifCond .ne 23, 3) := dg_a104.2.2.2.2.2.2.2.1
theorem dX5_readCloud_15 : decode cX5_readCloud 15 = .ok (.aload_n 0, 1) := dg_a104.2.2.2.2.2.2.2.2.1
theorem dX5_readCloud_16 : decode cX5_readCloud 16 = .ok (.getfield 18, 3) := dg_a104.2.2.2.2.2.2.2.2.2.1
theorem dX5_readCloud_19 : decode cX5_readCloud 19 = .ok (.iload_n 1, 1) := dg_a104.2.2.2.2.2.2.2.2.2.2.1
theorem dX5_readCloud_20 : decode cX5_readCloud 20 = .ok (.invokevirtual 172, 3) := dg_a104.2.2.2.2.2.2.2.2.2.2.2.1
theorem dX5_readCloud_23 : decode cX5_readCloud 23 = .ok (.ifCond .eq 12, 3) := dg_a104.2.2.2.2.2.2.2.2.2.2.2.2.1
theorem dX5_readCloud_26 : decode cX5_readCloud 26 = .ok (.aload_n 0, 1) := dg_a104.2.2.2.2.2.2.2.2.2.2.2.2.2.1
theorem dX5_readCloud_27 : decode cX5_readCloud 27 = .ok (.iconst 4, 1) := dg_a104.2.2.2.2.2.2.2.2.2.2.2.2.2.2.1
theorem dX5_readCloud_28 : decode cX5_readCloud 28 = .ok (.aload_n 0, 1) := dg_a104.2.2.2.2.2.2.2.2.2.2.2.2.2.2.2
theorem dg_a105 : (decode cX5_readCloud 29 = .ok (.getfield 125, 3)) ∧ (decode cX5_readCloud 32 = .ok (.invokevirtual 54, 3)) ∧ (decode cX5_readCloud 35 = .ok (.aload_n 0, 1)) ∧ (decode cX5_readCloud 36 = .ok (.invokevirtual 132, 3)) ∧ (decode cX5_readCloud 39 = .ok (.aload_n 0, 1)) ∧ (decode cX5_readCloud 40 = .ok (.getfield 29, 3)) ∧ (decode cX5_readCloud 43 = .ok (.ifCond .ne 22, 3)) ∧ (decode cX5_readCloud 46 = .ok (.aload_n 0, 1)) ∧ (decode cX5_readCloud 47 = .ok (.getfield 18, 3)) ∧ (decode cX5_readCloud 50 = .ok (.aload_n 0, 1)) ∧ (decode cX5_readCloud 51 = .ok (.getfield 18, 3)) ∧ (decode cX5_readCloud 54 = .ok (.getfield 175, 3)) ∧ (decode cX5_readCloud 57 = .ok (.iload_n 1, 1)) ∧ (decode cX5_readCloud 58 = .ok (.iconst 1, 1)) ∧ (decode cX5_readCloud 59 = .ok (.invokestatic 142, 3)) ∧ (decode cX5_readCloud 62 = .ok (.putfield 175, 3)) := by decide +kernel
theorem dX5_readCloud_29 : decode cX5_readCloud 29 = .ok (.getfield 125, 3) := dg_a105.1
theorem dX5_readCloud_32 : decode cX5_readCloud 32 = .ok (.invokevirtual 54, 3) := dg_a105.2.1
theorem dX5_readCloud_35 : decode cX5_readCloud 35 = .ok (.aload_n 0, 1) := dg_a105.2.2.1
theorem dX5_readCloud_36 : decode cX5_readCloud 36 = .ok (.invokevirtual 132, 3) := dg_a105.2.2.2.1
theorem dX5_readCloud_39 : decode cX5_readCloud 39 = .ok (.aload_n 0, 1) := dg_a105.2.2.2.2.1
theorem dX5_readCloud_40 : decode cX5_readCloud 40 = .ok (.getfield 29, 3) := dg_a105.2.2.2.2.2.1
theorem dX5_readCloud_43 : decode cX5_readCloud 43 = .ok (.ifCond .ne 22, 3) := dg_a105.2.2.2.2.2.2.1
theorem dX5_readCloud_46 : decode cX5_readCloud 46 = .ok (.aload_n 0, 1) := dg_a105.2.2.2.2.2.2.2.1
theorem dX5_readCloud_47 : decode cX5_readCloud 47 = .ok (.getfield 18, 3) := dg_a105.2.2.2.2.2.2.2.2.1
theorem dX5_readCloud_50 : decode cX5_readCloud 50 = .ok (.aload_n 0, 1) := dg_a105.2.2.2.2.2.2.2.2.2.1
theorem dX5_readCloud_51 : decode cX5_readCloud 51 = .ok (.getfield 18, 3) := dg_a105.2.2.2.2.2.2.2.2.2.2.1
theorem dX5_readCloud_54 : decode cX5_readCloud 54 = .ok (.getfield 175, 3) := dg_a105.2.2.2.2.2.2.2.2.2.2.2.1
theorem dX5_readCloud_57 : decode cX5_readCloud 57 = .ok (.iload_n 1, 1) := dg_a105.2.2.2.2.2.2.2.2.2.2.2.2.1
theorem dX5_readCloud_58 : decode cX5_readCloud 58 = .ok (.iconst 1, 1) := dg_a105.2.2.2.2.2.2.2.2.2.2.2.2.2.1
theorem dX5_readCloud_59 : decode cX5_readCloud 59 = .ok (.invokestatic 142, 3) := dg_a105.2.2.2.2.2.2.2.2.2.2.2.2.2.2.1
theorem dX5_readCloud_62 : decode cX5_readCloud 62 = .ok (.putfield 175, 3) := dg_a105.2.2.2.2.2.2.2.2.2.2.2.2.2.2.2
theorem dX5_readCloud_65 : decode cX5_readCloud 65 = .ok (.return_, 1) := by decide +kernel
theorem dg_a106 : (decode cX5_readPlan 0 = .ok (.aload_n 0, 1)) ∧ (decode cX5_readPlan 1 = .ok (.bipush 8, 2)) ∧ (decode cX5_readPlan 3 = .ok (.invokevirtual 152, 3)) ∧ (decode cX5_readPlan 6 = .ok (.aload_n 0, 1)) ∧ (decode cX5_readPlan 7 = .ok (.invokevirtual 41, 3)) ∧ (decode cX5_readPlan 10 = .ok (.iconst 0, 1)) ∧ (decode cX5_readPlan 11 = .ok (.istore_n 1, 1)) ∧ (decode cX5_readPlan 12 = .ok (.iload_n 1, 1)) ∧ (decode cX5_readPlan 13 = .ok (.bipush 8, 2)) ∧ (decode cX5_readPlan 15 = .ok (.if_icmp .gt 65, 3)) ∧ (decode cX5_readPlan 18 = .ok (.aload_n 0, 1)) ∧ (decode cX5_readPlan 19 = .ok (.getfield 29, 3)) ∧ (decode cX5_readPlan 22 = .ok (.ifCond .ne 58, 3)) ∧ (decode cX5_readPlan 25 = .ok (.aload_n 0, 1)) ∧ (decode cX5_readPlan 26 = .ok (.getfield 44, 3)) ∧ (decode cX5_readPlan 29 = .ok (.iconst 2, 1)) := by decide +kernel
theorem dX5_readPlan_0 : decode cX5_readPlan 0 = .ok (.aload_n 0, 1) := dg_a106.1
theorem dX5_readPlan_1 : decode cX5_readPlan 1 = .ok (.bipush 8, 2) := dg_a106.2.1
theorem dX5_readPlan_3 : decode cX5_readPlan 3 = .ok (.invokevirtual 152, 3) := dg_a106.2.2.1
theorem dX5_readPlan_6 : decode cX5_readPlan 6 = .ok (.aload_n 0, 1) := dg_a106.2.2.2.1
theorem dX5_readPlan_7 : decode cX5_readPlan 7 = .ok (.invokevirtual 41, 3) := dg_a106.2.2.2.2.1
theorem dX5_readPlan_10 : decode cX5_readPlan 10 = .ok (.iconst 0, 1) := dg_a106.2.2.2.2.2.1
theorem dX5_readPlan_11 : decode cX5_readPlan 11 = .ok (.istore_n 1, 1) := dg_a106.2.2.2.2.2.2.1
theorem dX5_readPlan_12 : decode cX5_readPlan 12 = .ok (.iload_n 1, 1) := dg_a106.2.2.2.2.2.2.2.1
theorem dX5_readPlan_13 : decode cX5_readPlan 13 = .ok (.bipush 8, 2) := dg_a106.2.2.2.2.2.2.2.2.1
theorem dX5_readPlan_15 : decode cX5_readPlan 15 = .ok (.if_icmp .gt 65, 3) := dg_a106.2.2.2.2.2.2.2.2.2.1
theorem dX5_readPlan_18 : decode cX5_readPlan 18 = .ok (.aload_n 0, 1) := dg_a106.2.2.2.2.2.2.2.2.2.2.1
theorem dX5_readPlan_19 : decode cX5_readPlan 19 = .ok (.getfield 29, 3) := dg_a106.2.2.2.2.2.2.2.2.2.2.2.1
theorem dX5_readPlan_22 : decode cX5_readPlan 22 = .ok (.ifCond .ne 58, 3) := dg_a106.2.2.2.2.2.2.2.2.2.2.2.2.1
theorem dX5_readPlan_25 : decode cX5_readPlan 25 = .ok (.aload_n 0, 1) := dg_a106.2.2.2.2.2.2.2.2.2.2.2.2.2.1
theorem dX5_readPlan_26 : decode cX5_readPlan 26 = .ok (.getfield 44, 3) := dg_a106.2.2.2.2.2.2.2.2.2.2.2.2.2.2.1
theorem dX5_readPlan_29 : decode cX5_readPlan 29 = .ok (.iconst 2, 1) := dg_a106.2.2.2.2.2.2.2.2.2.2.2.2.2.2.2
theorem dg_a107 : (decode cX5_readPlan 30 = .ok (.if_icmp .ne 50, 3)) ∧ (decode cX5_readPlan 33 = .ok (.aload_n 0, 1)) ∧ (decode cX5_readPlan 34 = .ok (.iconst 0, 1)) ∧ (decode cX5_readPlan 35 = .ok (.bipush 6, 2)) ∧ (decode cX5_readPlan 37 = .ok (.invokevirtual 178, 3)) ∧ (decode cX5_readPlan 40 = .ok (.aload_n 0, 1)) ∧ (decode cX5_readPlan 41 = .ok (.getfield 29, 3)) ∧ (decode cX5_readPlan 44 = .ok (.ifCond .ne 26, 3)) ∧ (decode cX5_readPlan 47 = .ok (.aload_n 0, 1)) ∧ (decode cX5_readPlan 48 = .ok (.getfield 18, 3)) ∧ (decode cX5_readPlan 51 = .ok (.aload_n 0, 1)) ∧ (decode cX5_readPlan 52 = .ok (.getfield 181, 3)) ∧ (decode cX5_readPlan 55 = .ok (.invokevirtual 184, 3)) ∧ (decode cX5_readPlan 58 = .ok (.ifCond .ne 12, 3)) ∧ (decode cX5_readPlan 61 = .ok (.aload_n 0, 1)) ∧ (decode cX5_readPlan 62 = .ok (.iconst 5, 1)) := by decide +kernel
theorem dX5_readPlan_30 : decode cX5_readPlan 30 = .ok (.if_icmp .ne 50, 3) := dg_a107.1
theorem dX5_readPlan_33 : decode cX5_readPlan 33 = .ok (.aload_n 0, 1) := dg_a107.2.1
theorem dX5_readPlan_34 : decode cX5_readPlan 34 = .ok (.iconst 0, 1) := dg_a107.2.2.1
theorem dX5_readPlan_35 : decode cX5_readPlan 35 = .ok (.bipush 6, 2) := dg_a107.2.2.2.1
theorem dX5_readPlan_37 : decode cX5_readPlan 37 = .ok (.invokevirtual 178, 3) := dg_a107.2.2.2.2.1
theorem dX5_readPlan_40 : decode cX5_readPlan 40 = .ok (.aload_n 0, 1) := dg_a107.2.2.2.2.2.1
theorem dX5_readPlan_41 : decode cX5_readPlan 41 = .ok (.getfield 29, 3) := dg_a107.2.2.2.2.2.2.1
theorem dX5_readPlan_44 : decode cX5_readPlan 44 = .ok (.ifCond .ne 26, 3) := dg_a107.2.2.2.2.2.2.2.1
theorem dX5_readPlan_47 : decode cX5_readPlan 47 = .ok (.aload_n 0, 1) := dg_a107.2.2.2.2.2.2.2.2.1
theorem dX5_readPlan_48 : decode cX5_readPlan 48 = .ok (.getfield 18, 3) := dg_a107.2.2.2.2.2.2.2.2.2.1
theorem dX5_readPlan_51 : decode cX5_readPlan 51 = .ok (.aload_n 0, 1) := dg_a107.2.2.2.2.2.2.2.2.2.2.1
theorem dX5_readPlan_52 : decode cX5_readPlan 52 = .ok (.getfield 181, 3) := dg_a107.2.2.2.2.2.2.2.2.2.2.2.1
theorem dX5_readPlan_55 : decode cX5_readPlan 55 = .ok (.invokevirtual 184, 3) := dg_a107.2.2.2.2.2.2.2.2.2.2.2.2.1
theorem dX5_readPlan_58 : decode cX5_readPlan 58 = .ok (.ifCond .ne 12, 3) := dg_a107.2.2.2.2.2.2.2.2.2.2.2.2.2.1
theorem dX5_readPlan_61 : decode cX5_readPlan 61 = .ok (.aload_n 0, 1) := dg_a107.2.2.2.2.2.2.2.2.2.2.2.2.2.2.1
theorem dX5_readPlan_62 : decode cX5_readPlan 62 = .ok (.iconst 5, 1) := dg_a107.2.2.2.2.2.2.2.2.2.2.2.2.2.2.2
theorem dg_a108 : (decode cX5_readPlan 63 = .ok (.aload_n 0, 1)) ∧ (decode cX5_readPlan 64 = .ok (.getfield 125, 3)) ∧ (decode cX5_readPlan 67 = .ok (.invokevirtual 54, 3)) ∧ (decode cX5_readPlan 70 = .ok (.aload_n 0, 1)) ∧ (decode cX5_readPlan 71 = .ok (.invokevirtual 41, 3)) ∧ (decode cX5_readPlan 74 = .ok (.iinc 1 1, 3)) ∧ (decode cX5_readPlan 77 = .ok (.goto (-65), 3)) ∧ (decode cX5_readPlan 80 = .ok (.aload_n 0, 1)) ∧ (decode cX5_readPlan 81 = .ok (.iconst 3, 1)) ∧ (decode cX5_readPlan 82 = .ok (.invokevirtual 187, 3)) ∧ (decode cX5_readPlan 85 = .ok (.return_, 1)) := by decide +kernel
theorem dX5_readPlan_63 : decode cX5_readPlan 63 = .ok (.aload_n 0, 1) := dg_a108.1
theorem dX5_readPlan_64 : decode cX5_readPlan 64 = .ok (.getfield 125, 3) := dg_a108.2.1
theorem dX5_readPlan_67 : decode cX5_readPlan 67 = .ok (.invokevirtual 54, 3) := dg_a108.2.2.1
theorem dX5_readPlan_70 : decode cX5_readPlan 70 = .ok (.aload_n 0, 1) := dg_a108.2.2.2.1
theorem dX5_readPlan_71 : decode cX5_readPlan 71 = .ok (.invokevirtual 41, 3) := dg_a108.2.2.2.2.1
theorem dX5_readPlan_74 : decode cX5_readPlan 74 = .ok (.iinc 1 1, 3) := dg_a108.2.2.2.2.2.1
theorem dX5_readPlan_77 : decode cX5_readPlan 77 = .ok (.goto (-65), 3) := dg_a108.2.2.2.2.2.2.1
theorem dX5_readPlan_80 : decode cX5_readPlan 80 = .ok (.aload_n 0, 1) := dg_a108.2.2.2.2.2.2.2.1
theorem dX5_readPlan_81 : decode cX5_readPlan 81 = .ok (.iconst 3, 1) := dg_a108.2.2.2.2.2.2.2.2.1
theorem dX5_readPlan_82 : decode cX5_readPlan 82 = .ok (.invokevirtual 187, 3) := dg_a108.2.2.2.2.2.2.2.2.2.1
theorem dX5_readPlan_85 : decode cX5_readPlan 85 = .ok (.return_, 1) := dg_a108.2.2.2.2.2.2.2.2.2.2
theorem dg_a109 : (decode cX5_tellOnce 0 = .ok (.aload_n 0, 1)) ∧ (decode cX5_tellOnce 1 = .ok (.getfield 35, 3)) ∧ (decode cX5_tellOnce 4 = .ok (.iload_n 1, 1)) ∧ (decode cX5_tellOnce 5 = .ok (.iand, 1)) ∧ (decode cX5_tellOnce 6 = .ok (.ifCond .eq 12, 3)) ∧ (decode cX5_tellOnce 9 = .ok (.aload_n 0, 1)) ∧ (decode cX5_tellOnce 10 = .ok (.iconst 4, 1)) ∧ (decode cX5_tellOnce 11 = .ok (.aload_n 0, 1)) ∧ (decode cX5_tellOnce 12 = .ok (.getfield 125, 3)) ∧ (decode cX5_tellOnce 15 = .ok (.invokevirtual 54, 3)) ∧ (decode cX5_tellOnce 18 = .ok (.aload_n 0, 1)) ∧ (decode cX5_tellOnce 19 = .ok (.dup, 1)) ∧ (decode cX5_tellOnce 20 = .ok (.getfield 35, 3)) ∧ (decode cX5_tellOnce 23 = .ok (.iload_n 1, 1)) ∧ (decode cX5_tellOnce 24 = .ok (.ior, 1)) ∧ (decode cX5_tellOnce 25 = .ok (.putfield 35, 3)) := by decide +kernel
theorem dX5_tellOnce_0 : decode cX5_tellOnce 0 = .ok (.aload_n 0, 1) := dg_a109.1
theorem dX5_tellOnce_1 : decode cX5_tellOnce 1 = .ok (.getfield 35, 3) := dg_a109.2.1
theorem dX5_tellOnce_4 : decode cX5_tellOnce 4 = .ok (.iload_n 1, 1) := dg_a109.2.2.1
theorem dX5_tellOnce_5 : decode cX5_tellOnce 5 = .ok (.iand, 1) := dg_a109.2.2.2.1
theorem dX5_tellOnce_6 : decode cX5_tellOnce 6 = .ok (.ifCond .eq 12, 3) := dg_a109.2.2.2.2.1
theorem dX5_tellOnce_9 : decode cX5_tellOnce 9 = .ok (.aload_n 0, 1) := dg_a109.2.2.2.2.2.1
theorem dX5_tellOnce_10 : decode cX5_tellOnce 10 = .ok (.iconst 4, 1) := dg_a109.2.2.2.2.2.2.1
theorem dX5_tellOnce_11 : decode cX5_tellOnce 11 = .ok (.aload_n 0, 1) := dg_a109.2.2.2.2.2.2.2.1
theorem dX5_tellOnce_12 : decode cX5_tellOnce 12 = .ok (.getfield 125, 3) := dg_a109.2.2.2.2.2.2.2.2.1
theorem dX5_tellOnce_15 : decode cX5_tellOnce 15 = .ok (.invokevirtual 54, 3) := dg_a109.2.2.2.2.2.2.2.2.2.1
theorem dX5_tellOnce_18 : decode cX5_tellOnce 18 = .ok (.aload_n 0, 1) := dg_a109.2.2.2.2.2.2.2.2.2.2.1
theorem dX5_tellOnce_19 : decode cX5_tellOnce 19 = .ok (.dup, 1) := dg_a109.2.2.2.2.2.2.2.2.2.2.2.1
theorem dX5_tellOnce_20 : decode cX5_tellOnce 20 = .ok (.getfield 35, 3) := dg_a109.2.2.2.2.2.2.2.2.2.2.2.2.1
theorem dX5_tellOnce_23 : decode cX5_tellOnce 23 = .ok (.iload_n 1, 1) := dg_a109.2.2.2.2.2.2.2.2.2.2.2.2.2.1
theorem dX5_tellOnce_24 : decode cX5_tellOnce 24 = .ok (.ior, 1) := dg_a109.2.2.2.2.2.2.2.2.2.2.2.2.2.2.1
theorem dX5_tellOnce_25 : decode cX5_tellOnce 25 = .ok (.putfield 35, 3) := dg_a109.2.2.2.2.2.2.2.2.2.2.2.2.2.2.2
theorem dX5_tellOnce_28 : decode cX5_tellOnce 28 = .ok (.return_, 1) := by decide +kernel
theorem dg_a110 : (decode cX5_takeNumber 0 = .ok (.aload_n 0, 1)) ∧ (decode cX5_takeNumber 1 = .ok (.invokevirtual 41, 3)) ∧ (decode cX5_takeNumber 4 = .ok (.aload_n 0, 1)) ∧ (decode cX5_takeNumber 5 = .ok (.iconst 2, 1)) ∧ (decode cX5_takeNumber 6 = .ok (.invokevirtual 187, 3)) ∧ (decode cX5_takeNumber 9 = .ok (.aload_n 0, 1)) ∧ (decode cX5_takeNumber 10 = .ok (.iload_n 1, 1)) ∧ (decode cX5_takeNumber 11 = .ok (.iload_n 2, 1)) ∧ (decode cX5_takeNumber 12 = .ok (.invokevirtual 178, 3)) ∧ (decode cX5_takeNumber 15 = .ok (.aload_n 0, 1)) ∧ (decode cX5_takeNumber 16 = .ok (.getfield 29, 3)) ∧ (decode cX5_takeNumber 19 = .ok (.ifCond .ne 10, 3)) ∧ (decode cX5_takeNumber 22 = .ok (.aload_n 0, 1)) ∧ (decode cX5_takeNumber 23 = .ok (.getfield 181, 3)) ∧ (decode cX5_takeNumber 26 = .ok (.goto 4, 3)) ∧ (decode cX5_takeNumber 29 = .ok (.iload_n 1, 1)) := by decide +kernel
theorem dX5_takeNumber_0 : decode cX5_takeNumber 0 = .ok (.aload_n 0, 1) := dg_a110.1
theorem dX5_takeNumber_1 : decode cX5_takeNumber 1 = .ok (.invokevirtual 41, 3) := dg_a110.2.1
theorem dX5_takeNumber_4 : decode cX5_takeNumber 4 = .ok (.aload_n 0, 1) := dg_a110.2.2.1
theorem dX5_takeNumber_5 : decode cX5_takeNumber 5 = .ok (.iconst 2, 1) := dg_a110.2.2.2.1
theorem dX5_takeNumber_6 : decode cX5_takeNumber 6 = .ok (.invokevirtual 187, 3) := dg_a110.2.2.2.2.1
theorem dX5_takeNumber_9 : decode cX5_takeNumber 9 = .ok (.aload_n 0, 1) := dg_a110.2.2.2.2.2.1
theorem dX5_takeNumber_10 : decode cX5_takeNumber 10 = .ok (.iload_n 1, 1) := dg_a110.2.2.2.2.2.2.1
theorem dX5_takeNumber_11 : decode cX5_takeNumber 11 = .ok (.iload_n 2, 1) := dg_a110.2.2.2.2.2.2.2.1
theorem dX5_takeNumber_12 : decode cX5_takeNumber 12 = .ok (.invokevirtual 178, 3) := dg_a110.2.2.2.2.2.2.2.2.1
theorem dX5_takeNumber_15 : decode cX5_takeNumber 15 = .ok (.aload_n 0, 1) := dg_a110.2.2.2.2.2.2.2.2.2.1
theorem dX5_takeNumber_16 : decode cX5_takeNumber 16 = .ok (.getfield 29, 3) := dg_a110.2.2.2.2.2.2.2.2.2.2.1
theorem dX5_takeNumber_19 : decode cX5_takeNumber 19 = .ok (.ifCond .ne 10, 3) := dg_a110.2.2.2.2.2.2.2.2.2.2.2.1
theorem dX5_takeNumber_22 : decode cX5_takeNumber 22 = .ok (.aload_n 0, 1) := dg_a110.2.2.2.2.2.2.2.2.2.2.2.2.1
theorem dX5_takeNumber_23 : decode cX5_takeNumber 23 = .ok (.getfield 181, 3) := dg_a110.2.2.2.2.2.2.2.2.2.2.2.2.2.1
theorem dX5_takeNumber_26 : decode cX5_takeNumber 26 = .ok (.goto 4, 3) := dg_a110.2.2.2.2.2.2.2.2.2.2.2.2.2.2.1
theorem dX5_takeNumber_29 : decode cX5_takeNumber 29 = .ok (.iload_n 1, 1) := dg_a110.2.2.2.2.2.2.2.2.2.2.2.2.2.2.2
theorem dX5_takeNumber_30 : decode cX5_takeNumber 30 = .ok (.ireturn, 1) := by decide +kernel
theorem dg_a111 : (decode cX5_takeStop 0 = .ok (.aload_n 0, 1)) ∧ (decode cX5_takeStop 1 = .ok (.invokevirtual 41, 3)) ∧ (decode cX5_takeStop 4 = .ok (.aload_n 0, 1)) ∧ (decode cX5_takeStop 5 = .ok (.iconst 3, 1)) ∧ (decode cX5_takeStop 6 = .ok (.invokevirtual 187, 3)) ∧ (decode cX5_takeStop 9 = .ok (.return_, 1)) := by decide +kernel
theorem dX5_takeStop_0 : decode cX5_takeStop 0 = .ok (.aload_n 0, 1) := dg_a111.1
theorem dX5_takeStop_1 : decode cX5_takeStop 1 = .ok (.invokevirtual 41, 3) := dg_a111.2.1
theorem dX5_takeStop_4 : decode cX5_takeStop 4 = .ok (.aload_n 0, 1) := dg_a111.2.2.1
theorem dX5_takeStop_5 : decode cX5_takeStop 5 = .ok (.iconst 3, 1) := dg_a111.2.2.2.1
theorem dX5_takeStop_6 : decode cX5_takeStop 6 = .ok (.invokevirtual 187, 3) := dg_a111.2.2.2.2.1
theorem dX5_takeStop_9 : decode cX5_takeStop 9 = .ok (.return_, 1) := dg_a111.2.2.2.2.2
theorem dg_a112 : (decode cX5_need 0 = .ok (.aload_n 0, 1)) ∧ (decode cX5_need 1 = .ok (.getfield 44, 3)) ∧ (decode cX5_need 4 = .ok (.iload_n 1, 1)) ∧ (decode cX5_need 5 = .ok (.if_icmp .eq 12, 3)) ∧ (decode cX5_need 8 = .ok (.aload_n 0, 1)) ∧ (decode cX5_need 9 = .ok (.iconst 2, 1)) ∧ (decode cX5_need 10 = .ok (.aload_n 0, 1)) := by decide +kernel
theorem dX5_need_0 : decode cX5_need 0 = .ok (.aload_n 0, 1) := dg_a112.1
theorem dX5_need_1 : decode cX5_need 1 = .ok (.getfield 44, 3) := dg_a112.2.1
theorem dX5_need_4 : decode cX5_need 4 = .ok (.iload_n 1, 1) := dg_a112.2.2.1
theorem dX5_need_5 : decode cX5_need 5 = .ok (.if_icmp .eq 12, 3) := dg_a112.2.2.2.1
theorem dX5_need_8 : decode cX5_need 8 = .ok (.aload_n 0, 1) := dg_a112.2.2.2.2.1
theorem dX5_need_9 : decode cX5_need 9 = .ok (.iconst 2, 1) := dg_a112.2.2.2.2.2.1
theorem dX5_need_10 : decode cX5_need 10 = .ok (.aload_n 0, 1) := dg_a112.2.2.2.2.2.2
