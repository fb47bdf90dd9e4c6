def Z_7 : St := vz [(fun _ => 0), Z_5.1 0, Z_5.1 1, Z_5.1 2, Z_5.1 3, Z_5.1 4, Z_5.1 5, Z_5.1 6, Z_5.1 7, Z_5.1 8, Z_5.1 9, Z_5.1 10, Z_0.1 0, Z_0.1 1, Z_0.1 2, Z_0.1 3, Z_0.1 4, Z_0.1 5, Z_0.1 6, Z_0.1 7, Z_0.1 8, Z_6.1 0, Z_6.1 1, Z_6.1 2, Z_6.1 3, Z_6.1 4, Z_6.1 5, Z_6.1 6, Z_6.1 7, Z_6.1 8, Z_6.1 9, Z_6.1 10, Z_3.1 0, Z_3.1 1, Z_3.1 2, Z_3.1 3, Z_3.1 4, Z_3.1 5, Z_3.1 6, Z_3.1 7, Z_3.1 8, Z_1.1 0, Z_1.1 1, Z_1.1 2, Z_1.1 3, Z_1.1 4, Z_1.1 5, Z_1.1 6, Z_1.1 7, Z_1.1 8, Z_1.1 9, Z_1.1 10, Z_1.1 11, Z_1.1 12, Z_1.1 13, Z_1.1 14, Z_1.1 15, Z_1.1 16, Z_1.1 17, Z_1.1 18, Z_1.1 19, Z_2.1 0, (fun _ => 0), (fun _ => 0), (fun _ => 0), Z_0.1 0, Z_0.1 1, Z_0.1 2, Z_0.1 3, Z_0.1 4, Z_0.1 5, Z_0.1 6, Z_0.1 7, Z_0.1 8, Z_0.1 0, Z_0.1 1, Z_0.1 2, Z_0.1 3, Z_0.1 4, Z_0.1 5, Z_0.1 6, Z_0.1 7, Z_0.1 8, Z_4.1 0, Z_4.1 1, Z_4.1 0, Z_4.1 1, Z_4.1 0, Z_4.1 1, Z_4.1 0, Z_4.1 1]
set_option maxHeartbeats 4000000 in
set_option maxRecDepth 100000 in
theorem k_X7 (l : Launch) (D : va_G) (cy : Nat → ClassId) (sa sv : Nat → Nat) (b0 h0 sz : Nat) : CK D cy sa sv b0 l yX7_init (wsy yX7_init prog_1_method_1_code 2 none) (rmK 4 90 815) h0 sz (7, f0_7) 91 (kz ks7) 90 815 Z_7 := by
  refine CK.of prog_1_method_1_code 2 "StarWalk" (by decide +kernel) rfl rfl (by exact Nat.le_of_ble_eq_true rfl) ?_
  intro p e s m args below meth c ls S hX hb0 hP hD hr hlk hnmI hl hsz
  have hx := S.1
  have hb := S.2.1
  have hK := hX.1
  have hA : ∀ q, s.heap.size ≤ q → Ak h0 s.heap.size q := fun q h => Or.inr h
  have hAb := Ak.b hX hb0
  have hS : va_S (Ak h0 s.heap.size) s.heap s.heap [] := va_S.rf
  refine lv_aload_n hx hb dX7_init_0 rfl (lv_at hl 0 rfl) ?_
  refine W.objInit hx hb S.2.2.2.1 (Sw S mw_1_22 rfl) (Sw S mw_1_23 rfl) (Sw S mw_1_24 rfl) rfl (by rw [S.2.2.1]; exact hl.1) rfl dX7_init_1 (by exact Nat.le_of_ble_eq_true rfl) (by exact Nat.le_of_ble_eq_true rfl) ?_
  refine W.eq (g2 := F0 m 4 ls []) rfl ?_
  refine lv_aload_n hx hb dX7_init_4 rfl (lv_at hl 0 rfl) ?_
  refine nOk S hK hin5 tyX5 tyX5_ok mw_1_25 mw_1_26 mw_1_2 (ci := 5) rfl f0h_5 hP hD hS hA (by exact Nat.le_of_ble_eq_true rfl) (by exact Nat.le_of_ble_eq_true rfl) dX7_init_5 (fun q1 H hP9 hD9 hS9 => ?_)
  refine lv_dup hx hb dX7_init_8 rfl ?_
  refine kNk S hX hAb hP9 hD9 hS9 hA (k_X5 l D cy sa sv b0 q1 H.size) (hX.2.2.1.1.1) mw_1_28 mw_1_2 mw_1_29 rfl rfl rfl (by decide +kernel) ⟨by decide, by decide⟩ hl.1 (by exact Nat.le_of_ble_eq_true rfl) dX7_init_9 ⟨(by exact Nat.le_of_ble_eq_true rfl), (by exact Nat.le_of_ble_eq_true rfl)⟩ (fun u2 H lo hw3 hu4 hP hD hS => ?_)
  subst hu4
  refine pFk S hK hin7 tyX7 tyX7_ok nmX7 (ci := 7) rfl 0 (by decide) mw_2_68 rfl rfl rfl rfl rfl hnmI (ty := (.object "StarWalk$Tape")) (by decide +kernel) rfl rfl (by exact Nat.le_of_ble_eq_true rfl) hP hD hS dX7_init_12 (fun H lo hP hD hS => ?_)
  refine lv_aload_n hx hb dX7_init_15 rfl (lv_at hl 0 rfl) ?_
  refine nOk S hK hin0 tyX0 tyX0_ok mw_1_204 mw_1_32 mw_1_3 (ci := 0) rfl f0h_0 hP hD hS hA (by exact Nat.le_of_ble_eq_true rfl) (by exact Nat.le_of_ble_eq_true rfl) dX7_init_16 (fun q5 H hP9 hD9 hS9 => ?_)
  refine lv_dup hx hb dX7_init_19 rfl ?_
  refine kIk S hX hAb hP9 hD9 hS9 hA (k_X0 l D cy sa sv b0 q5 H.size) mw_1_205 mw_1_34 mw_1_3 mw_1_35 rfl rfl rfl (by decide +kernel) ⟨by decide, by decide⟩ hl.1 (by exact Nat.le_of_ble_eq_true rfl) dX7_init_20 ⟨(by exact Nat.le_of_ble_eq_true rfl), (by exact Nat.le_of_ble_eq_true rfl)⟩ (fun u6 H lo hw7 hu8 hP hD hS => ?_)
  subst hu8
  refine pFk S hK hin7 tyX7 tyX7_ok nmX7 (ci := 7) rfl 1 (by decide) mw_2_69 rfl rfl rfl rfl rfl hnmI (ty := (.object "StarWalk$Night")) (by decide +kernel) rfl rfl (by exact Nat.le_of_ble_eq_true rfl) hP hD hS dX7_init_23 (fun H lo hP hD hS => ?_)
  refine lv_aload_n hx hb dX7_init_26 rfl (lv_at hl 0 rfl) ?_
  refine nOk S hK hin6 tyX6 tyX6_ok mw_1_206 mw_1_207 mw_1_5 (ci := 6) rfl f0h_6 hP hD hS hA (by exact Nat.le_of_ble_eq_true rfl) (by exact Nat.le_of_ble_eq_true rfl) dX7_init_27 (fun q9 H hP9 hD9 hS9 => ?_)
  refine lv_dup hx hb dX7_init_30 rfl ?_
  refine kNk S hX hAb hP9 hD9 hS9 hA (k_X6 l D cy sa sv b0 q9 H.size) (hX.2.2.1.1.2.2.1) mw_1_209 mw_1_5 mw_1_210 rfl rfl rfl (by decide +kernel) ⟨by decide, by decide⟩ hl.1 (by exact Nat.le_of_ble_eq_true rfl) dX7_init_31 ⟨(by exact Nat.le_of_ble_eq_true rfl), (by exact Nat.le_of_ble_eq_true rfl)⟩ (fun u10 H lo hw11 hu12 hP hD hS => ?_)
  subst hu12
  refine pFk S hK hin7 tyX7 tyX7_ok nmX7 (ci := 7) rfl 2 (by decide) mw_2_70 rfl rfl rfl rfl rfl hnmI (ty := (.object "StarWalk$Trial")) (by decide +kernel) rfl rfl (by exact Nat.le_of_ble_eq_true rfl) hP hD hS dX7_init_34 (fun H lo hP hD hS => ?_)
  refine lv_aload_n hx hb dX7_init_37 rfl (lv_at hl 0 rfl) ?_
  refine nOk S hK hin3 tyX3 tyX3_ok mw_1_230 mw_1_231 mw_1_6 (ci := 3) rfl f0h_3 hP hD hS hA (by exact Nat.le_of_ble_eq_true rfl) (by exact Nat.le_of_ble_eq_true rfl) dX7_init_38 (fun q13 H hP9 hD9 hS9 => ?_)
  refine lv_dup hx hb dX7_init_41 rfl ?_
  refine kIk S hX hAb hP9 hD9 hS9 hA (k_X3 l D cy sa sv b0 q13 H.size) mw_1_232 mw_1_233 mw_1_6 mw_1_234 rfl rfl rfl (by decide +kernel) ⟨by decide, by decide⟩ hl.1 (by exact Nat.le_of_ble_eq_true rfl) dX7_init_42 ⟨(by exact Nat.le_of_ble_eq_true rfl), (by exact Nat.le_of_ble_eq_true rfl)⟩ (fun u14 H lo hw15 hu16 hP hD hS => ?_)
  subst hu16
  refine pFk S hK hin7 tyX7 tyX7_ok nmX7 (ci := 7) rfl 3 (by decide) mw_2_71 rfl rfl rfl rfl rfl hnmI (ty := (.object "StarWalk$Search")) (by decide +kernel) rfl rfl (by exact Nat.le_of_ble_eq_true rfl) hP hD hS dX7_init_45 (fun H lo hP hD hS => ?_)
  refine lv_aload_n hx hb dX7_init_48 rfl (lv_at hl 0 rfl) ?_
  refine nOk S hK hin1 tyX1 tyX1_ok mw_2_21 mw_2_22 mw_1_7 (ci := 1) rfl f0h_1 hP hD hS hA (by exact Nat.le_of_ble_eq_true rfl) (by exact Nat.le_of_ble_eq_true rfl) dX7_init_49 (fun q17 H hP9 hD9 hS9 => ?_)
  refine lv_dup hx hb dX7_init_52 rfl ?_
  refine kIk S hX hAb hP9 hD9 hS9 hA (k_X1 l D cy sa sv b0 q17 H.size) mw_2_23 mw_2_24 mw_1_7 mw_2_25 rfl rfl rfl (by decide +kernel) ⟨by decide, by decide⟩ hl.1 (by exact Nat.le_of_ble_eq_true rfl) dX7_init_53 ⟨(by exact Nat.le_of_ble_eq_true rfl), (by exact Nat.le_of_ble_eq_true rfl)⟩ (fun u18 H lo hw19 hu20 hP hD hS => ?_)
  subst hu20
  refine pFk S hK hin7 tyX7 tyX7_ok nmX7 (ci := 7) rfl 4 (by decide) mw_2_72 rfl rfl rfl rfl rfl hnmI (ty := (.object "StarWalk$Odds")) (by decide +kernel) rfl rfl (by exact Nat.le_of_ble_eq_true rfl) hP hD hS dX7_init_56 (fun H lo hP hD hS => ?_)
  refine lv_aload_n hx hb dX7_init_59 rfl (lv_at hl 0 rfl) ?_
  refine nOk S hK hin2 tyX2 tyX2_ok mw_2_44 mw_1_38 mw_1_4 (ci := 2) rfl f0h_2 hP hD hS hA (by exact Nat.le_of_ble_eq_true rfl) (by exact Nat.le_of_ble_eq_true rfl) dX7_init_60 (fun q21 H hP9 hD9 hS9 => ?_)
  refine lv_dup hx hb dX7_init_63 rfl ?_
  refine kNk S hX hAb hP9 hD9 hS9 hA (k_X2 l D cy sa sv b0 q21 H.size) (hX.2.2.1.1.2.2.2.2.2.1) mw_1_40 mw_1_4 mw_1_41 rfl rfl rfl (by decide +kernel) ⟨by decide, by decide⟩ hl.1 (by exact Nat.le_of_ble_eq_true rfl) dX7_init_64 ⟨(by exact Nat.le_of_ble_eq_true rfl), (by exact Nat.le_of_ble_eq_true rfl)⟩ (fun u22 H lo hw23 hu24 hP hD hS => ?_)
  subst hu24
  refine pFk S hK hin7 tyX7 tyX7_ok nmX7 (ci := 7) rfl 5 (by decide) mw_2_73 rfl rfl rfl rfl rfl hnmI (ty := (.object "StarWalk$Place")) (by decide +kernel) rfl rfl (by exact Nat.le_of_ble_eq_true rfl) hP hD hS dX7_init_67 (fun H lo hP hD hS => ?_)
  refine lv_aload_n hx hb dX7_init_70 rfl (lv_at hl 0 rfl) ?_
  refine lv_iconst (v := 2) hx hb dX7_init_71 (by decide) ?_
  refine nQNightk S hK mw_1_204 hX.2.1 (by decide) (N' := 2) (by rfl) (by decide) hP hD hS hA (by exact Nat.le_of_ble_eq_true rfl) (by exact Nat.le_of_ble_eq_true rfl) dX7_init_72 (fun q25 H hP hD hS => ?_)
  refine pFk S hK hin7 tyX7 tyX7_ok nmX7 (ci := 7) rfl 6 (by decide) mw_2_74 rfl rfl rfl rfl rfl hnmI (ty := (.array (.object "StarWalk$Night"))) (by decide +kernel) rfl rfl (by exact Nat.le_of_ble_eq_true rfl) hP hD hS dX7_init_75 (fun H lo hP hD hS => ?_)
  refine lv_aload_n hx hb dX7_init_78 rfl (lv_at hl 0 rfl) ?_
  refine lv_iconst (v := 2) hx hb dX7_init_79 (by decide) ?_
  refine nAZk S hK (by decide) (N' := 2) (by rfl) (by decide) hP hD hS hA (by exact Nat.le_of_ble_eq_true rfl) (by exact Nat.le_of_ble_eq_true rfl) dX7_init_80 (fun q26 H hP hD hS => ?_)
  refine pFk S hK hin7 tyX7 tyX7_ok nmX7 (ci := 7) rfl 7 (by decide) mw_2_75 rfl rfl rfl rfl rfl hnmI (ty := (.array .boolean)) (by decide +kernel) rfl rfl (by exact Nat.le_of_ble_eq_true rfl) hP hD hS dX7_init_82 (fun H lo hP hD hS => ?_)
  refine lv_aload_n hx hb dX7_init_85 rfl (lv_at hl 0 rfl) ?_
  refine lv_iconst (v := 4) hx hb dX7_init_86 (by decide) ?_
  refine nQSheetk S hK mw_2_47 hX.2.1 (by decide) (N' := 4) (by rfl) (by decide) hP hD hS hA (by exact Nat.le_of_ble_eq_true rfl) (by exact Nat.le_of_ble_eq_true rfl) dX7_init_87 (fun q27 H hP hD hS => ?_)
  refine pFk S hK hin7 tyX7 tyX7_ok nmX7 (ci := 7) rfl 8 (by decide) mw_2_76 rfl rfl rfl rfl rfl hnmI (ty := (.array (.object "StarWalk$Sheet"))) (by decide +kernel) rfl rfl (by exact Nat.le_of_ble_eq_true rfl) hP hD hS dX7_init_90 (fun H lo hP hD hS => ?_)
  rw [shA] at hP hD
  refine lv_iconst (v := 0) hx hb dX7_init_93 (by decide) ?_
  refine lv_istore_n (lv' := [(1, .int 0), (0, .ref h0)]) hx hb dX7_init_94 rfl hl (by decide) rfl (fun ls hl => ?_)
  refine lv_iload_n hx hb dX7_init_95 rfl (lv_at hl 0 rfl) ?_
  refine lv_iconst (v := 2) hx hb dX7_init_96 (by decide) ?_
  refine lv_icmp_ge hx hb (tgt := 119) dX7_init_97 (by decide) (fun h => absurd h (by decide)) (fun _ => ?_)
  refine lv_aload_n hx hb dX7_init_100 rfl (lv_at hl 1 rfl) ?_
  refine gFk S hK hin7 (ci := 7) rfl 6 (by decide) mw_2_74 rfl rfl rfl hP (v := .ref q25) rfl dX7_init_101 ?_
  refine lv_iload_n hx hb dX7_init_104 rfl (lv_at hl 0 rfl) ?_
  refine nOk S hK hin0 tyX0 tyX0_ok mw_1_204 mw_1_32 mw_1_3 (ci := 0) rfl f0h_0 hP hD hS hA (by exact Nat.le_of_ble_eq_true rfl) (by exact Nat.le_of_ble_eq_true rfl) dX7_init_105 (fun q28 H hP9 hD9 hS9 => ?_)
  refine lv_dup hx hb dX7_init_108 rfl ?_
  refine kIk S hX hAb hP9 hD9 hS9 hA (k_X0 l D cy sa sv b0 q28 H.size) mw_1_205 mw_1_34 mw_1_3 mw_1_35 rfl rfl rfl (by decide +kernel) ⟨by decide, by decide⟩ hl.1 (by exact Nat.le_of_ble_eq_true rfl) dX7_init_109 ⟨(by exact Nat.le_of_ble_eq_true rfl), (by exact Nat.le_of_ble_eq_true rfl)⟩ (fun u29 H lo hw30 hu31 hP hD hS => ?_)
  subst hu31
  refine aSk S hK hP hD hS 3 rfl (ci := 0) (w1 := wd (D, cy, 9, u29.1, kz ks0, sa, sv) u29.2) rfl rfl (i := 0) (j := 0) (vp_in_iff.mpr (by decide)) rfl dX7_init_112 (fun H lo hP hD hS => ?_)
  refine lv_iinc (v := 1) (lv' := [(1, .int 1), (0, .ref h0)]) hx hb dX7_init_113 hl (k := 0) rfl (by decide) (by decide) rfl (fun ls hl => ?_)
  refine lv_goto (tgt := 95) hx hb dX7_init_116 (by decide) ?_
  refine lv_iload_n hx hb dX7_init_95 rfl (lv_at hl 0 rfl) ?_
  refine lv_iconst (v := 2) hx hb dX7_init_96 (by decide) ?_
  refine lv_icmp_ge hx hb (tgt := 119) dX7_init_97 (by decide) (fun h => absurd h (by decide)) (fun _ => ?_)
  refine lv_aload_n hx hb dX7_init_100 rfl (lv_at hl 1 rfl) ?_
  refine gFk S hK hin7 (ci := 7) rfl 6 (by decide) mw_2_74 rfl rfl rfl hP (v := .ref q25) rfl dX7_init_101 ?_
  refine lv_iload_n hx hb dX7_init_104 rfl (lv_at hl 0 rfl) ?_
  refine nOk S hK hin0 tyX0 tyX0_ok mw_1_204 mw_1_32 mw_1_3 (ci := 0) rfl f0h_0 hP hD hS hA (by exact Nat.le_of_ble_eq_true rfl) (by exact Nat.le_of_ble_eq_true rfl) dX7_init_105 (fun q32 H hP9 hD9 hS9 => ?_)
  refine lv_dup hx hb dX7_init_108 rfl ?_
  refine kIk S hX hAb hP9 hD9 hS9 hA (k_X0 l D cy sa sv b0 q32 H.size) mw_1_205 mw_1_34 mw_1_3 mw_1_35 rfl rfl rfl (by decide +kernel) ⟨by decide, by decide⟩ hl.1 (by exact Nat.le_of_ble_eq_true rfl) dX7_init_109 ⟨(by exact Nat.le_of_ble_eq_true rfl), (by exact Nat.le_of_ble_eq_true rfl)⟩ (fun u33 H lo hw34 hu35 hP hD hS => ?_)
  subst hu35
  refine aSk S hK hP hD hS 3 rfl (ci := 0) (w1 := wd (D, cy, 9, u33.1, kz ks0, sa, sv) u33.2) rfl rfl (i := 1) (j := 1) (vp_in_iff.mpr (by decide)) rfl dX7_init_112 (fun H lo hP hD hS => ?_)
  refine lv_iinc (v := 2) (lv' := [(1, .int 2), (0, .ref h0)]) hx hb dX7_init_113 hl (k := 0) rfl (by decide) (by decide) rfl (fun ls hl => ?_)
  refine lv_goto (tgt := 95) hx hb dX7_init_116 (by decide) ?_
  refine lv_iload_n hx hb dX7_init_95 rfl (lv_at hl 0 rfl) ?_
  refine lv_iconst (v := 2) hx hb dX7_init_96 (by decide) ?_
  refine lv_icmp_ge hx hb (tgt := 119) dX7_init_97 (by decide) (fun _ => ?_) (fun h => absurd (by decide) h)
  refine lv_iconst (v := 0) hx hb dX7_init_119 (by decide) ?_
  refine lv_istore_n (lv' := [(1, .int 0), (0, .ref h0)]) hx hb dX7_init_120 rfl hl (by decide) rfl (fun ls hl => ?_)
  refine lv_iload_n hx hb dX7_init_121 rfl (lv_at hl 0 rfl) ?_
  refine lv_iconst (v := 4) hx hb dX7_init_122 (by decide) ?_
  refine lv_icmp_ge hx hb (tgt := 145) dX7_init_123 (by decide) (fun h => absurd h (by decide)) (fun _ => ?_)
  refine lv_aload_n hx hb dX7_init_126 rfl (lv_at hl 1 rfl) ?_
  rw [shB] at hP hD
  refine gFk S hK hin7 (ci := 7) rfl 8 (by decide) mw_2_76 rfl rfl rfl hP (v := .ref q27) rfl dX7_init_127 ?_
  refine lv_iload_n hx hb dX7_init_130 rfl (lv_at hl 0 rfl) ?_
  refine nOk S hK hin4 tyX4 tyX4_ok mw_2_47 mw_2_49 mw_1_8 (ci := 4) rfl f0h_4 hP hD hS hA (by exact Nat.le_of_ble_eq_true rfl) (by exact Nat.le_of_ble_eq_true rfl) dX7_init_131 (fun q36 H hP9 hD9 hS9 => ?_)
  refine lv_dup hx hb dX7_init_134 rfl ?_
  refine kNk S hX hAb hP9 hD9 hS9 hA (k_X4 l D cy sa sv b0 q36 H.size) (hX.2.2.1.1.2.2.2.2.2.2.1) mw_2_51 mw_1_8 mw_2_52 rfl rfl rfl (by decide +kernel) ⟨by decide, by decide⟩ hl.1 (by exact Nat.le_of_ble_eq_true rfl) dX7_init_135 ⟨(by exact Nat.le_of_ble_eq_true rfl), (by exact Nat.le_of_ble_eq_true rfl)⟩ (fun u37 H lo hw38 hu39 hP hD hS => ?_)
  subst hu39
  refine aSk S hK hP hD hS 5 rfl (ci := 4) (w1 := wd (D, cy, 2, u37.1, kz ks4, sa, sv) u37.2) rfl rfl (i := 0) (j := 0) (vp_in_iff.mpr (by decide)) rfl dX7_init_138 (fun H lo hP hD hS => ?_)
  refine lv_iinc (v := 1) (lv' := [(1, .int 1), (0, .ref h0)]) hx hb dX7_init_139 hl (k := 0) rfl (by decide) (by decide) rfl (fun ls hl => ?_)
  refine lv_goto (tgt := 121) hx hb dX7_init_142 (by decide) ?_
  refine lv_iload_n hx hb dX7_init_121 rfl (lv_at hl 0 rfl) ?_
  refine lv_iconst (v := 4) hx hb dX7_init_122 (by decide) ?_
  refine lv_icmp_ge hx hb (tgt := 145) dX7_init_123 (by decide) (fun h => absurd h (by decide)) (fun _ => ?_)
  refine lv_aload_n hx hb dX7_init_126 rfl (lv_at hl 1 rfl) ?_
  refine gFk S hK hin7 (ci := 7) rfl 8 (by decide) mw_2_76 rfl rfl rfl hP (v := .ref q27) rfl dX7_init_127 ?_
  refine lv_iload_n hx hb dX7_init_130 rfl (lv_at hl 0 rfl) ?_
  refine nOk S hK hin4 tyX4 tyX4_ok mw_2_47 mw_2_49 mw_1_8 (ci := 4) rfl f0h_4 hP hD hS hA (by exact Nat.le_of_ble_eq_true rfl) (by exact Nat.le_of_ble_eq_true rfl) dX7_init_131 (fun q40 H hP9 hD9 hS9 => ?_)
  refine lv_dup hx hb dX7_init_134 rfl ?_
  refine kNk S hX hAb hP9 hD9 hS9 hA (k_X4 l D cy sa sv b0 q40 H.size) (hX.2.2.1.1.2.2.2.2.2.2.1) mw_2_51 mw_1_8 mw_2_52 rfl rfl rfl (by decide +kernel) ⟨by decide, by decide⟩ hl.1 (by exact Nat.le_of_ble_eq_true rfl) dX7_init_135 ⟨(by exact Nat.le_of_ble_eq_true rfl), (by exact Nat.le_of_ble_eq_true rfl)⟩ (fun u41 H lo hw42 hu43 hP hD hS => ?_)
  subst hu43
  refine aSk S hK hP hD hS 5 rfl (ci := 4) (w1 := wd (D, cy, 2, u41.1, kz ks4, sa, sv) u41.2) rfl rfl (i := 1) (j := 1) (vp_in_iff.mpr (by decide)) rfl dX7_init_138 (fun H lo hP hD hS => ?_)
  refine lv_iinc (v := 2) (lv' := [(1, .int 2), (0, .ref h0)]) hx hb dX7_init_139 hl (k := 0) rfl (by decide) (by decide) rfl (fun ls hl => ?_)
  refine lv_goto (tgt := 121) hx hb dX7_init_142 (by decide) ?_
  refine lv_iload_n hx hb dX7_init_121 rfl (lv_at hl 0 rfl) ?_
  refine lv_iconst (v := 4) hx hb dX7_init_122 (by decide) ?_
  refine lv_icmp_ge hx hb (tgt := 145) dX7_init_123 (by decide) (fun h => absurd h (by decide)) (fun _ => ?_)
  refine lv_aload_n hx hb dX7_init_126 rfl (lv_at hl 1 rfl) ?_
  refine gFk S hK hin7 (ci := 7) rfl 8 (by decide) mw_2_76 rfl rfl rfl hP (v := .ref q27) rfl dX7_init_127 ?_
  refine lv_iload_n hx hb dX7_init_130 rfl (lv_at hl 0 rfl) ?_
  refine nOk S hK hin4 tyX4 tyX4_ok mw_2_47 mw_2_49 mw_1_8 (ci := 4) rfl f0h_4 hP hD hS hA (by exact Nat.le_of_ble_eq_true rfl) (by exact Nat.le_of_ble_eq_true rfl) dX7_init_131 (fun q44 H hP9 hD9 hS9 => ?_)
  refine lv_dup hx hb dX7_init_134 rfl ?_
  refine kNk S hX hAb hP9 hD9 hS9 hA (k_X4 l D cy sa sv b0 q44 H.size) (hX.2.2.1.1.2.2.2.2.2.2.1) mw_2_51 mw_1_8 mw_2_52 rfl rfl rfl (by decide +kernel) ⟨by decide, by decide⟩ hl.1 (by exact Nat.le_of_ble_eq_true rfl) dX7_init_135 ⟨(by exact Nat.le_of_ble_eq_true rfl), (by exact Nat.le_of_ble_eq_true rfl)⟩ (fun u45 H lo hw46 hu47 hP hD hS => ?_)
  subst hu47
  refine aSk S hK hP hD hS 5 rfl (ci := 4) (w1 := wd (D, cy, 2, u45.1, kz ks4, sa, sv) u45.2) rfl rfl (i := 2) (j := 2) (vp_in_iff.mpr (by decide)) rfl dX7_init_138 (fun H lo hP hD hS => ?_)
  refine lv_iinc (v := 3) (lv' := [(1, .int 3), (0, .ref h0)]) hx hb dX7_init_139 hl (k := 0) rfl (by decide) (by decide) rfl (fun ls hl => ?_)
  refine lv_goto (tgt := 121) hx hb dX7_init_142 (by decide) ?_
  refine lv_iload_n hx hb dX7_init_121 rfl (lv_at hl 0 rfl) ?_
  refine lv_iconst (v := 4) hx hb dX7_init_122 (by decide) ?_
  refine lv_icmp_ge hx hb (tgt := 145) dX7_init_123 (by decide) (fun h => absurd h (by decide)) (fun _ => ?_)
  refine lv_aload_n hx hb dX7_init_126 rfl (lv_at hl 1 rfl) ?_
  refine gFk S hK hin7 (ci := 7) rfl 8 (by decide) mw_2_76 rfl rfl rfl hP (v := .ref q27) rfl dX7_init_127 ?_
  refine lv_iload_n hx hb dX7_init_130 rfl (lv_at hl 0 rfl) ?_
  refine nOk S hK hin4 tyX4 tyX4_ok mw_2_47 mw_2_49 mw_1_8 (ci := 4) rfl f0h_4 hP hD hS hA (by exact Nat.le_of_ble_eq_true rfl) (by exact Nat.le_of_ble_eq_true rfl) dX7_init_131 (fun q48 H hP9 hD9 hS9 => ?_)
  refine lv_dup hx hb dX7_init_134 rfl ?_
  refine kNk S hX hAb hP9 hD9 hS9 hA (k_X4 l D cy sa sv b0 q48 H.size) (hX.2.2.1.1.2.2.2.2.2.2.1) mw_2_51 mw_1_8 mw_2_52 rfl rfl rfl (by decide +kernel) ⟨by decide, by decide⟩ hl.1 (by exact Nat.le_of_ble_eq_true rfl) dX7_init_135 ⟨(by exact Nat.le_of_ble_eq_true rfl), (by exact Nat.le_of_ble_eq_true rfl)⟩ (fun u49 H lo hw50 hu51 hP hD hS => ?_)
  subst hu51
  refine aSk S hK hP hD hS 5 rfl (ci := 4) (w1 := wd (D, cy, 2, u49.1, kz ks4, sa, sv) u49.2) rfl rfl (i := 3) (j := 3) (vp_in_iff.mpr (by decide)) rfl dX7_init_138 (fun H lo hP hD hS => ?_)
  refine lv_iinc (v := 4) (lv' := [(1, .int 4), (0, .ref h0)]) hx hb dX7_init_139 hl (k := 0) rfl (by decide) (by decide) rfl (fun ls hl => ?_)
  refine lv_goto (tgt := 121) hx hb dX7_init_142 (by decide) ?_
  refine lv_iload_n hx hb dX7_init_121 rfl (lv_at hl 0 rfl) ?_
  refine lv_iconst (v := 4) hx hb dX7_init_122 (by decide) ?_
  refine lv_icmp_ge hx hb (tgt := 145) dX7_init_123 (by decide) (fun _ => ?_) (fun h => absurd (by decide) h)
  exact endK (Zc := Z_7) S hr hlk (qz [h0, u2.1 0, u2.1 1, u2.1 2, u2.1 3, u2.1 4, u2.1 5, u2.1 6, u2.1 7, u2.1 8, u2.1 9, u2.1 10, u6.1 0, u6.1 1, u6.1 2, u6.1 3, u6.1 4, u6.1 5, u6.1 6, u6.1 7, u6.1 8, u10.1 0, u10.1 1, u10.1 2, u10.1 3, u10.1 4, u10.1 5, u10.1 6, u10.1 7, u10.1 8, u10.1 9, u10.1 10, u14.1 0, u14.1 1, u14.1 2, u14.1 3, u14.1 4, u14.1 5, u14.1 6, u14.1 7, u14.1 8, u18.1 0, u18.1 1, u18.1 2, u18.1 3, u18.1 4, u18.1 5, u18.1 6, u18.1 7, u18.1 8, u18.1 9, u18.1 10, u18.1 11, u18.1 12, u18.1 13, u18.1 14, u18.1 15, u18.1 16, u18.1 17, u18.1 18, u18.1 19, u22.1 0, q25, q26, q27, u29.1 0, u29.1 1, u29.1 2, u29.1 3, u29.1 4, u29.1 5, u29.1 6, u29.1 7, u29.1 8, u33.1 0, u33.1 1, u33.1 2, u33.1 3, u33.1 4, u33.1 5, u33.1 6, u33.1 7, u33.1 8, u37.1 0, u37.1 1, u41.1 0, u41.1 1, u45.1 0, u45.1 1, u49.1 0, u49.1 1]) (vz [(fun _ => 0), u2.2.1 0, u2.2.1 1, u2.2.1 2, u2.2.1 3, u2.2.1 4, u2.2.1 5, u2.2.1 6, u2.2.1 7, u2.2.1 8, u2.2.1 9, u2.2.1 10, u6.2.1 0, u6.2.1 1, u6.2.1 2, u6.2.1 3, u6.2.1 4, u6.2.1 5, u6.2.1 6, u6.2.1 7, u6.2.1 8, u10.2.1 0, u10.2.1 1, u10.2.1 2, u10.2.1 3, u10.2.1 4, u10.2.1 5, u10.2.1 6, u10.2.1 7, u10.2.1 8, u10.2.1 9, u10.2.1 10, u14.2.1 0, u14.2.1 1, u14.2.1 2, u14.2.1 3, u14.2.1 4, u14.2.1 5, u14.2.1 6, u14.2.1 7, u14.2.1 8, u18.2.1 0, u18.2.1 1, u18.2.1 2, u18.2.1 3, u18.2.1 4, u18.2.1 5, u18.2.1 6, u18.2.1 7, u18.2.1 8, u18.2.1 9, u18.2.1 10, u18.2.1 11, u18.2.1 12, u18.2.1 13, u18.2.1 14, u18.2.1 15, u18.2.1 16, u18.2.1 17, u18.2.1 18, u18.2.1 19, u22.2.1 0, (fun _ => 0), (fun _ => 0), (fun _ => 0), u29.2.1 0, u29.2.1 1, u29.2.1 2, u29.2.1 3, u29.2.1 4, u29.2.1 5, u29.2.1 6, u29.2.1 7, u29.2.1 8, u33.2.1 0, u33.2.1 1, u33.2.1 2, u33.2.1 3, u33.2.1 4, u33.2.1 5, u33.2.1 6, u33.2.1 7, u33.2.1 8, u37.2.1 0, u37.2.1 1, u41.2.1 0, u41.2.1 1, u45.2.1 0, u45.2.1 1, u49.2.1 0, u49.2.1 1]) ⟨okz ks7 _ rfl (okc oz7 (okc (fun j => hw3.1 0 j) (okc (fun j => hw3.1 1 j) (okc (fun j => hw3.1 2 j) (okc (fun j => hw3.1 3 j) (okc (fun j => hw3.1 4 j) (okc (fun j => hw3.1 5 j) (okc (fun j => hw3.1 6 j) (okc (fun j => hw3.1 7 j) (okc (fun j => hw3.1 8 j) (okc (fun j => hw3.1 9 j) (okc (fun j => hw3.1 10 j) (okc (fun j => hw7.1 0 j) (okc (fun j => hw7.1 1 j) (okc (fun j => hw7.1 2 j) (okc (fun j => hw7.1 3 j) (okc (fun j => hw7.1 4 j) (okc (fun j => hw7.1 5 j) (okc (fun j => hw7.1 6 j) (okc (fun j => hw7.1 7 j) (okc (fun j => hw7.1 8 j) (okc (fun j => hw11.1 0 j) (okc (fun j => hw11.1 1 j) (okc (fun j => hw11.1 2 j) (okc (fun j => hw11.1 3 j) (okc (fun j => hw11.1 4 j) (okc (fun j => hw11.1 5 j) (okc (fun j => hw11.1 6 j) (okc (fun j => hw11.1 7 j) (okc (fun j => hw11.1 8 j) (okc (fun j => hw11.1 9 j) (okc (fun j => hw11.1 10 j) (okc (fun j => hw15.1 0 j) (okc (fun j => hw15.1 1 j) (okc (fun j => hw15.1 2 j) (okc (fun j => hw15.1 3 j) (okc (fun j => hw15.1 4 j) (okc (fun j => hw15.1 5 j) (okc (fun j => hw15.1 6 j) (okc (fun j => hw15.1 7 j) (okc (fun j => hw15.1 8 j) (okc (fun j => hw19.1 0 j) (okc (fun j => hw19.1 1 j) (okc (fun j => hw19.1 2 j) (okc (fun j => hw19.1 3 j) (okc (fun j => hw19.1 4 j) (okc (fun j => hw19.1 5 j) (okc (fun j => hw19.1 6 j) (okc (fun j => hw19.1 7 j) (okc (fun j => hw19.1 8 j) (okc (fun j => hw19.1 9 j) (okc (fun j => hw19.1 10 j) (okc (fun j => hw19.1 11 j) (okc (fun j => hw19.1 12 j) (okc (fun j => hw19.1 13 j) (okc (fun j => hw19.1 14 j) (okc (fun j => hw19.1 15 j) (okc (fun j => hw19.1 16 j) (okc (fun j => hw19.1 17 j) (okc (fun j => hw19.1 18 j) (okc (fun j => hw19.1 19 j) (okc (fun j => hw23.1 0 j) (okc oz20 (okc oz19 (okc oz23 (okc (fun j => hw30.1 0 j) (okc (fun j => hw30.1 1 j) (okc (fun j => hw30.1 2 j) (okc (fun j => hw30.1 3 j) (okc (fun j => hw30.1 4 j) (okc (fun j => hw30.1 5 j) (okc (fun j => hw30.1 6 j) (okc (fun j => hw30.1 7 j) (okc (fun j => hw30.1 8 j) (okc (fun j => hw34.1 0 j) (okc (fun j => hw34.1 1 j) (okc (fun j => hw34.1 2 j) (okc (fun j => hw34.1 3 j) (okc (fun j => hw34.1 4 j) (okc (fun j => hw34.1 5 j) (okc (fun j => hw34.1 6 j) (okc (fun j => hw34.1 7 j) (okc (fun j => hw34.1 8 j) (okc (fun j => hw38.1 0 j) (okc (fun j => hw38.1 1 j) (okc (fun j => hw42.1 0 j) (okc (fun j => hw42.1 1 j) (okc (fun j => hw46.1 0 j) (okc (fun j => hw46.1 1 j) (okc (fun j => hw50.1 0 j) (okc (fun j => hw50.1 1 j) okn))))))))))))))))))))))))))))))))))))))))))))))))))))))))))))))))))))))))))))))))))))))))))), by rw [hw3.2, hw7.2, hw11.2, hw15.2, hw19.2, hw23.2, hw30.2, hw34.2, hw38.2, hw42.2, hw46.2, hw50.2]; rfl⟩ rfl hP hD hS (by exact Nat.le_of_ble_eq_true rfl) (by exact Nat.le_of_ble_eq_true rfl) dX7_init_145
def Z_8 : St := F_X8_keepDraft 0 (F_X8_firstDraft 0 (vz [(fun _ => 0), (fun _ => 0), (fun _ => 0), (fun _ => 0), (fun _ => 0), (fun _ => 0), (upd (upd (upd (upd (fun _ => 0) 0 (-4)) 1 (-4)) 2 (-4)) 3 (-4)), (fun _ => 0), (fun _ => 0), (fun _ => 0)]))
set_option maxHeartbeats 4000000 in
set_option maxRecDepth 100000 in
theorem k_X8 (l : Launch) (D : va_G) (cy : Nat → ClassId) (sa sv : Nat → Nat) (b0 h0 sz : Nat) : CK D cy sa sv b0 l yX8_init (wsy yX8_init prog_10_method_1_code 2 none) (rmK 2 9 654) h0 sz (8, f0_8) 10 (kz ks8) 9 654 Z_8 := by
  refine CK.of prog_10_method_1_code 2 "StarWalkModel" (by decide +kernel) rfl rfl (by exact Nat.le_of_ble_eq_true rfl) ?_
  intro p e s m args below meth c ls S hX hb0 hP hD hr hlk hnmI hl hsz
  have hx := S.1
  have hb := S.2.1
  have hK := hX.1
  have hA : ∀ q, s.heap.size ≤ q → Ak h0 s.heap.size q := fun q h => Or.inr h
  have hAb := Ak.b hX hb0
  have hS : va_S (Ak h0 s.heap.size) s.heap s.heap [] := va_S.rf
  refine lv_aload_n hx hb dX8_init_0 rfl (lv_at hl 0 rfl) ?_
  refine W.objInit hx hb S.2.2.2.1 (Sw S mw_4_161 rfl) (Sw S mw_1_23 rfl) (Sw S mw_1_24 rfl) rfl (by rw [S.2.2.1]; exact hl.1) rfl dX8_init_1 (by exact Nat.le_of_ble_eq_true rfl) (by exact Nat.le_of_ble_eq_true rfl) ?_
  refine W.eq (g2 := F0 m 4 ls []) rfl ?_
  refine lv_aload_n hx hb dX8_init_4 rfl (lv_at hl 0 rfl) ?_
  refine lv_sipush (v := 162) hx hb dX8_init_5 (by decide) ?_
  refine nAIk S hK (by decide) (N' := 162) (by rfl) (by decide) hP hD hS hA (by exact Nat.le_of_ble_eq_true rfl) (by exact Nat.le_of_ble_eq_true rfl) dX8_init_8 (fun q1 H hP hD hS => ?_)
  refine pFk S hK hin8 tyX8 tyX8_ok nmX8 (ci := 8) rfl 0 (by decide) mw_4_170 rfl rfl rfl rfl rfl hnmI (ty := (.array .int)) (by decide +kernel) rfl rfl (by exact Nat.le_of_ble_eq_true rfl) hP hD hS dX8_init_10 (fun H lo hP hD hS => ?_)
  refine lv_aload_n hx hb dX8_init_13 rfl (lv_at hl 0 rfl) ?_
  refine lv_bipush (v := 54) hx hb dX8_init_14 (by decide) ?_
  refine nAIk S hK (by decide) (N' := 54) (by rfl) (by decide) hP hD hS hA (by exact Nat.le_of_ble_eq_true rfl) (by exact Nat.le_of_ble_eq_true rfl) dX8_init_16 (fun q2 H hP hD hS => ?_)
  refine pFk S hK hin8 tyX8 tyX8_ok nmX8 (ci := 8) rfl 1 (by decide) mw_4_171 rfl rfl rfl rfl rfl hnmI (ty := (.array .int)) (by decide +kernel) rfl rfl (by exact Nat.le_of_ble_eq_true rfl) hP hD hS dX8_init_18 (fun H lo hP hD hS => ?_)
  refine lv_aload_n hx hb dX8_init_21 rfl (lv_at hl 0 rfl) ?_
  refine lv_iconst (v := 2) hx hb dX8_init_22 (by decide) ?_
  refine nAZk S hK (by decide) (N' := 2) (by rfl) (by decide) hP hD hS hA (by exact Nat.le_of_ble_eq_true rfl) (by exact Nat.le_of_ble_eq_true rfl) dX8_init_23 (fun q3 H hP hD hS => ?_)
  refine pFk S hK hin8 tyX8 tyX8_ok nmX8 (ci := 8) rfl 2 (by decide) mw_4_172 rfl rfl rfl rfl rfl hnmI (ty := (.array .boolean)) (by decide +kernel) rfl rfl (by exact Nat.le_of_ble_eq_true rfl) hP hD hS dX8_init_25 (fun H lo hP hD hS => ?_)
  refine lv_aload_n hx hb dX8_init_28 rfl (lv_at hl 0 rfl) ?_
  refine lv_bipush (v := 54) hx hb dX8_init_29 (by decide) ?_
  refine nAIk S hK (by decide) (N' := 54) (by rfl) (by decide) hP hD hS hA (by exact Nat.le_of_ble_eq_true rfl) (by exact Nat.le_of_ble_eq_true rfl) dX8_init_31 (fun q4 H hP hD hS => ?_)
  refine pFk S hK hin8 tyX8 tyX8_ok nmX8 (ci := 8) rfl 5 (by decide) mw_4_175 rfl rfl rfl rfl rfl hnmI (ty := (.array .int)) (by decide +kernel) rfl rfl (by exact Nat.le_of_ble_eq_true rfl) hP hD hS dX8_init_33 (fun H lo hP hD hS => ?_)
  refine lv_aload_n hx hb dX8_init_36 rfl (lv_at hl 0 rfl) ?_
  refine lv_sipush (v := 160) hx hb dX8_init_37 (by decide) ?_
  refine nAIk S hK (by decide) (N' := 160) (by rfl) (by decide) hP hD hS hA (by exact Nat.le_of_ble_eq_true rfl) (by exact Nat.le_of_ble_eq_true rfl) dX8_init_40 (fun q5 H hP hD hS => ?_)
  refine pFk S hK hin8 tyX8 tyX8_ok nmX8 (ci := 8) rfl 11 (by decide) mw_4_181 rfl rfl rfl rfl rfl hnmI (ty := (.array .int)) (by decide +kernel) rfl rfl (by exact Nat.le_of_ble_eq_true rfl) hP hD hS dX8_init_42 (fun H lo hP hD hS => ?_)
  refine lv_aload_n hx hb dX8_init_45 rfl (lv_at hl 0 rfl) ?_
  refine lv_iconst (v := 4) hx hb dX8_init_46 (by decide) ?_
  refine nAIk S hK (by decide) (N' := 4) (by rfl) (by decide) hP hD hS hA (by exact Nat.le_of_ble_eq_true rfl) (by exact Nat.le_of_ble_eq_true rfl) dX8_init_47 (fun q6 H hP hD hS => ?_)
  refine pFk S hK hin8 tyX8 tyX8_ok nmX8 (ci := 8) rfl 26 (by decide) mw_4_196 rfl rfl rfl rfl rfl hnmI (ty := (.array .int)) (by decide +kernel) rfl rfl (by exact Nat.le_of_ble_eq_true rfl) hP hD hS dX8_init_49 (fun H lo hP hD hS => ?_)
  refine lv_aload_n hx hb dX8_init_52 rfl (lv_at hl 0 rfl) ?_
  refine lv_iconst (v := 4) hx hb dX8_init_53 (by decide) ?_
  refine nAIk S hK (by decide) (N' := 4) (by rfl) (by decide) hP hD hS hA (by exact Nat.le_of_ble_eq_true rfl) (by exact Nat.le_of_ble_eq_true rfl) dX8_init_54 (fun q7 H hP hD hS => ?_)
  refine pFk S hK hin8 tyX8 tyX8_ok nmX8 (ci := 8) rfl 27 (by decide) mw_4_197 rfl rfl rfl rfl rfl hnmI (ty := (.array .int)) (by decide +kernel) rfl rfl (by exact Nat.le_of_ble_eq_true rfl) hP hD hS dX8_init_56 (fun H lo hP hD hS => ?_)
  refine lv_aload_n hx hb dX8_init_59 rfl (lv_at hl 0 rfl) ?_
  refine lv_sipush (v := 160) hx hb dX8_init_60 (by decide) ?_
  refine nAIk S hK (by decide) (N' := 160) (by rfl) (by decide) hP hD hS hA (by exact Nat.le_of_ble_eq_true rfl) (by exact Nat.le_of_ble_eq_true rfl) dX8_init_63 (fun q8 H hP hD hS => ?_)
  refine pFk S hK hin8 tyX8 tyX8_ok nmX8 (ci := 8) rfl 28 (by decide) mw_4_198 rfl rfl rfl rfl rfl hnmI (ty := (.array .int)) (by decide +kernel) rfl rfl (by exact Nat.le_of_ble_eq_true rfl) hP hD hS dX8_init_65 (fun H lo hP hD hS => ?_)
  refine lv_aload_n hx hb dX8_init_68 rfl (lv_at hl 0 rfl) ?_
  refine lv_bipush (v := 54) hx hb dX8_init_69 (by decide) ?_
  refine nAIk S hK (by decide) (N' := 54) (by rfl) (by decide) hP hD hS hA (by exact Nat.le_of_ble_eq_true rfl) (by exact Nat.le_of_ble_eq_true rfl) dX8_init_71 (fun q9 H hP hD hS => ?_)
  refine pFk S hK hin8 tyX8 tyX8_ok nmX8 (ci := 8) rfl 30 (by decide) mw_4_200 rfl rfl rfl rfl rfl hnmI (ty := (.array .int)) (by decide +kernel) rfl rfl (by exact Nat.le_of_ble_eq_true rfl) hP hD hS dX8_init_73 (fun H lo hP hD hS => ?_)
  refine lv_iconst (v := 0) hx hb dX8_init_76 (by decide) ?_
  refine lv_istore_n (lv' := [(1, .int 0), (0, .ref h0)]) hx hb dX8_init_77 rfl hl (by decide) rfl (fun ls hl => ?_)
  refine lv_iload_n hx hb dX8_init_78 rfl (lv_at hl 0 rfl) ?_
  refine lv_iconst (v := 4) hx hb dX8_init_79 (by decide) ?_
  refine lv_icmp_ge hx hb (tgt := 97) dX8_init_80 (by decide) (fun h => absurd h (by decide)) (fun _ => ?_)
  refine lv_aload_n hx hb dX8_init_83 rfl (lv_at hl 1 rfl) ?_
  refine gFk S hK hin8 (ci := 8) rfl 26 (by decide) mw_4_196 rfl rfl rfl hP (v := .ref q6) rfl dX8_init_84 ?_
  refine lv_iload_n hx hb dX8_init_87 rfl (lv_at hl 0 rfl) ?_
  refine lv_bipush (v := (-4)) hx hb dX8_init_88 (by decide) ?_
  refine iSk S hK hP hD hS 5 1 rfl rfl (i := 0) (x := (-4)) (j := 0) (vp_in_iff.mpr (by decide)) rfl dX8_init_90 (fun H lo hP hD hS => ?_)
  refine lv_iinc (v := 1) (lv' := [(1, .int 1), (0, .ref h0)]) hx hb dX8_init_91 hl (k := 0) rfl (by decide) (by decide) rfl (fun ls hl => ?_)
  refine lv_goto (tgt := 78) hx hb dX8_init_94 (by decide) ?_
  refine lv_iload_n hx hb dX8_init_78 rfl (lv_at hl 0 rfl) ?_
  refine lv_iconst (v := 4) hx hb dX8_init_79 (by decide) ?_
  refine lv_icmp_ge hx hb (tgt := 97) dX8_init_80 (by decide) (fun h => absurd h (by decide)) (fun _ => ?_)
  refine lv_aload_n hx hb dX8_init_83 rfl (lv_at hl 1 rfl) ?_
  refine gFk S hK hin8 (ci := 8) rfl 26 (by decide) mw_4_196 rfl rfl rfl hP (v := .ref q6) rfl dX8_init_84 ?_
  refine lv_iload_n hx hb dX8_init_87 rfl (lv_at hl 0 rfl) ?_
  refine lv_bipush (v := (-4)) hx hb dX8_init_88 (by decide) ?_
  refine iSk S hK hP hD hS 5 1 rfl rfl (i := 1) (x := (-4)) (j := 1) (vp_in_iff.mpr (by decide)) rfl dX8_init_90 (fun H lo hP hD hS => ?_)
  refine lv_iinc (v := 2) (lv' := [(1, .int 2), (0, .ref h0)]) hx hb dX8_init_91 hl (k := 0) rfl (by decide) (by decide) rfl (fun ls hl => ?_)
  refine lv_goto (tgt := 78) hx hb dX8_init_94 (by decide) ?_
  refine lv_iload_n hx hb dX8_init_78 rfl (lv_at hl 0 rfl) ?_
  refine lv_iconst (v := 4) hx hb dX8_init_79 (by decide) ?_
  refine lv_icmp_ge hx hb (tgt := 97) dX8_init_80 (by decide) (fun h => absurd h (by decide)) (fun _ => ?_)
  refine lv_aload_n hx hb dX8_init_83 rfl (lv_at hl 1 rfl) ?_
  refine gFk S hK hin8 (ci := 8) rfl 26 (by decide) mw_4_196 rfl rfl rfl hP (v := .ref q6) rfl dX8_init_84 ?_
  refine lv_iload_n hx hb dX8_init_87 rfl (lv_at hl 0 rfl) ?_
  refine lv_bipush (v := (-4)) hx hb dX8_init_88 (by decide) ?_
  refine iSk S hK hP hD hS 5 1 rfl rfl (i := 2) (x := (-4)) (j := 2) (vp_in_iff.mpr (by decide)) rfl dX8_init_90 (fun H lo hP hD hS => ?_)
  refine lv_iinc (v := 3) (lv' := [(1, .int 3), (0, .ref h0)]) hx hb dX8_init_91 hl (k := 0) rfl (by decide) (by decide) rfl (fun ls hl => ?_)
  refine lv_goto (tgt := 78) hx hb dX8_init_94 (by decide) ?_
  refine lv_iload_n hx hb dX8_init_78 rfl (lv_at hl 0 rfl) ?_
  refine lv_iconst (v := 4) hx hb dX8_init_79 (by decide) ?_
  refine lv_icmp_ge hx hb (tgt := 97) dX8_init_80 (by decide) (fun h => absurd h (by decide)) (fun _ => ?_)
  refine lv_aload_n hx hb dX8_init_83 rfl (lv_at hl 1 rfl) ?_
  refine gFk S hK hin8 (ci := 8) rfl 26 (by decide) mw_4_196 rfl rfl rfl hP (v := .ref q6) rfl dX8_init_84 ?_
  refine lv_iload_n hx hb dX8_init_87 rfl (lv_at hl 0 rfl) ?_
  refine lv_bipush (v := (-4)) hx hb dX8_init_88 (by decide) ?_
  refine iSk S hK hP hD hS 5 1 rfl rfl (i := 3) (x := (-4)) (j := 3) (vp_in_iff.mpr (by decide)) rfl dX8_init_90 (fun H lo hP hD hS => ?_)
  refine lv_iinc (v := 4) (lv' := [(1, .int 4), (0, .ref h0)]) hx hb dX8_init_91 hl (k := 0) rfl (by decide) (by decide) rfl (fun ls hl => ?_)
  refine lv_goto (tgt := 78) hx hb dX8_init_94 (by decide) ?_
  refine lv_iload_n hx hb dX8_init_78 rfl (lv_at hl 0 rfl) ?_
  refine lv_iconst (v := 4) hx hb dX8_init_79 (by decide) ?_
  refine lv_icmp_ge hx hb (tgt := 97) dX8_init_80 (by decide) (fun _ => ?_) (fun h => absurd (by decide) h)
  refine lv_aload_n hx hb dX8_init_97 rfl (lv_at hl 1 rfl) ?_
  have hP : va_P D vwCl (wd (D, cy, 10, qz [h0, q1, q2, q3, q4, q5, q6, q7, q8, q9], kz ks8, sa, sv) (vz [(fun _ => 0), (fun _ => 0), (fun _ => 0), (fun _ => 0), (fun _ => 0), (fun _ => 0), (upd (upd (upd (upd (fun _ => 0) 0 (-4)) 1 (-4)) 2 (-4)) 3 (-4)), (fun _ => 0), (fun _ => 0), (fun _ => 0)])) H := hP
  have hD : va_D (Ak h0 s.heap.size) (wd (D, cy, 10, qz [h0, q1, q2, q3, q4, q5, q6, q7, q8, q9], kz ks8, sa, sv) (vz [(fun _ => 0), (fun _ => 0), (fun _ => 0), (fun _ => 0), (fun _ => 0), (fun _ => 0), (upd (upd (upd (upd (fun _ => 0) 0 (-4)) 1 (-4)) 2 (-4)) 3 (-4)), (fun _ => 0), (fun _ => 0), (fun _ => 0)])) := hD
  have hw0 : WF (kz ks8) (fun k => gz (kz ks8 k)) (vz [(fun _ => 0), (fun _ => 0), (fun _ => 0), (fun _ => 0), (fun _ => 0), (fun _ => 0), (upd (upd (upd (upd (fun _ => 0) 0 (-4)) 1 (-4)) 2 (-4)) 3 (-4)), (fun _ => 0), (fun _ => 0), (fun _ => 0)]) := (okz ks8 _ rfl (okc oz8 (okc oz30 (okc oz31 (okc oz32 (okc oz33 (okc oz34 (okc oz35 (okc oz36 (okc oz37 (okc oz38 okn)))))))))))
  refine kVv (w := (D, cy, 10, qz [h0, q1, q2, q3, q4, q5, q6, q7, q8, q9], kz ks8, sa, sv)) (k := 0) (As := []) S hX hAb rfl rfl (awD hD) hP hS (c_X8_firstDraft l (D, cy, 10, qz [h0, q1, q2, q3, q4, q5, q6, q7, q8, q9], kz ks8, sa, sv) (fun k => gz (kz ks8 k)) (vz [(fun _ => 0), (fun _ => 0), (fun _ => 0), (fun _ => 0), (fun _ => 0), (fun _ => 0), (upd (upd (upd (upd (fun _ => 0) 0 (-4)) 1 (-4)) 2 (-4)) 3 (-4)), (fun _ => 0), (fun _ => 0), (fun _ => 0)]) 0 (injD hD) hw0 ⟨⟨(by exact Nat.le_of_ble_eq_true rfl), rfl⟩, ⟨(by exact Nat.le_of_ble_eq_true rfl), rfl⟩, ⟨(by exact Nat.le_of_ble_eq_true rfl), rfl⟩, ⟨(by exact Nat.le_of_ble_eq_true rfl), rfl⟩, ⟨(by exact Nat.le_of_ble_eq_true rfl), rfl⟩, ⟨(by exact Nat.le_of_ble_eq_true rfl), rfl⟩, ⟨(by exact Nat.le_of_ble_eq_true rfl), rfl⟩, ⟨(by exact Nat.le_of_ble_eq_true rfl), rfl⟩, ⟨(by exact Nat.le_of_ble_eq_true rfl), rfl⟩, ⟨(by exact Nat.le_of_ble_eq_true rfl), rfl⟩⟩) (cwV 0 S.2.2.2.2 (gWs (C := "StarWalkModel") mw_4_162 mw_4_164 mw_s_26 mw_1_9 mw_4_165) rfl rfl rfl (by decide +kernel) ⟨by decide, by decide⟩) (by exact Nat.le_of_ble_eq_true rfl) rfl rfl rfl hl.1 rfl (by exact Nat.le_of_ble_eq_true rfl) dX8_init_98 ⟨(by exact Nat.le_of_ble_eq_true rfl), (by exact Nat.le_of_ble_eq_true rfl)⟩ (fun u10 H lo hp11 hP hS => ?_)
  have hD := wdD (u := u10) hD
  refine lv_aload_n hx hb dX8_init_101 rfl (lv_at hl 1 rfl) ?_
  refine kVv (w := (D, cy, 10, qz [h0, q1, q2, q3, q4, q5, q6, q7, q8, q9], kz ks8, sa, sv)) (k := 0) (As := []) S hX hAb rfl rfl (awD hD) hP hS (c_X8_keepDraft l (D, cy, 10, qz [h0, q1, q2, q3, q4, q5, q6, q7, q8, q9], kz ks8, sa, sv) (fun k => gz (kz ks8 k)) u10 0 (injD hD) hp11.1.1 ⟨⟨(by exact Nat.le_of_ble_eq_true rfl), rfl⟩, ⟨(by exact Nat.le_of_ble_eq_true rfl), rfl⟩, ⟨(by exact Nat.le_of_ble_eq_true rfl), rfl⟩, ⟨(by exact Nat.le_of_ble_eq_true rfl), rfl⟩, ⟨(by exact Nat.le_of_ble_eq_true rfl), rfl⟩, ⟨(by exact Nat.le_of_ble_eq_true rfl), rfl⟩, ⟨(by exact Nat.le_of_ble_eq_true rfl), rfl⟩, ⟨(by exact Nat.le_of_ble_eq_true rfl), rfl⟩, ⟨(by exact Nat.le_of_ble_eq_true rfl), rfl⟩, ⟨(by exact Nat.le_of_ble_eq_true rfl), rfl⟩⟩) (cwV 0 S.2.2.2.2 (gWs (C := "StarWalkModel") mw_4_166 mw_4_168 mw_s_27 mw_1_9 mw_4_169) rfl rfl rfl (by decide +kernel) ⟨by decide, by decide⟩) (by exact Nat.le_of_ble_eq_true rfl) rfl rfl rfl hl.1 rfl (by exact Nat.le_of_ble_eq_true rfl) dX8_init_102 ⟨(by exact Nat.le_of_ble_eq_true rfl), (by exact Nat.le_of_ble_eq_true rfl)⟩ (fun u12 H lo hp13 hP hS => ?_)
  have hD := wdD (u := u12) hD
  exact endK (Zc := Z_8) S hr hlk (qz [h0, q1, q2, q3, q4, q5, q6, q7, q8, q9]) u12 ⟨hp13.1.1, hp13.2.1.trans (by rw [hp11.2.1]; rfl)⟩ rfl hP (wdD hD) hS (by exact Nat.le_of_ble_eq_true rfl) (by exact Nat.le_of_ble_eq_true rfl) dX8_init_105
