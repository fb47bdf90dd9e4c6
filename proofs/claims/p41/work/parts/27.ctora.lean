def Z_2 : St := vz [(fun _ => 0)]
set_option maxHeartbeats 4000000 in
set_option maxRecDepth 100000 in
theorem k_X2 (l : Launch) (D : va_G) (cy : Nat → ClassId) (sa sv : Nat → Nat) (b0 h0 sz : Nat) : CK D cy sa sv b0 l yX2_init (wsy yX2_init prog_4_method_1_code 1 none) (rmK 1 0 0) h0 sz (2, f0_2) 1 (kz ks2) 0 0 Z_2 := by
  refine CK.of prog_4_method_1_code 1 "StarWalk$Place" (by decide +kernel) rfl rfl (by exact Nat.le_of_ble_eq_true rfl) ?_
  intro p e s m args below meth c ls S hX hb0 hP hD hr hlk hnmI hl hsz
  have hx := S.1
  have hb := S.2.1
  have hK := hX.1
  have hA : ∀ q, s.heap.size ≤ q → Ak h0 s.heap.size q := fun q h => Or.inr h
  have hAb := Ak.b hX hb0
  have hS : va_S (Ak h0 s.heap.size) s.heap s.heap [] := va_S.rf
  refine lv_aload_n hx hb dX2_init_0 rfl (lv_at hl 0 rfl) ?_
  refine W.objInit hx hb S.2.2.2.1 (Sw S mw_1_42 rfl) (Sw S mw_1_23 rfl) (Sw S mw_1_24 rfl) rfl (by rw [S.2.2.1]; exact hl.1) rfl dX2_init_1 (by exact Nat.le_of_ble_eq_true rfl) (by exact Nat.le_of_ble_eq_true rfl) ?_
  refine W.eq (g2 := F0 m 4 ls []) rfl ?_
  exact endK (Zc := Z_2) S hr hlk (qz [h0]) (vz [(fun _ => 0)]) ⟨okz ks2 _ rfl (okc oz2 okn), rfl⟩ rfl hP hD hS (by exact Nat.le_of_ble_eq_true rfl) (by exact Nat.le_of_ble_eq_true rfl) dX2_init_4
def Z_4 : St := vz [(fun j => if j = 0 then -1 else 0), (fun _ => 0)]
set_option maxHeartbeats 4000000 in
set_option maxRecDepth 100000 in
theorem k_X4 (l : Launch) (D : va_G) (cy : Nat → ClassId) (sa sv : Nat → Nat) (b0 h0 sz : Nat) : CK D cy sa sv b0 l yX4_init (wsy yX4_init prog_6_method_1_code 1 none) (rmK 1 1 40) h0 sz (4, f0_4) 2 (kz ks4) 1 40 Z_4 := by
  refine CK.of prog_6_method_1_code 1 "StarWalk$Sheet" (by decide +kernel) rfl rfl (by exact Nat.le_of_ble_eq_true rfl) ?_
  intro p e s m args below meth c ls S hX hb0 hP hD hr hlk hnmI hl hsz
  have hx := S.1
  have hb := S.2.1
  have hK := hX.1
  have hA : ∀ q, s.heap.size ≤ q → Ak h0 s.heap.size q := fun q h => Or.inr h
  have hAb := Ak.b hX hb0
  have hS : va_S (Ak h0 s.heap.size) s.heap s.heap [] := va_S.rf
  refine lv_aload_n hx hb dX4_init_0 rfl (lv_at hl 0 rfl) ?_
  refine W.objInit hx hb S.2.2.2.1 (Sw S mw_2_53 rfl) (Sw S mw_1_23 rfl) (Sw S mw_1_24 rfl) rfl (by rw [S.2.2.1]; exact hl.1) rfl dX4_init_1 (by exact Nat.le_of_ble_eq_true rfl) (by exact Nat.le_of_ble_eq_true rfl) ?_
  refine W.eq (g2 := F0 m 4 ls []) rfl ?_
  refine lv_aload_n hx hb dX4_init_4 rfl (lv_at hl 0 rfl) ?_
  refine lv_iconst (v := (-1)) hx hb dX4_init_5 (by decide) ?_
  refine pIk S hK hin4 tyX4 tyX4_ok nmX4 (ci := 4) rfl 0 (by decide) mw_2_54 rfl rfl rfl rfl (ty := .int) (by decide +kernel) rfl rfl (by exact Nat.le_of_ble_eq_true rfl) hP hD hS dX4_init_6 (fun H lo hP hD hS => ?_)
  refine lv_aload_n hx hb dX4_init_9 rfl (lv_at hl 0 rfl) ?_
  refine lv_bipush (v := 40) hx hb dX4_init_10 (by decide) ?_
  refine nAIk S hK (by decide) (N' := 40) (by rfl) (by decide) hP hD hS hA (by exact Nat.le_of_ble_eq_true rfl) (by exact Nat.le_of_ble_eq_true rfl) dX4_init_12 (fun q1 H hP hD hS => ?_)
  refine pFk S hK hin4 tyX4 tyX4_ok nmX4 (ci := 4) rfl 2 (by decide) mw_2_58 rfl rfl rfl rfl rfl hnmI (ty := (.array .int)) (by decide +kernel) rfl rfl (by exact Nat.le_of_ble_eq_true rfl) hP hD hS dX4_init_14 (fun H lo hP hD hS => ?_)
  exact endK (Zc := Z_4) S hr hlk (qz [h0, q1]) (vz [(fun j => if j = 0 then -1 else 0), (fun _ => 0)]) ⟨okz ks4 _ rfl (okc oz4 (okc oz18 okn)), rfl⟩ rfl hP hD hS (by exact Nat.le_of_ble_eq_true rfl) (by exact Nat.le_of_ble_eq_true rfl) dX4_init_17
def Z_0 : St := F_X0_clear 0 (vz [(fun _ => 0), (fun _ => 0), (fun _ => 0), (fun _ => 0), (fun _ => 0), Z_2.1 0, (fun _ => 0), (fun _ => 0), (fun _ => 0)])
set_option maxHeartbeats 4000000 in
set_option maxRecDepth 100000 in
theorem k_X0 (l : Launch) (D : va_G) (cy : Nat → ClassId) (sa sv : Nat → Nat) (b0 h0 sz : Nat) : CK D cy sa sv b0 l yX0_init (wsy yX0_init prog_2_method_1_code 1 none) (rmK 2 8 42) h0 sz (0, f0_0) 9 (kz ks0) 8 42 Z_0 := by
  refine CK.of prog_2_method_1_code 1 "StarWalk$Night" (by decide +kernel) rfl rfl (by exact Nat.le_of_ble_eq_true rfl) ?_
  intro p e s m args below meth c ls S hX hb0 hP hD hr hlk hnmI hl hsz
  have hx := S.1
  have hb := S.2.1
  have hK := hX.1
  have hA : ∀ q, s.heap.size ≤ q → Ak h0 s.heap.size q := fun q h => Or.inr h
  have hAb := Ak.b hX hb0
  have hS : va_S (Ak h0 s.heap.size) s.heap s.heap [] := va_S.rf
  refine lv_aload_n hx hb dX0_init_0 rfl (lv_at hl 0 rfl) ?_
  refine W.objInit hx hb S.2.2.2.1 (Sw S mw_1_36 rfl) (Sw S mw_1_23 rfl) (Sw S mw_1_24 rfl) rfl (by rw [S.2.2.1]; exact hl.1) rfl dX0_init_1 (by exact Nat.le_of_ble_eq_true rfl) (by exact Nat.le_of_ble_eq_true rfl) ?_
  refine W.eq (g2 := F0 m 4 ls []) rfl ?_
  refine lv_aload_n hx hb dX0_init_4 rfl (lv_at hl 0 rfl) ?_
  refine lv_iconst (v := 5) hx hb dX0_init_5 (by decide) ?_
  refine nAIk S hK (by decide) (N' := 5) (by rfl) (by decide) hP hD hS hA (by exact Nat.le_of_ble_eq_true rfl) (by exact Nat.le_of_ble_eq_true rfl) dX0_init_6 (fun q1 H hP hD hS => ?_)
  refine pFk S hK hin0 tyX0 tyX0_ok nmX0 (ci := 0) rfl 0 (by decide) mw_1_77 rfl rfl rfl rfl rfl hnmI (ty := (.array .int)) (by decide +kernel) rfl rfl (by exact Nat.le_of_ble_eq_true rfl) hP hD hS dX0_init_8 (fun H lo hP hD hS => ?_)
  refine lv_aload_n hx hb dX0_init_11 rfl (lv_at hl 0 rfl) ?_
  refine lv_iconst (v := 5) hx hb dX0_init_12 (by decide) ?_
  refine nAIk S hK (by decide) (N' := 5) (by rfl) (by decide) hP hD hS hA (by exact Nat.le_of_ble_eq_true rfl) (by exact Nat.le_of_ble_eq_true rfl) dX0_init_13 (fun q2 H hP hD hS => ?_)
  refine pFk S hK hin0 tyX0 tyX0_ok nmX0 (ci := 0) rfl 1 (by decide) mw_1_79 rfl rfl rfl rfl rfl hnmI (ty := (.array .int)) (by decide +kernel) rfl rfl (by exact Nat.le_of_ble_eq_true rfl) hP hD hS dX0_init_15 (fun H lo hP hD hS => ?_)
  refine lv_aload_n hx hb dX0_init_18 rfl (lv_at hl 0 rfl) ?_
  refine lv_iconst (v := 5) hx hb dX0_init_19 (by decide) ?_
  refine nAIk S hK (by decide) (N' := 5) (by rfl) (by decide) hP hD hS hA (by exact Nat.le_of_ble_eq_true rfl) (by exact Nat.le_of_ble_eq_true rfl) dX0_init_20 (fun q3 H hP hD hS => ?_)
  refine pFk S hK hin0 tyX0 tyX0_ok nmX0 (ci := 0) rfl 2 (by decide) mw_1_81 rfl rfl rfl rfl rfl hnmI (ty := (.array .int)) (by decide +kernel) rfl rfl (by exact Nat.le_of_ble_eq_true rfl) hP hD hS dX0_init_22 (fun H lo hP hD hS => ?_)
  refine lv_aload_n hx hb dX0_init_25 rfl (lv_at hl 0 rfl) ?_
  refine lv_iconst (v := 3) hx hb dX0_init_26 (by decide) ?_
  refine nAIk S hK (by decide) (N' := 3) (by rfl) (by decide) hP hD hS hA (by exact Nat.le_of_ble_eq_true rfl) (by exact Nat.le_of_ble_eq_true rfl) dX0_init_27 (fun q4 H hP hD hS => ?_)
  refine pFk S hK hin0 tyX0 tyX0_ok nmX0 (ci := 0) rfl 5 (by decide) mw_1_89 rfl rfl rfl rfl rfl hnmI (ty := (.array .int)) (by decide +kernel) rfl rfl (by exact Nat.le_of_ble_eq_true rfl) hP hD hS dX0_init_29 (fun H lo hP hD hS => ?_)
  refine lv_aload_n hx hb dX0_init_32 rfl (lv_at hl 0 rfl) ?_
  refine nOk S hK hin2 tyX2 tyX2_ok mw_1_37 mw_1_38 mw_1_4 (ci := 2) rfl f0h_2 hP hD hS hA (by exact Nat.le_of_ble_eq_true rfl) (by exact Nat.le_of_ble_eq_true rfl) dX0_init_33 (fun q5 H hP9 hD9 hS9 => ?_)
  refine lv_dup hx hb dX0_init_36 rfl ?_
  refine kNk S hX hAb hP9 hD9 hS9 hA (k_X2 l D cy sa sv b0 q5 H.size) (hX.2.2.1.1.2.1) mw_1_40 mw_1_4 mw_1_41 rfl rfl rfl (by decide +kernel) ⟨by decide, by decide⟩ hl.1 (by exact Nat.le_of_ble_eq_true rfl) dX0_init_37 ⟨(by exact Nat.le_of_ble_eq_true rfl), (by exact Nat.le_of_ble_eq_true rfl)⟩ (fun u6 H lo hw7 hu8 hP hD hS => ?_)
  subst hu8
  refine pFk S hK hin0 tyX0 tyX0_ok nmX0 (ci := 0) rfl 12 (by decide) mw_1_109 rfl rfl rfl rfl rfl hnmI (ty := (.object "StarWalk$Place")) (by decide +kernel) rfl rfl (by exact Nat.le_of_ble_eq_true rfl) hP hD hS dX0_init_40 (fun H lo hP hD hS => ?_)
  refine lv_aload_n hx hb dX0_init_43 rfl (lv_at hl 0 rfl) ?_
  refine lv_bipush (v := 8) hx hb dX0_init_44 (by decide) ?_
  refine nAIk S hK (by decide) (N' := 8) (by rfl) (by decide) hP hD hS hA (by exact Nat.le_of_ble_eq_true rfl) (by exact Nat.le_of_ble_eq_true rfl) dX0_init_46 (fun q9 H hP hD hS => ?_)
  refine pFk S hK hin0 tyX0 tyX0_ok nmX0 (ci := 0) rfl 13 (by decide) mw_1_115 rfl rfl rfl rfl rfl hnmI (ty := (.array .int)) (by decide +kernel) rfl rfl (by exact Nat.le_of_ble_eq_true rfl) hP hD hS dX0_init_48 (fun H lo hP hD hS => ?_)
  refine lv_aload_n hx hb dX0_init_51 rfl (lv_at hl 0 rfl) ?_
  refine lv_bipush (v := 6) hx hb dX0_init_52 (by decide) ?_
  refine nAIk S hK (by decide) (N' := 6) (by rfl) (by decide) hP hD hS hA (by exact Nat.le_of_ble_eq_true rfl) (by exact Nat.le_of_ble_eq_true rfl) dX0_init_54 (fun q10 H hP hD hS => ?_)
  refine pFk S hK hin0 tyX0 tyX0_ok nmX0 (ci := 0) rfl 15 (by decide) mw_1_123 rfl rfl rfl rfl rfl hnmI (ty := (.array .int)) (by decide +kernel) rfl rfl (by exact Nat.le_of_ble_eq_true rfl) hP hD hS dX0_init_56 (fun H lo hP hD hS => ?_)
  refine lv_aload_n hx hb dX0_init_59 rfl (lv_at hl 0 rfl) ?_
  refine lv_bipush (v := 6) hx hb dX0_init_60 (by decide) ?_
  refine nAIk S hK (by decide) (N' := 6) (by rfl) (by decide) hP hD hS hA (by exact Nat.le_of_ble_eq_true rfl) (by exact Nat.le_of_ble_eq_true rfl) dX0_init_62 (fun q11 H hP hD hS => ?_)
  refine pFk S hK hin0 tyX0 tyX0_ok nmX0 (ci := 0) rfl 16 (by decide) mw_1_126 rfl rfl rfl rfl rfl hnmI (ty := (.array .int)) (by decide +kernel) rfl rfl (by exact Nat.le_of_ble_eq_true rfl) hP hD hS dX0_init_64 (fun H lo hP hD hS => ?_)
  refine lv_aload_n hx hb dX0_init_67 rfl (lv_at hl 0 rfl) ?_
  have hP : va_P D vwCl (wd (D, cy, 9, qz [h0, q1, q2, q3, q4, u6.1 0, q9, q10, q11], kz ks0, sa, sv) (vz [(fun _ => 0), (fun _ => 0), (fun _ => 0), (fun _ => 0), (fun _ => 0), u6.2.1 0, (fun _ => 0), (fun _ => 0), (fun _ => 0)])) H := hP
  have hD : va_D (Ak h0 s.heap.size) (wd (D, cy, 9, qz [h0, q1, q2, q3, q4, u6.1 0, q9, q10, q11], kz ks0, sa, sv) (vz [(fun _ => 0), (fun _ => 0), (fun _ => 0), (fun _ => 0), (fun _ => 0), u6.2.1 0, (fun _ => 0), (fun _ => 0), (fun _ => 0)])) := hD
  have hw0 : WF (kz ks0) (fun k => gz (kz ks0 k)) (vz [(fun _ => 0), (fun _ => 0), (fun _ => 0), (fun _ => 0), (fun _ => 0), u6.2.1 0, (fun _ => 0), (fun _ => 0), (fun _ => 0)]) := (okz ks0 _ rfl (okc oz0 (okc oz10 (okc oz10 (okc oz10 (okc oz11 (okc (fun j => hw7.1 0 j) (okc oz12 (okc oz13 (okc oz14 okn))))))))))
  refine kVv (w := (D, cy, 9, qz [h0, q1, q2, q3, q4, u6.1 0, q9, q10, q11], kz ks0, sa, sv)) (k := 0) (As := []) S hX hAb rfl rfl (awD hD) hP hS (c_X0_clear l (D, cy, 9, qz [h0, q1, q2, q3, q4, u6.1 0, q9, q10, q11], kz ks0, sa, sv) (fun k => gz (kz ks0 k)) (vz [(fun _ => 0), (fun _ => 0), (fun _ => 0), (fun _ => 0), (fun _ => 0), u6.2.1 0, (fun _ => 0), (fun _ => 0), (fun _ => 0)]) 0 (injD hD) hw0 ⟨⟨(by exact Nat.le_of_ble_eq_true rfl), rfl⟩, ⟨(by exact Nat.le_of_ble_eq_true rfl), rfl⟩, ⟨(by exact Nat.le_of_ble_eq_true rfl), rfl⟩, ⟨(by exact Nat.le_of_ble_eq_true rfl), rfl⟩, ⟨(by exact Nat.le_of_ble_eq_true rfl), rfl⟩, ⟨(by exact Nat.le_of_ble_eq_true rfl), rfl⟩, ⟨(by exact Nat.le_of_ble_eq_true rfl), rfl⟩, ⟨(by exact Nat.le_of_ble_eq_true rfl), rfl⟩, ⟨(by exact Nat.le_of_ble_eq_true rfl), rfl⟩⟩) (cwV 0 S.2.2.2.2 (gWs (C := "StarWalk$Night") mw_1_73 mw_1_74 mw_1_75 mw_1_3 mw_1_76) rfl rfl rfl (by decide +kernel) ⟨by decide, by decide⟩) (by exact Nat.le_of_ble_eq_true rfl) rfl rfl rfl hl.1 rfl (by exact Nat.le_of_ble_eq_true rfl) dX0_init_68 ⟨(by exact Nat.le_of_ble_eq_true rfl), (by exact Nat.le_of_ble_eq_true rfl)⟩ (fun u12 H lo hp13 hP hS => ?_)
  have hD := wdD (u := u12) hD
  exact endK (Zc := Z_0) S hr hlk (qz [h0, q1, q2, q3, q4, u6.1 0, q9, q10, q11]) u12 ⟨hp13.1.1, hp13.2.1.trans (by rw [hw7.2]; rfl)⟩ rfl hP (wdD hD) hS (by exact Nat.le_of_ble_eq_true rfl) (by exact Nat.le_of_ble_eq_true rfl) dX0_init_71
def Z_5 : St := vz [(fun _ => 0), (fun _ => 0), Z_0.1 0, Z_0.1 1, Z_0.1 2, Z_0.1 3, Z_0.1 4, Z_0.1 5, Z_0.1 6, Z_0.1 7, Z_0.1 8]
set_option maxHeartbeats 4000000 in
set_option maxRecDepth 100000 in
theorem k_X5 (l : Launch) (D : va_G) (cy : Nat → ClassId) (sa sv : Nat → Nat) (b0 h0 sz : Nat) : CK D cy sa sv b0 l yX5_init (wsy yX5_init prog_7_method_1_code 1 none) (rmK 3 10 220) h0 sz (5, f0_5) 11 (kz ks5) 10 220 Z_5 := by
  refine CK.of prog_7_method_1_code 1 "StarWalk$Tape" (by decide +kernel) rfl rfl (by exact Nat.le_of_ble_eq_true rfl) ?_
  intro p e s m args below meth c ls S hX hb0 hP hD hr hlk hnmI hl hsz
  have hx := S.1
  have hb := S.2.1
  have hK := hX.1
  have hA : ∀ q, s.heap.size ≤ q → Ak h0 s.heap.size q := fun q h => Or.inr h
  have hAb := Ak.b hX hb0
  have hS : va_S (Ak h0 s.heap.size) s.heap s.heap [] := va_S.rf
  refine lv_aload_n hx hb dX5_init_0 rfl (lv_at hl 0 rfl) ?_
  refine W.objInit hx hb S.2.2.2.1 (Sw S mw_1_30 rfl) (Sw S mw_1_23 rfl) (Sw S mw_1_24 rfl) rfl (by rw [S.2.2.1]; exact hl.1) rfl dX5_init_1 (by exact Nat.le_of_ble_eq_true rfl) (by exact Nat.le_of_ble_eq_true rfl) ?_
  refine W.eq (g2 := F0 m 4 ls []) rfl ?_
  refine lv_aload_n hx hb dX5_init_4 rfl (lv_at hl 0 rfl) ?_
  refine lv_sipush (v := 160) hx hb dX5_init_5 (by decide) ?_
  refine nABk S hK (by decide) (N' := 160) (by rfl) (by decide) hP hD hS hA (by exact Nat.le_of_ble_eq_true rfl) (by exact Nat.le_of_ble_eq_true rfl) dX5_init_8 (fun q1 H hP hD hS => ?_)
  refine pFk S hK hin5 tyX5 tyX5_ok nmX5 (ci := 5) rfl 0 (by decide) mw_1_169 rfl rfl rfl rfl rfl hnmI (ty := (.array .byte)) (by decide +kernel) rfl rfl (by exact Nat.le_of_ble_eq_true rfl) hP hD hS dX5_init_10 (fun H lo hP hD hS => ?_)
  refine lv_aload_n hx hb dX5_init_13 rfl (lv_at hl 0 rfl) ?_
  refine nOk S hK hin0 tyX0 tyX0_ok mw_1_31 mw_1_32 mw_1_3 (ci := 0) rfl f0h_0 hP hD hS hA (by exact Nat.le_of_ble_eq_true rfl) (by exact Nat.le_of_ble_eq_true rfl) dX5_init_14 (fun q2 H hP9 hD9 hS9 => ?_)
  refine lv_dup hx hb dX5_init_17 rfl ?_
  refine kIk S hX hAb hP9 hD9 hS9 hA (k_X0 l D cy sa sv b0 q2 H.size) mw_1_33 mw_1_34 mw_1_3 mw_1_35 rfl rfl rfl (by decide +kernel) ⟨by decide, by decide⟩ hl.1 (by exact Nat.le_of_ble_eq_true rfl) dX5_init_18 ⟨(by exact Nat.le_of_ble_eq_true rfl), (by exact Nat.le_of_ble_eq_true rfl)⟩ (fun u3 H lo hw4 hu5 hP hD hS => ?_)
  subst hu5
  refine pFk S hK hin5 tyX5 tyX5_ok nmX5 (ci := 5) rfl 2 (by decide) mw_1_172 rfl rfl rfl rfl rfl hnmI (ty := (.object "StarWalk$Night")) (by decide +kernel) rfl rfl (by exact Nat.le_of_ble_eq_true rfl) hP hD hS dX5_init_21 (fun H lo hP hD hS => ?_)
  exact endK (Zc := Z_5) S hr hlk (qz [h0, q1, u3.1 0, u3.1 1, u3.1 2, u3.1 3, u3.1 4, u3.1 5, u3.1 6, u3.1 7, u3.1 8]) (vz [(fun _ => 0), (fun _ => 0), u3.2.1 0, u3.2.1 1, u3.2.1 2, u3.2.1 3, u3.2.1 4, u3.2.1 5, u3.2.1 6, u3.2.1 7, u3.2.1 8]) ⟨okz ks5 _ rfl (okc oz5 (okc oz17 (okc (fun j => hw4.1 0 j) (okc (fun j => hw4.1 1 j) (okc (fun j => hw4.1 2 j) (okc (fun j => hw4.1 3 j) (okc (fun j => hw4.1 4 j) (okc (fun j => hw4.1 5 j) (okc (fun j => hw4.1 6 j) (okc (fun j => hw4.1 7 j) (okc (fun j => hw4.1 8 j) okn))))))))))), by rw [hw4.2]; rfl⟩ rfl hP hD hS (by exact Nat.le_of_ble_eq_true rfl) (by exact Nat.le_of_ble_eq_true rfl) dX5_init_24
def Z_6 : St := vz [(fun _ => 0), Z_0.1 0, Z_0.1 1, Z_0.1 2, Z_0.1 3, Z_0.1 4, Z_0.1 5, Z_0.1 6, Z_0.1 7, Z_0.1 8, (fun _ => 0)]
set_option maxHeartbeats 4000000 in
set_option maxRecDepth 100000 in
theorem k_X6 (l : Launch) (D : va_G) (cy : Nat → ClassId) (sa sv : Nat → Nat) (b0 h0 sz : Nat) : CK D cy sa sv b0 l yX6_init (wsy yX6_init prog_8_method_1_code 1 none) (rmK 3 10 69) h0 sz (6, f0_6) 11 (kz ks6) 10 69 Z_6 := by
  refine CK.of prog_8_method_1_code 1 "StarWalk$Trial" (by decide +kernel) rfl rfl (by exact Nat.le_of_ble_eq_true rfl) ?_
  intro p e s m args below meth c ls S hX hb0 hP hD hr hlk hnmI hl hsz
  have hx := S.1
  have hb := S.2.1
  have hK := hX.1
  have hA : ∀ q, s.heap.size ≤ q → Ak h0 s.heap.size q := fun q h => Or.inr h
  have hAb := Ak.b hX hb0
  have hS : va_S (Ak h0 s.heap.size) s.heap s.heap [] := va_S.rf
  refine lv_aload_n hx hb dX6_init_0 rfl (lv_at hl 0 rfl) ?_
  refine W.objInit hx hb S.2.2.2.1 (Sw S mw_1_211 rfl) (Sw S mw_1_23 rfl) (Sw S mw_1_24 rfl) rfl (by rw [S.2.2.1]; exact hl.1) rfl dX6_init_1 (by exact Nat.le_of_ble_eq_true rfl) (by exact Nat.le_of_ble_eq_true rfl) ?_
  refine W.eq (g2 := F0 m 4 ls []) rfl ?_
  refine lv_aload_n hx hb dX6_init_4 rfl (lv_at hl 0 rfl) ?_
  refine nOk S hK hin0 tyX0 tyX0_ok mw_1_212 mw_1_32 mw_1_3 (ci := 0) rfl f0h_0 hP hD hS hA (by exact Nat.le_of_ble_eq_true rfl) (by exact Nat.le_of_ble_eq_true rfl) dX6_init_5 (fun q1 H hP9 hD9 hS9 => ?_)
  refine lv_dup hx hb dX6_init_8 rfl ?_
  refine kIk S hX hAb hP9 hD9 hS9 hA (k_X0 l D cy sa sv b0 q1 H.size) mw_1_213 mw_1_34 mw_1_3 mw_1_35 rfl rfl rfl (by decide +kernel) ⟨by decide, by decide⟩ hl.1 (by exact Nat.le_of_ble_eq_true rfl) dX6_init_9 ⟨(by exact Nat.le_of_ble_eq_true rfl), (by exact Nat.le_of_ble_eq_true rfl)⟩ (fun u2 H lo hw3 hu4 hP hD hS => ?_)
  subst hu4
  refine pFk S hK hin6 tyX6 tyX6_ok nmX6 (ci := 6) rfl 0 (by decide) mw_1_214 rfl rfl rfl rfl rfl hnmI (ty := (.object "StarWalk$Night")) (by decide +kernel) rfl rfl (by exact Nat.le_of_ble_eq_true rfl) hP hD hS dX6_init_12 (fun H lo hP hD hS => ?_)
  refine lv_aload_n hx hb dX6_init_15 rfl (lv_at hl 0 rfl) ?_
  refine lv_bipush (v := 9) hx hb dX6_init_16 (by decide) ?_
  refine nAIk S hK (by decide) (N' := 9) (by rfl) (by decide) hP hD hS hA (by exact Nat.le_of_ble_eq_true rfl) (by exact Nat.le_of_ble_eq_true rfl) dX6_init_18 (fun q5 H hP hD hS => ?_)
  refine pFk S hK hin6 tyX6 tyX6_ok nmX6 (ci := 6) rfl 1 (by decide) mw_1_216 rfl rfl rfl rfl rfl hnmI (ty := (.array .int)) (by decide +kernel) rfl rfl (by exact Nat.le_of_ble_eq_true rfl) hP hD hS dX6_init_20 (fun H lo hP hD hS => ?_)
  exact endK (Zc := Z_6) S hr hlk (qz [h0, u2.1 0, u2.1 1, u2.1 2, u2.1 3, u2.1 4, u2.1 5, u2.1 6, u2.1 7, u2.1 8, q5]) (vz [(fun _ => 0), u2.2.1 0, u2.2.1 1, u2.2.1 2, u2.2.1 3, u2.2.1 4, u2.2.1 5, u2.2.1 6, u2.2.1 7, u2.2.1 8, (fun _ => 0)]) ⟨okz ks6 _ rfl (okc oz6 (okc (fun j => hw3.1 0 j) (okc (fun j => hw3.1 1 j) (okc (fun j => hw3.1 2 j) (okc (fun j => hw3.1 3 j) (okc (fun j => hw3.1 4 j) (okc (fun j => hw3.1 5 j) (okc (fun j => hw3.1 6 j) (okc (fun j => hw3.1 7 j) (okc (fun j => hw3.1 8 j) (okc oz15 okn))))))))))), by rw [hw3.2]; rfl⟩ rfl hP hD hS (by exact Nat.le_of_ble_eq_true rfl) (by exact Nat.le_of_ble_eq_true rfl) dX6_init_23
def Z_3 : St := vz [(fun _ => 0), (fun _ => 0), (fun _ => 0), (fun _ => 0), Z_2.1 0, Z_2.1 0, Z_2.1 0, Z_2.1 0, Z_2.1 0]
set_option maxHeartbeats 4000000 in
set_option maxRecDepth 100000 in
theorem k_X3 (l : Launch) (D : va_G) (cy : Nat → ClassId) (sa sv : Nat → Nat) (b0 h0 sz : Nat) : CK D cy sa sv b0 l yX3_init (wsy yX3_init prog_5_method_1_code 2 none) (rmK 2 8 33) h0 sz (3, f0_3) 9 (kz ks3) 8 33 Z_3 := by
  refine CK.of prog_5_method_1_code 2 "StarWalk$Search" (by decide +kernel) rfl rfl (by exact Nat.le_of_ble_eq_true rfl) ?_
  intro p e s m args below meth c ls S hX hb0 hP hD hr hlk hnmI hl hsz
  have hx := S.1
  have hb := S.2.1
  have hK := hX.1
  have hA : ∀ q, s.heap.size ≤ q → Ak h0 s.heap.size q := fun q h => Or.inr h
  have hAb := Ak.b hX hb0
  have hS : va_S (Ak h0 s.heap.size) s.heap s.heap [] := va_S.rf
  refine lv_aload_n hx hb dX3_init_0 rfl (lv_at hl 0 rfl) ?_
  refine W.objInit hx hb S.2.2.2.1 (Sw S mw_1_235 rfl) (Sw S mw_1_23 rfl) (Sw S mw_1_24 rfl) rfl (by rw [S.2.2.1]; exact hl.1) rfl dX3_init_1 (by exact Nat.le_of_ble_eq_true rfl) (by exact Nat.le_of_ble_eq_true rfl) ?_
  refine W.eq (g2 := F0 m 4 ls []) rfl ?_
  refine lv_aload_n hx hb dX3_init_4 rfl (lv_at hl 0 rfl) ?_
  refine lv_iconst (v := 5) hx hb dX3_init_5 (by decide) ?_
  refine nQPlacek S hK mw_1_236 hX.2.1 (by decide) (N' := 5) (by rfl) (by decide) hP hD hS hA (by exact Nat.le_of_ble_eq_true rfl) (by exact Nat.le_of_ble_eq_true rfl) dX3_init_6 (fun q1 H hP hD hS => ?_)
  refine pFk S hK hin3 tyX3 tyX3_ok nmX3 (ci := 3) rfl 0 (by decide) mw_1_239 rfl rfl rfl rfl rfl hnmI (ty := (.array (.object "StarWalk$Place"))) (by decide +kernel) rfl rfl (by exact Nat.le_of_ble_eq_true rfl) hP hD hS dX3_init_9 (fun H lo hP hD hS => ?_)
  refine lv_aload_n hx hb dX3_init_12 rfl (lv_at hl 0 rfl) ?_
  refine lv_iconst (v := 4) hx hb dX3_init_13 (by decide) ?_
  refine nAIk S hK (by decide) (N' := 4) (by rfl) (by decide) hP hD hS hA (by exact Nat.le_of_ble_eq_true rfl) (by exact Nat.le_of_ble_eq_true rfl) dX3_init_14 (fun q2 H hP hD hS => ?_)
  refine pFk S hK hin3 tyX3 tyX3_ok nmX3 (ci := 3) rfl 1 (by decide) mw_2_0 rfl rfl rfl rfl rfl hnmI (ty := (.array .int)) (by decide +kernel) rfl rfl (by exact Nat.le_of_ble_eq_true rfl) hP hD hS dX3_init_16 (fun H lo hP hD hS => ?_)
  refine lv_aload_n hx hb dX3_init_19 rfl (lv_at hl 0 rfl) ?_
  refine lv_iconst (v := 4) hx hb dX3_init_20 (by decide) ?_
  refine nAIk S hK (by decide) (N' := 4) (by rfl) (by decide) hP hD hS hA (by exact Nat.le_of_ble_eq_true rfl) (by exact Nat.le_of_ble_eq_true rfl) dX3_init_21 (fun q3 H hP hD hS => ?_)
  refine pFk S hK hin3 tyX3 tyX3_ok nmX3 (ci := 3) rfl 2 (by decide) mw_2_1 rfl rfl rfl rfl rfl hnmI (ty := (.array .int)) (by decide +kernel) rfl rfl (by exact Nat.le_of_ble_eq_true rfl) hP hD hS dX3_init_23 (fun H lo hP hD hS => ?_)
  rw [shD] at hP hD
  refine lv_iconst (v := 0) hx hb dX3_init_26 (by decide) ?_
  refine lv_istore_n (lv' := [(1, .int 0), (0, .ref h0)]) hx hb dX3_init_27 rfl hl (by decide) rfl (fun ls hl => ?_)
  refine lv_iload_n hx hb dX3_init_28 rfl (lv_at hl 0 rfl) ?_
  refine lv_iconst (v := 4) hx hb dX3_init_29 (by decide) ?_
  refine lv_icmp_gt hx hb (tgt := 52) dX3_init_30 (by decide) (fun h => absurd h (by decide)) (fun _ => ?_)
  refine lv_aload_n hx hb dX3_init_33 rfl (lv_at hl 1 rfl) ?_
  refine gFk S hK hin3 (ci := 3) rfl 0 (by decide) mw_1_239 rfl rfl rfl hP (v := .ref q1) rfl dX3_init_34 ?_
  refine lv_iload_n hx hb dX3_init_37 rfl (lv_at hl 0 rfl) ?_
  refine nOk S hK hin2 tyX2 tyX2_ok mw_1_236 mw_1_38 mw_1_4 (ci := 2) rfl f0h_2 hP hD hS hA (by exact Nat.le_of_ble_eq_true rfl) (by exact Nat.le_of_ble_eq_true rfl) dX3_init_38 (fun q4 H hP9 hD9 hS9 => ?_)
  refine lv_dup hx hb dX3_init_41 rfl ?_
  refine kNk S hX hAb hP9 hD9 hS9 hA (k_X2 l D cy sa sv b0 q4 H.size) (hX.2.2.1.1.2.2.2.1) mw_1_40 mw_1_4 mw_1_41 rfl rfl rfl (by decide +kernel) ⟨by decide, by decide⟩ hl.1 (by exact Nat.le_of_ble_eq_true rfl) dX3_init_42 ⟨(by exact Nat.le_of_ble_eq_true rfl), (by exact Nat.le_of_ble_eq_true rfl)⟩ (fun u5 H lo hw6 hu7 hP hD hS => ?_)
  subst hu7
  refine aSk S hK hP hD hS 4 rfl (ci := 2) (w1 := wd (D, cy, 1, u5.1, kz ks2, sa, sv) u5.2) rfl rfl (i := 0) (j := 0) (vp_in_iff.mpr (by decide)) rfl dX3_init_45 (fun H lo hP hD hS => ?_)
  refine lv_iinc (v := 1) (lv' := [(1, .int 1), (0, .ref h0)]) hx hb dX3_init_46 hl (k := 0) rfl (by decide) (by decide) rfl (fun ls hl => ?_)
  refine lv_goto (tgt := 28) hx hb dX3_init_49 (by decide) ?_
  refine lv_iload_n hx hb dX3_init_28 rfl (lv_at hl 0 rfl) ?_
  refine lv_iconst (v := 4) hx hb dX3_init_29 (by decide) ?_
  refine lv_icmp_gt hx hb (tgt := 52) dX3_init_30 (by decide) (fun h => absurd h (by decide)) (fun _ => ?_)
  refine lv_aload_n hx hb dX3_init_33 rfl (lv_at hl 1 rfl) ?_
  refine gFk S hK hin3 (ci := 3) rfl 0 (by decide) mw_1_239 rfl rfl rfl hP (v := .ref q1) rfl dX3_init_34 ?_
  refine lv_iload_n hx hb dX3_init_37 rfl (lv_at hl 0 rfl) ?_
  refine nOk S hK hin2 tyX2 tyX2_ok mw_1_236 mw_1_38 mw_1_4 (ci := 2) rfl f0h_2 hP hD hS hA (by exact Nat.le_of_ble_eq_true rfl) (by exact Nat.le_of_ble_eq_true rfl) dX3_init_38 (fun q8 H hP9 hD9 hS9 => ?_)
  refine lv_dup hx hb dX3_init_41 rfl ?_
  refine kNk S hX hAb hP9 hD9 hS9 hA (k_X2 l D cy sa sv b0 q8 H.size) (hX.2.2.1.1.2.2.2.1) mw_1_40 mw_1_4 mw_1_41 rfl rfl rfl (by decide +kernel) ⟨by decide, by decide⟩ hl.1 (by exact Nat.le_of_ble_eq_true rfl) dX3_init_42 ⟨(by exact Nat.le_of_ble_eq_true rfl), (by exact Nat.le_of_ble_eq_true rfl)⟩ (fun u9 H lo hw10 hu11 hP hD hS => ?_)
  subst hu11
  refine aSk S hK hP hD hS 4 rfl (ci := 2) (w1 := wd (D, cy, 1, u9.1, kz ks2, sa, sv) u9.2) rfl rfl (i := 1) (j := 1) (vp_in_iff.mpr (by decide)) rfl dX3_init_45 (fun H lo hP hD hS => ?_)
  refine lv_iinc (v := 2) (lv' := [(1, .int 2), (0, .ref h0)]) hx hb dX3_init_46 hl (k := 0) rfl (by decide) (by decide) rfl (fun ls hl => ?_)
  refine lv_goto (tgt := 28) hx hb dX3_init_49 (by decide) ?_
  refine lv_iload_n hx hb dX3_init_28 rfl (lv_at hl 0 rfl) ?_
  refine lv_iconst (v := 4) hx hb dX3_init_29 (by decide) ?_
  refine lv_icmp_gt hx hb (tgt := 52) dX3_init_30 (by decide) (fun h => absurd h (by decide)) (fun _ => ?_)
  refine lv_aload_n hx hb dX3_init_33 rfl (lv_at hl 1 rfl) ?_
  refine gFk S hK hin3 (ci := 3) rfl 0 (by decide) mw_1_239 rfl rfl rfl hP (v := .ref q1) rfl dX3_init_34 ?_
  refine lv_iload_n hx hb dX3_init_37 rfl (lv_at hl 0 rfl) ?_
  refine nOk S hK hin2 tyX2 tyX2_ok mw_1_236 mw_1_38 mw_1_4 (ci := 2) rfl f0h_2 hP hD hS hA (by exact Nat.le_of_ble_eq_true rfl) (by exact Nat.le_of_ble_eq_true rfl) dX3_init_38 (fun q12 H hP9 hD9 hS9 => ?_)
  refine lv_dup hx hb dX3_init_41 rfl ?_
  refine kNk S hX hAb hP9 hD9 hS9 hA (k_X2 l D cy sa sv b0 q12 H.size) (hX.2.2.1.1.2.2.2.1) mw_1_40 mw_1_4 mw_1_41 rfl rfl rfl (by decide +kernel) ⟨by decide, by decide⟩ hl.1 (by exact Nat.le_of_ble_eq_true rfl) dX3_init_42 ⟨(by exact Nat.le_of_ble_eq_true rfl), (by exact Nat.le_of_ble_eq_true rfl)⟩ (fun u13 H lo hw14 hu15 hP hD hS => ?_)
  subst hu15
  refine aSk S hK hP hD hS 4 rfl (ci := 2) (w1 := wd (D, cy, 1, u13.1, kz ks2, sa, sv) u13.2) rfl rfl (i := 2) (j := 2) (vp_in_iff.mpr (by decide)) rfl dX3_init_45 (fun H lo hP hD hS => ?_)
  refine lv_iinc (v := 3) (lv' := [(1, .int 3), (0, .ref h0)]) hx hb dX3_init_46 hl (k := 0) rfl (by decide) (by decide) rfl (fun ls hl => ?_)
  refine lv_goto (tgt := 28) hx hb dX3_init_49 (by decide) ?_
  refine lv_iload_n hx hb dX3_init_28 rfl (lv_at hl 0 rfl) ?_
  refine lv_iconst (v := 4) hx hb dX3_init_29 (by decide) ?_
  refine lv_icmp_gt hx hb (tgt := 52) dX3_init_30 (by decide) (fun h => absurd h (by decide)) (fun _ => ?_)
  refine lv_aload_n hx hb dX3_init_33 rfl (lv_at hl 1 rfl) ?_
  refine gFk S hK hin3 (ci := 3) rfl 0 (by decide) mw_1_239 rfl rfl rfl hP (v := .ref q1) rfl dX3_init_34 ?_
  refine lv_iload_n hx hb dX3_init_37 rfl (lv_at hl 0 rfl) ?_
  refine nOk S hK hin2 tyX2 tyX2_ok mw_1_236 mw_1_38 mw_1_4 (ci := 2) rfl f0h_2 hP hD hS hA (by exact Nat.le_of_ble_eq_true rfl) (by exact Nat.le_of_ble_eq_true rfl) dX3_init_38 (fun q16 H hP9 hD9 hS9 => ?_)
  refine lv_dup hx hb dX3_init_41 rfl ?_
  refine kNk S hX hAb hP9 hD9 hS9 hA (k_X2 l D cy sa sv b0 q16 H.size) (hX.2.2.1.1.2.2.2.1) mw_1_40 mw_1_4 mw_1_41 rfl rfl rfl (by decide +kernel) ⟨by decide, by decide⟩ hl.1 (by exact Nat.le_of_ble_eq_true rfl) dX3_init_42 ⟨(by exact Nat.le_of_ble_eq_true rfl), (by exact Nat.le_of_ble_eq_true rfl)⟩ (fun u17 H lo hw18 hu19 hP hD hS => ?_)
  subst hu19
  refine aSk S hK hP hD hS 4 rfl (ci := 2) (w1 := wd (D, cy, 1, u17.1, kz ks2, sa, sv) u17.2) rfl rfl (i := 3) (j := 3) (vp_in_iff.mpr (by decide)) rfl dX3_init_45 (fun H lo hP hD hS => ?_)
  refine lv_iinc (v := 4) (lv' := [(1, .int 4), (0, .ref h0)]) hx hb dX3_init_46 hl (k := 0) rfl (by decide) (by decide) rfl (fun ls hl => ?_)
  refine lv_goto (tgt := 28) hx hb dX3_init_49 (by decide) ?_
  refine lv_iload_n hx hb dX3_init_28 rfl (lv_at hl 0 rfl) ?_
  refine lv_iconst (v := 4) hx hb dX3_init_29 (by decide) ?_
  refine lv_icmp_gt hx hb (tgt := 52) dX3_init_30 (by decide) (fun h => absurd h (by decide)) (fun _ => ?_)
  refine lv_aload_n hx hb dX3_init_33 rfl (lv_at hl 1 rfl) ?_
  refine gFk S hK hin3 (ci := 3) rfl 0 (by decide) mw_1_239 rfl rfl rfl hP (v := .ref q1) rfl dX3_init_34 ?_
  refine lv_iload_n hx hb dX3_init_37 rfl (lv_at hl 0 rfl) ?_
  refine nOk S hK hin2 tyX2 tyX2_ok mw_1_236 mw_1_38 mw_1_4 (ci := 2) rfl f0h_2 hP hD hS hA (by exact Nat.le_of_ble_eq_true rfl) (by exact Nat.le_of_ble_eq_true rfl) dX3_init_38 (fun q20 H hP9 hD9 hS9 => ?_)
  refine lv_dup hx hb dX3_init_41 rfl ?_
  refine kNk S hX hAb hP9 hD9 hS9 hA (k_X2 l D cy sa sv b0 q20 H.size) (hX.2.2.1.1.2.2.2.1) mw_1_40 mw_1_4 mw_1_41 rfl rfl rfl (by decide +kernel) ⟨by decide, by decide⟩ hl.1 (by exact Nat.le_of_ble_eq_true rfl) dX3_init_42 ⟨(by exact Nat.le_of_ble_eq_true rfl), (by exact Nat.le_of_ble_eq_true rfl)⟩ (fun u21 H lo hw22 hu23 hP hD hS => ?_)
  subst hu23
  refine aSk S hK hP hD hS 4 rfl (ci := 2) (w1 := wd (D, cy, 1, u21.1, kz ks2, sa, sv) u21.2) rfl rfl (i := 4) (j := 4) (vp_in_iff.mpr (by decide)) rfl dX3_init_45 (fun H lo hP hD hS => ?_)
  refine lv_iinc (v := 5) (lv' := [(1, .int 5), (0, .ref h0)]) hx hb dX3_init_46 hl (k := 0) rfl (by decide) (by decide) rfl (fun ls hl => ?_)
  refine lv_goto (tgt := 28) hx hb dX3_init_49 (by decide) ?_
  refine lv_iload_n hx hb dX3_init_28 rfl (lv_at hl 0 rfl) ?_
  refine lv_iconst (v := 4) hx hb dX3_init_29 (by decide) ?_
  refine lv_icmp_gt hx hb (tgt := 52) dX3_init_30 (by decide) (fun _ => ?_) (fun h => absurd (by decide) h)
  exact endK (Zc := Z_3) S hr hlk (qz [h0, q1, q2, q3, u5.1 0, u9.1 0, u13.1 0, u17.1 0, u21.1 0]) (vz [(fun _ => 0), (fun _ => 0), (fun _ => 0), (fun _ => 0), u5.2.1 0, u9.2.1 0, u13.2.1 0, u17.2.1 0, u21.2.1 0]) ⟨okz ks3 _ rfl (okc oz3 (okc oz21 (okc oz16 (okc oz16 (okc (fun j => hw6.1 0 j) (okc (fun j => hw10.1 0 j) (okc (fun j => hw14.1 0 j) (okc (fun j => hw18.1 0 j) (okc (fun j => hw22.1 0 j) okn))))))))), by rw [hw6.2, hw10.2, hw14.2, hw18.2, hw22.2]; rfl⟩ rfl hP hD hS (by exact Nat.le_of_ble_eq_true rfl) (by exact Nat.le_of_ble_eq_true rfl) dX3_init_52
def Z_1 : St := vz [(fun _ => 0), Z_0.1 0, Z_0.1 1, Z_0.1 2, Z_0.1 3, Z_0.1 4, Z_0.1 5, Z_0.1 6, Z_0.1 7, Z_0.1 8, (fun _ => 0), Z_2.1 0, Z_2.1 0, Z_2.1 0, Z_2.1 0, Z_2.1 0, Z_2.1 0, Z_2.1 0, Z_2.1 0, Z_2.1 0]
set_option maxHeartbeats 4000000 in
set_option maxRecDepth 100000 in
theorem k_X1 (l : Launch) (D : va_G) (cy : Nat → ClassId) (sa sv : Nat → Nat) (b0 h0 sz : Nat) : CK D cy sa sv b0 l yX1_init (wsy yX1_init prog_3_method_1_code 2 none) (rmK 3 19 105) h0 sz (1, f0_1) 20 (kz ks1) 19 105 Z_1 := by
  refine CK.of prog_3_method_1_code 2 "StarWalk$Odds" (by decide +kernel) rfl rfl (by exact Nat.le_of_ble_eq_true rfl) ?_
  intro p e s m args below meth c ls S hX hb0 hP hD hr hlk hnmI hl hsz
  have hx := S.1
  have hb := S.2.1
  have hK := hX.1
  have hA : ∀ q, s.heap.size ≤ q → Ak h0 s.heap.size q := fun q h => Or.inr h
  have hAb := Ak.b hX hb0
  have hS : va_S (Ak h0 s.heap.size) s.heap s.heap [] := va_S.rf
  refine lv_aload_n hx hb dX1_init_0 rfl (lv_at hl 0 rfl) ?_
  refine W.objInit hx hb S.2.2.2.1 (Sw S mw_2_26 rfl) (Sw S mw_1_23 rfl) (Sw S mw_1_24 rfl) rfl (by rw [S.2.2.1]; exact hl.1) rfl dX1_init_1 (by exact Nat.le_of_ble_eq_true rfl) (by exact Nat.le_of_ble_eq_true rfl) ?_
  refine W.eq (g2 := F0 m 4 ls []) rfl ?_
  refine lv_aload_n hx hb dX1_init_4 rfl (lv_at hl 0 rfl) ?_
  refine nOk S hK hin0 tyX0 tyX0_ok mw_2_27 mw_1_32 mw_1_3 (ci := 0) rfl f0h_0 hP hD hS hA (by exact Nat.le_of_ble_eq_true rfl) (by exact Nat.le_of_ble_eq_true rfl) dX1_init_5 (fun q1 H hP9 hD9 hS9 => ?_)
  refine lv_dup hx hb dX1_init_8 rfl ?_
  refine kIk S hX hAb hP9 hD9 hS9 hA (k_X0 l D cy sa sv b0 q1 H.size) mw_2_28 mw_1_34 mw_1_3 mw_1_35 rfl rfl rfl (by decide +kernel) ⟨by decide, by decide⟩ hl.1 (by exact Nat.le_of_ble_eq_true rfl) dX1_init_9 ⟨(by exact Nat.le_of_ble_eq_true rfl), (by exact Nat.le_of_ble_eq_true rfl)⟩ (fun u2 H lo hw3 hu4 hP hD hS => ?_)
  subst hu4
  refine pFk S hK hin1 tyX1 tyX1_ok nmX1 (ci := 1) rfl 0 (by decide) mw_2_31 rfl rfl rfl rfl rfl hnmI (ty := (.object "StarWalk$Night")) (by decide +kernel) rfl rfl (by exact Nat.le_of_ble_eq_true rfl) hP hD hS dX1_init_12 (fun H lo hP hD hS => ?_)
  refine lv_aload_n hx hb dX1_init_15 rfl (lv_at hl 0 rfl) ?_
  refine lv_bipush (v := 9) hx hb dX1_init_16 (by decide) ?_
  refine nQPlacek S hK mw_2_29 hX.2.1 (by decide) (N' := 9) (by rfl) (by decide) hP hD hS hA (by exact Nat.le_of_ble_eq_true rfl) (by exact Nat.le_of_ble_eq_true rfl) dX1_init_18 (fun q5 H hP hD hS => ?_)
  refine pFk S hK hin1 tyX1 tyX1_ok nmX1 (ci := 1) rfl 1 (by decide) mw_2_32 rfl rfl rfl rfl rfl hnmI (ty := (.array (.object "StarWalk$Place"))) (by decide +kernel) rfl rfl (by exact Nat.le_of_ble_eq_true rfl) hP hD hS dX1_init_21 (fun H lo hP hD hS => ?_)
  rw [shC] at hP hD
  refine lv_iconst (v := 0) hx hb dX1_init_24 (by decide) ?_
  refine lv_istore_n (lv' := [(1, .int 0), (0, .ref h0)]) hx hb dX1_init_25 rfl hl (by decide) rfl (fun ls hl => ?_)
  refine lv_iload_n hx hb dX1_init_26 rfl (lv_at hl 0 rfl) ?_
  refine lv_bipush (v := 8) hx hb dX1_init_27 (by decide) ?_
  refine lv_icmp_gt hx hb (tgt := 51) dX1_init_29 (by decide) (fun h => absurd h (by decide)) (fun _ => ?_)
  refine lv_aload_n hx hb dX1_init_32 rfl (lv_at hl 1 rfl) ?_
  refine gFk S hK hin1 (ci := 1) rfl 1 (by decide) mw_2_32 rfl rfl rfl hP (v := .ref q5) rfl dX1_init_33 ?_
  refine lv_iload_n hx hb dX1_init_36 rfl (lv_at hl 0 rfl) ?_
  refine nOk S hK hin2 tyX2 tyX2_ok mw_2_29 mw_1_38 mw_1_4 (ci := 2) rfl f0h_2 hP hD hS hA (by exact Nat.le_of_ble_eq_true rfl) (by exact Nat.le_of_ble_eq_true rfl) dX1_init_37 (fun q6 H hP9 hD9 hS9 => ?_)
  refine lv_dup hx hb dX1_init_40 rfl ?_
  refine kNk S hX hAb hP9 hD9 hS9 hA (k_X2 l D cy sa sv b0 q6 H.size) (hX.2.2.1.1.2.2.2.2.1) mw_1_40 mw_1_4 mw_1_41 rfl rfl rfl (by decide +kernel) ⟨by decide, by decide⟩ hl.1 (by exact Nat.le_of_ble_eq_true rfl) dX1_init_41 ⟨(by exact Nat.le_of_ble_eq_true rfl), (by exact Nat.le_of_ble_eq_true rfl)⟩ (fun u7 H lo hw8 hu9 hP hD hS => ?_)
  subst hu9
  refine aSk S hK hP hD hS 4 rfl (ci := 2) (w1 := wd (D, cy, 1, u7.1, kz ks2, sa, sv) u7.2) rfl rfl (i := 0) (j := 0) (vp_in_iff.mpr (by decide)) rfl dX1_init_44 (fun H lo hP hD hS => ?_)
  refine lv_iinc (v := 1) (lv' := [(1, .int 1), (0, .ref h0)]) hx hb dX1_init_45 hl (k := 0) rfl (by decide) (by decide) rfl (fun ls hl => ?_)
  refine lv_goto (tgt := 26) hx hb dX1_init_48 (by decide) ?_
  refine lv_iload_n hx hb dX1_init_26 rfl (lv_at hl 0 rfl) ?_
  refine lv_bipush (v := 8) hx hb dX1_init_27 (by decide) ?_
  refine lv_icmp_gt hx hb (tgt := 51) dX1_init_29 (by decide) (fun h => absurd h (by decide)) (fun _ => ?_)
  refine lv_aload_n hx hb dX1_init_32 rfl (lv_at hl 1 rfl) ?_
  refine gFk S hK hin1 (ci := 1) rfl 1 (by decide) mw_2_32 rfl rfl rfl hP (v := .ref q5) rfl dX1_init_33 ?_
  refine lv_iload_n hx hb dX1_init_36 rfl (lv_at hl 0 rfl) ?_
  refine nOk S hK hin2 tyX2 tyX2_ok mw_2_29 mw_1_38 mw_1_4 (ci := 2) rfl f0h_2 hP hD hS hA (by exact Nat.le_of_ble_eq_true rfl) (by exact Nat.le_of_ble_eq_true rfl) dX1_init_37 (fun q10 H hP9 hD9 hS9 => ?_)
  refine lv_dup hx hb dX1_init_40 rfl ?_
  refine kNk S hX hAb hP9 hD9 hS9 hA (k_X2 l D cy sa sv b0 q10 H.size) (hX.2.2.1.1.2.2.2.2.1) mw_1_40 mw_1_4 mw_1_41 rfl rfl rfl (by decide +kernel) ⟨by decide, by decide⟩ hl.1 (by exact Nat.le_of_ble_eq_true rfl) dX1_init_41 ⟨(by exact Nat.le_of_ble_eq_true rfl), (by exact Nat.le_of_ble_eq_true rfl)⟩ (fun u11 H lo hw12 hu13 hP hD hS => ?_)
  subst hu13
  refine aSk S hK hP hD hS 4 rfl (ci := 2) (w1 := wd (D, cy, 1, u11.1, kz ks2, sa, sv) u11.2) rfl rfl (i := 1) (j := 1) (vp_in_iff.mpr (by decide)) rfl dX1_init_44 (fun H lo hP hD hS => ?_)
  refine lv_iinc (v := 2) (lv' := [(1, .int 2), (0, .ref h0)]) hx hb dX1_init_45 hl (k := 0) rfl (by decide) (by decide) rfl (fun ls hl => ?_)
  refine lv_goto (tgt := 26) hx hb dX1_init_48 (by decide) ?_
  refine lv_iload_n hx hb dX1_init_26 rfl (lv_at hl 0 rfl) ?_
  refine lv_bipush (v := 8) hx hb dX1_init_27 (by decide) ?_
  refine lv_icmp_gt hx hb (tgt := 51) dX1_init_29 (by decide) (fun h => absurd h (by decide)) (fun _ => ?_)
  refine lv_aload_n hx hb dX1_init_32 rfl (lv_at hl 1 rfl) ?_
  refine gFk S hK hin1 (ci := 1) rfl 1 (by decide) mw_2_32 rfl rfl rfl hP (v := .ref q5) rfl dX1_init_33 ?_
  refine lv_iload_n hx hb dX1_init_36 rfl (lv_at hl 0 rfl) ?_
  refine nOk S hK hin2 tyX2 tyX2_ok mw_2_29 mw_1_38 mw_1_4 (ci := 2) rfl f0h_2 hP hD hS hA (by exact Nat.le_of_ble_eq_true rfl) (by exact Nat.le_of_ble_eq_true rfl) dX1_init_37 (fun q14 H hP9 hD9 hS9 => ?_)
  refine lv_dup hx hb dX1_init_40 rfl ?_
  refine kNk S hX hAb hP9 hD9 hS9 hA (k_X2 l D cy sa sv b0 q14 H.size) (hX.2.2.1.1.2.2.2.2.1) mw_1_40 mw_1_4 mw_1_41 rfl rfl rfl (by decide +kernel) ⟨by decide, by decide⟩ hl.1 (by exact Nat.le_of_ble_eq_true rfl) dX1_init_41 ⟨(by exact Nat.le_of_ble_eq_true rfl), (by exact Nat.le_of_ble_eq_true rfl)⟩ (fun u15 H lo hw16 hu17 hP hD hS => ?_)
  subst hu17
  refine aSk S hK hP hD hS 4 rfl (ci := 2) (w1 := wd (D, cy, 1, u15.1, kz ks2, sa, sv) u15.2) rfl rfl (i := 2) (j := 2) (vp_in_iff.mpr (by decide)) rfl dX1_init_44 (fun H lo hP hD hS => ?_)
  refine lv_iinc (v := 3) (lv' := [(1, .int 3), (0, .ref h0)]) hx hb dX1_init_45 hl (k := 0) rfl (by decide) (by decide) rfl (fun ls hl => ?_)
  refine lv_goto (tgt := 26) hx hb dX1_init_48 (by decide) ?_
  refine lv_iload_n hx hb dX1_init_26 rfl (lv_at hl 0 rfl) ?_
  refine lv_bipush (v := 8) hx hb dX1_init_27 (by decide) ?_
  refine lv_icmp_gt hx hb (tgt := 51) dX1_init_29 (by decide) (fun h => absurd h (by decide)) (fun _ => ?_)
  refine lv_aload_n hx hb dX1_init_32 rfl (lv_at hl 1 rfl) ?_
  refine gFk S hK hin1 (ci := 1) rfl 1 (by decide) mw_2_32 rfl rfl rfl hP (v := .ref q5) rfl dX1_init_33 ?_
  refine lv_iload_n hx hb dX1_init_36 rfl (lv_at hl 0 rfl) ?_
  refine nOk S hK hin2 tyX2 tyX2_ok mw_2_29 mw_1_38 mw_1_4 (ci := 2) rfl f0h_2 hP hD hS hA (by exact Nat.le_of_ble_eq_true rfl) (by exact Nat.le_of_ble_eq_true rfl) dX1_init_37 (fun q18 H hP9 hD9 hS9 => ?_)
  refine lv_dup hx hb dX1_init_40 rfl ?_
  refine kNk S hX hAb hP9 hD9 hS9 hA (k_X2 l D cy sa sv b0 q18 H.size) (hX.2.2.1.1.2.2.2.2.1) mw_1_40 mw_1_4 mw_1_41 rfl rfl rfl (by decide +kernel) ⟨by decide, by decide⟩ hl.1 (by exact Nat.le_of_ble_eq_true rfl) dX1_init_41 ⟨(by exact Nat.le_of_ble_eq_true rfl), (by exact Nat.le_of_ble_eq_true rfl)⟩ (fun u19 H lo hw20 hu21 hP hD hS => ?_)
  subst hu21
  refine aSk S hK hP hD hS 4 rfl (ci := 2) (w1 := wd (D, cy, 1, u19.1, kz ks2, sa, sv) u19.2) rfl rfl (i := 3) (j := 3) (vp_in_iff.mpr (by decide)) rfl dX1_init_44 (fun H lo hP hD hS => ?_)
  refine lv_iinc (v := 4) (lv' := [(1, .int 4), (0, .ref h0)]) hx hb dX1_init_45 hl (k := 0) rfl (by decide) (by decide) rfl (fun ls hl => ?_)
  refine lv_goto (tgt := 26) hx hb dX1_init_48 (by decide) ?_
  refine lv_iload_n hx hb dX1_init_26 rfl (lv_at hl 0 rfl) ?_
  refine lv_bipush (v := 8) hx hb dX1_init_27 (by decide) ?_
  refine lv_icmp_gt hx hb (tgt := 51) dX1_init_29 (by decide) (fun h => absurd h (by decide)) (fun _ => ?_)
  refine lv_aload_n hx hb dX1_init_32 rfl (lv_at hl 1 rfl) ?_
  refine gFk S hK hin1 (ci := 1) rfl 1 (by decide) mw_2_32 rfl rfl rfl hP (v := .ref q5) rfl dX1_init_33 ?_
  refine lv_iload_n hx hb dX1_init_36 rfl (lv_at hl 0 rfl) ?_
  refine nOk S hK hin2 tyX2 tyX2_ok mw_2_29 mw_1_38 mw_1_4 (ci := 2) rfl f0h_2 hP hD hS hA (by exact Nat.le_of_ble_eq_true rfl) (by exact Nat.le_of_ble_eq_true rfl) dX1_init_37 (fun q22 H hP9 hD9 hS9 => ?_)
  refine lv_dup hx hb dX1_init_40 rfl ?_
  refine kNk S hX hAb hP9 hD9 hS9 hA (k_X2 l D cy sa sv b0 q22 H.size) (hX.2.2.1.1.2.2.2.2.1) mw_1_40 mw_1_4 mw_1_41 rfl rfl rfl (by decide +kernel) ⟨by decide, by decide⟩ hl.1 (by exact Nat.le_of_ble_eq_true rfl) dX1_init_41 ⟨(by exact Nat.le_of_ble_eq_true rfl), (by exact Nat.le_of_ble_eq_true rfl)⟩ (fun u23 H lo hw24 hu25 hP hD hS => ?_)
  subst hu25
  refine aSk S hK hP hD hS 4 rfl (ci := 2) (w1 := wd (D, cy, 1, u23.1, kz ks2, sa, sv) u23.2) rfl rfl (i := 4) (j := 4) (vp_in_iff.mpr (by decide)) rfl dX1_init_44 (fun H lo hP hD hS => ?_)
  refine lv_iinc (v := 5) (lv' := [(1, .int 5), (0, .ref h0)]) hx hb dX1_init_45 hl (k := 0) rfl (by decide) (by decide) rfl (fun ls hl => ?_)
  refine lv_goto (tgt := 26) hx hb dX1_init_48 (by decide) ?_
  refine lv_iload_n hx hb dX1_init_26 rfl (lv_at hl 0 rfl) ?_
  refine lv_bipush (v := 8) hx hb dX1_init_27 (by decide) ?_
  refine lv_icmp_gt hx hb (tgt := 51) dX1_init_29 (by decide) (fun h => absurd h (by decide)) (fun _ => ?_)
  refine lv_aload_n hx hb dX1_init_32 rfl (lv_at hl 1 rfl) ?_
  refine gFk S hK hin1 (ci := 1) rfl 1 (by decide) mw_2_32 rfl rfl rfl hP (v := .ref q5) rfl dX1_init_33 ?_
  refine lv_iload_n hx hb dX1_init_36 rfl (lv_at hl 0 rfl) ?_
  refine nOk S hK hin2 tyX2 tyX2_ok mw_2_29 mw_1_38 mw_1_4 (ci := 2) rfl f0h_2 hP hD hS hA (by exact Nat.le_of_ble_eq_true rfl) (by exact Nat.le_of_ble_eq_true rfl) dX1_init_37 (fun q26 H hP9 hD9 hS9 => ?_)
  refine lv_dup hx hb dX1_init_40 rfl ?_
  refine kNk S hX hAb hP9 hD9 hS9 hA (k_X2 l D cy sa sv b0 q26 H.size) (hX.2.2.1.1.2.2.2.2.1) mw_1_40 mw_1_4 mw_1_41 rfl rfl rfl (by decide +kernel) ⟨by decide, by decide⟩ hl.1 (by exact Nat.le_of_ble_eq_true rfl) dX1_init_41 ⟨(by exact Nat.le_of_ble_eq_true rfl), (by exact Nat.le_of_ble_eq_true rfl)⟩ (fun u27 H lo hw28 hu29 hP hD hS => ?_)
  subst hu29
  refine aSk S hK hP hD hS 4 rfl (ci := 2) (w1 := wd (D, cy, 1, u27.1, kz ks2, sa, sv) u27.2) rfl rfl (i := 5) (j := 5) (vp_in_iff.mpr (by decide)) rfl dX1_init_44 (fun H lo hP hD hS => ?_)
  refine lv_iinc (v := 6) (lv' := [(1, .int 6), (0, .ref h0)]) hx hb dX1_init_45 hl (k := 0) rfl (by decide) (by decide) rfl (fun ls hl => ?_)
  refine lv_goto (tgt := 26) hx hb dX1_init_48 (by decide) ?_
  refine lv_iload_n hx hb dX1_init_26 rfl (lv_at hl 0 rfl) ?_
  refine lv_bipush (v := 8) hx hb dX1_init_27 (by decide) ?_
  refine lv_icmp_gt hx hb (tgt := 51) dX1_init_29 (by decide) (fun h => absurd h (by decide)) (fun _ => ?_)
  refine lv_aload_n hx hb dX1_init_32 rfl (lv_at hl 1 rfl) ?_
  refine gFk S hK hin1 (ci := 1) rfl 1 (by decide) mw_2_32 rfl rfl rfl hP (v := .ref q5) rfl dX1_init_33 ?_
  refine lv_iload_n hx hb dX1_init_36 rfl (lv_at hl 0 rfl) ?_
  refine nOk S hK hin2 tyX2 tyX2_ok mw_2_29 mw_1_38 mw_1_4 (ci := 2) rfl f0h_2 hP hD hS hA (by exact Nat.le_of_ble_eq_true rfl) (by exact Nat.le_of_ble_eq_true rfl) dX1_init_37 (fun q30 H hP9 hD9 hS9 => ?_)
  refine lv_dup hx hb dX1_init_40 rfl ?_
  refine kNk S hX hAb hP9 hD9 hS9 hA (k_X2 l D cy sa sv b0 q30 H.size) (hX.2.2.1.1.2.2.2.2.1) mw_1_40 mw_1_4 mw_1_41 rfl rfl rfl (by decide +kernel) ⟨by decide, by decide⟩ hl.1 (by exact Nat.le_of_ble_eq_true rfl) dX1_init_41 ⟨(by exact Nat.le_of_ble_eq_true rfl), (by exact Nat.le_of_ble_eq_true rfl)⟩ (fun u31 H lo hw32 hu33 hP hD hS => ?_)
  subst hu33
  refine aSk S hK hP hD hS 4 rfl (ci := 2) (w1 := wd (D, cy, 1, u31.1, kz ks2, sa, sv) u31.2) rfl rfl (i := 6) (j := 6) (vp_in_iff.mpr (by decide)) rfl dX1_init_44 (fun H lo hP hD hS => ?_)
  refine lv_iinc (v := 7) (lv' := [(1, .int 7), (0, .ref h0)]) hx hb dX1_init_45 hl (k := 0) rfl (by decide) (by decide) rfl (fun ls hl => ?_)
  refine lv_goto (tgt := 26) hx hb dX1_init_48 (by decide) ?_
  refine lv_iload_n hx hb dX1_init_26 rfl (lv_at hl 0 rfl) ?_
  refine lv_bipush (v := 8) hx hb dX1_init_27 (by decide) ?_
  refine lv_icmp_gt hx hb (tgt := 51) dX1_init_29 (by decide) (fun h => absurd h (by decide)) (fun _ => ?_)
  refine lv_aload_n hx hb dX1_init_32 rfl (lv_at hl 1 rfl) ?_
  refine gFk S hK hin1 (ci := 1) rfl 1 (by decide) mw_2_32 rfl rfl rfl hP (v := .ref q5) rfl dX1_init_33 ?_
  refine lv_iload_n hx hb dX1_init_36 rfl (lv_at hl 0 rfl) ?_
  refine nOk S hK hin2 tyX2 tyX2_ok mw_2_29 mw_1_38 mw_1_4 (ci := 2) rfl f0h_2 hP hD hS hA (by exact Nat.le_of_ble_eq_true rfl) (by exact Nat.le_of_ble_eq_true rfl) dX1_init_37 (fun q34 H hP9 hD9 hS9 => ?_)
  refine lv_dup hx hb dX1_init_40 rfl ?_
  refine kNk S hX hAb hP9 hD9 hS9 hA (k_X2 l D cy sa sv b0 q34 H.size) (hX.2.2.1.1.2.2.2.2.1) mw_1_40 mw_1_4 mw_1_41 rfl rfl rfl (by decide +kernel) ⟨by decide, by decide⟩ hl.1 (by exact Nat.le_of_ble_eq_true rfl) dX1_init_41 ⟨(by exact Nat.le_of_ble_eq_true rfl), (by exact Nat.le_of_ble_eq_true rfl)⟩ (fun u35 H lo hw36 hu37 hP hD hS => ?_)
  subst hu37
  refine aSk S hK hP hD hS 4 rfl (ci := 2) (w1 := wd (D, cy, 1, u35.1, kz ks2, sa, sv) u35.2) rfl rfl (i := 7) (j := 7) (vp_in_iff.mpr (by decide)) rfl dX1_init_44 (fun H lo hP hD hS => ?_)
  refine lv_iinc (v := 8) (lv' := [(1, .int 8), (0, .ref h0)]) hx hb dX1_init_45 hl (k := 0) rfl (by decide) (by decide) rfl (fun ls hl => ?_)
  refine lv_goto (tgt := 26) hx hb dX1_init_48 (by decide) ?_
  refine lv_iload_n hx hb dX1_init_26 rfl (lv_at hl 0 rfl) ?_
  refine lv_bipush (v := 8) hx hb dX1_init_27 (by decide) ?_
  refine lv_icmp_gt hx hb (tgt := 51) dX1_init_29 (by decide) (fun h => absurd h (by decide)) (fun _ => ?_)
  refine lv_aload_n hx hb dX1_init_32 rfl (lv_at hl 1 rfl) ?_
  refine gFk S hK hin1 (ci := 1) rfl 1 (by decide) mw_2_32 rfl rfl rfl hP (v := .ref q5) rfl dX1_init_33 ?_
  refine lv_iload_n hx hb dX1_init_36 rfl (lv_at hl 0 rfl) ?_
  refine nOk S hK hin2 tyX2 tyX2_ok mw_2_29 mw_1_38 mw_1_4 (ci := 2) rfl f0h_2 hP hD hS hA (by exact Nat.le_of_ble_eq_true rfl) (by exact Nat.le_of_ble_eq_true rfl) dX1_init_37 (fun q38 H hP9 hD9 hS9 => ?_)
  refine lv_dup hx hb dX1_init_40 rfl ?_
  refine kNk S hX hAb hP9 hD9 hS9 hA (k_X2 l D cy sa sv b0 q38 H.size) (hX.2.2.1.1.2.2.2.2.1) mw_1_40 mw_1_4 mw_1_41 rfl rfl rfl (by decide +kernel) ⟨by decide, by decide⟩ hl.1 (by exact Nat.le_of_ble_eq_true rfl) dX1_init_41 ⟨(by exact Nat.le_of_ble_eq_true rfl), (by exact Nat.le_of_ble_eq_true rfl)⟩ (fun u39 H lo hw40 hu41 hP hD hS => ?_)
  subst hu41
  refine aSk S hK hP hD hS 4 rfl (ci := 2) (w1 := wd (D, cy, 1, u39.1, kz ks2, sa, sv) u39.2) rfl rfl (i := 8) (j := 8) (vp_in_iff.mpr (by decide)) rfl dX1_init_44 (fun H lo hP hD hS => ?_)
  refine lv_iinc (v := 9) (lv' := [(1, .int 9), (0, .ref h0)]) hx hb dX1_init_45 hl (k := 0) rfl (by decide) (by decide) rfl (fun ls hl => ?_)
  refine lv_goto (tgt := 26) hx hb dX1_init_48 (by decide) ?_
  refine lv_iload_n hx hb dX1_init_26 rfl (lv_at hl 0 rfl) ?_
  refine lv_bipush (v := 8) hx hb dX1_init_27 (by decide) ?_
  refine lv_icmp_gt hx hb (tgt := 51) dX1_init_29 (by decide) (fun _ => ?_) (fun h => absurd (by decide) h)
  exact endK (Zc := Z_1) S hr hlk (qz [h0, u2.1 0, u2.1 1, u2.1 2, u2.1 3, u2.1 4, u2.1 5, u2.1 6, u2.1 7, u2.1 8, q5, u7.1 0, u11.1 0, u15.1 0, u19.1 0, u23.1 0, u27.1 0, u31.1 0, u35.1 0, u39.1 0]) (vz [(fun _ => 0), u2.2.1 0, u2.2.1 1, u2.2.1 2, u2.2.1 3, u2.2.1 4, u2.2.1 5, u2.2.1 6, u2.2.1 7, u2.2.1 8, (fun _ => 0), u7.2.1 0, u11.2.1 0, u15.2.1 0, u19.2.1 0, u23.2.1 0, u27.2.1 0, u31.2.1 0, u35.2.1 0, u39.2.1 0]) ⟨okz ks1 _ rfl (okc oz1 (okc (fun j => hw3.1 0 j) (okc (fun j => hw3.1 1 j) (okc (fun j => hw3.1 2 j) (okc (fun j => hw3.1 3 j) (okc (fun j => hw3.1 4 j) (okc (fun j => hw3.1 5 j) (okc (fun j => hw3.1 6 j) (okc (fun j => hw3.1 7 j) (okc (fun j => hw3.1 8 j) (okc oz22 (okc (fun j => hw8.1 0 j) (okc (fun j => hw12.1 0 j) (okc (fun j => hw16.1 0 j) (okc (fun j => hw20.1 0 j) (okc (fun j => hw24.1 0 j) (okc (fun j => hw28.1 0 j) (okc (fun j => hw32.1 0 j) (okc (fun j => hw36.1 0 j) (okc (fun j => hw40.1 0 j) okn)))))))))))))))))))), by rw [hw3.2, hw8.2, hw12.2, hw16.2, hw20.2, hw24.2, hw28.2, hw32.2, hw36.2, hw40.2]; rfl⟩ rfl hP hD hS (by exact Nat.le_of_ble_eq_true rfl) (by exact Nat.le_of_ble_eq_true rfl) dX1_init_51
