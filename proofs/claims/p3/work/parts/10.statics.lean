set_option maxHeartbeats 4000000 in
set_option maxRecDepth 100000 in
theorem c_X7_oneIf (l : Launch) (w : Wp) (g : Nat → Nat → Int32) (v : St) (a0 : Int32) (hq : Inj w) (hw : WF (wk w) g v) : CTi w l yX7_oneIf (wsy yX7_oneIf prog_1_method_46_code 1 (some .int)) (rmL 1) [.int a0] v (fun (r : Int32) (u : St) => u = v ∧ 0 ≤ r.toInt ∧ r.toInt ≤ 1) := by
  generalize hpost : (fun (r : Int32) (u : St) => u = v ∧ 0 ≤ r.toInt ∧ r.toInt ≤ 1) = post
  refine CTi.of prog_1_method_46_code 1 (some .int) "StarWalk" (by decide +kernel) rfl hq hw (Nat.le_of_ble_eq_true rfl) ?_
  intro pg en s m ar bl me cd ls E I hr hlk hl
  have hx := E.1.1
  have hb := E.1.2.1
  have hl : lv_has ls 1 [(0, .int a0)] := hl
  refine lv_iload_n hx hb dX7_oneIf_0 rfl (lv_at hl 0 rfl) ?_
  refine bz_eq E (a := a0.toInt) rfl (tgt := 8) dX7_oneIf_1 (by decide) (fun c1 => ?_) (fun c1 => ?_)
  ·
    refine lv_iconst (v := 0) hx hb dX7_oneIf_8 (by decide) ?_
    exact rI E I hr hlk rfl (by rw [← hpost]; exact ⟨rfl, by have eL : (0 : Int32).toInt = 0 := rfl; omega⟩) dX7_oneIf_9
  ·
    refine lv_iconst (v := 1) hx hb dX7_oneIf_4 (by decide) ?_
    refine lv_goto (tgt := 9) hx hb dX7_oneIf_5 (by decide) ?_
    exact rI E I hr hlk rfl (by rw [← hpost]; exact ⟨rfl, by have eL : (1 : Int32).toInt = 1 := rfl; omega⟩) dX7_oneIf_9
set_option maxHeartbeats 4000000 in
set_option maxRecDepth 100000 in
theorem c_X7_withBit (l : Launch) (w : Wp) (g : Nat → Nat → Int32) (v : St) (a0 : Int32) (a1 : Int32) (a2 : Int32) (hq : Inj w) (hw : WF (wk w) g v) : CTi w l yX7_withBit (wsy yX7_withBit prog_1_method_47_code 3 (some .int)) (rmL 1) [.int a0, .int a1, .int a2] v (fun (r : Int32) (u : St) => u = v ∧ True) := by
  generalize hpost : (fun (r : Int32) (u : St) => u = v ∧ True) = post
  refine CTi.of prog_1_method_47_code 3 (some .int) "StarWalk" (by decide +kernel) rfl hq hw (Nat.le_of_ble_eq_true rfl) ?_
  intro pg en s m ar bl me cd ls E I hr hlk hl
  have hx := E.1.1
  have hb := E.1.2.1
  have hl : lv_has ls 3 [(0, .int a0), (1, .int a1), (2, .int a2)] := hl
  refine lv_iload_n hx hb dX7_withBit_0 rfl (lv_at hl 2 rfl) ?_
  refine bz_eq E (a := a2.toInt) rfl (tgt := 12) dX7_withBit_1 (by decide) (fun c1 => ?_) (fun c1 => ?_)
  ·
    refine lv_iload_n hx hb dX7_withBit_12 rfl (lv_at hl 0 rfl) ?_
    refine lv_iconst (v := 1) hx hb dX7_withBit_13 (by decide) ?_
    refine lv_iload_n hx hb dX7_withBit_14 rfl (lv_at hl 1 rfl) ?_
    refine lv_ishl hx hb dX7_withBit_15 ?_
    refine lv_topi (fun x2 ex2 => ?_)
    refine lv_iconst (v := (-1)) hx hb dX7_withBit_16 (by decide) ?_
    refine lv_ixor hx hb dX7_withBit_17 ?_
    refine lv_topi (fun x3 ex3 => ?_)
    refine lv_iand hx hb dX7_withBit_18 ?_
    refine lv_topi (fun x4 ex4 => ?_)
    exact rI E I hr hlk rfl (by rw [← hpost]; exact ⟨rfl, trivial⟩) dX7_withBit_19
  ·
    refine lv_iload_n hx hb dX7_withBit_4 rfl (lv_at hl 0 rfl) ?_
    refine lv_iconst (v := 1) hx hb dX7_withBit_5 (by decide) ?_
    refine lv_iload_n hx hb dX7_withBit_6 rfl (lv_at hl 1 rfl) ?_
    refine lv_ishl hx hb dX7_withBit_7 ?_
    refine lv_topi (fun x5 ex5 => ?_)
    refine lv_ior hx hb dX7_withBit_8 ?_
    refine lv_topi (fun x6 ex6 => ?_)
    refine lv_goto (tgt := 19) hx hb dX7_withBit_9 (by decide) ?_
    exact rI E I hr hlk rfl (by rw [← hpost]; exact ⟨rfl, trivial⟩) dX7_withBit_19
set_option maxHeartbeats 4000000 in
set_option maxRecDepth 100000 in
theorem c_X7_isZeroOrOne (l : Launch) (w : Wp) (g : Nat → Nat → Int32) (v : St) (a0 : Int32) (hq : Inj w) (hw : WF (wk w) g v) : CTi w l yX7_isZeroOrOne (wsy yX7_isZeroOrOne prog_1_method_48_code 1 (some .boolean)) (rmL 1) [.int a0] v (fun (r : Int32) (u : St) => u = v ∧ 0 ≤ r.toInt ∧ r.toInt ≤ 1 ∧ (¬ r.toInt = 0 ↔ 0 ≤ a0.toInt ∧ a0.toInt ≤ 1)) := by
  generalize hpost : (fun (r : Int32) (u : St) => u = v ∧ 0 ≤ r.toInt ∧ r.toInt ≤ 1 ∧ (¬ r.toInt = 0 ↔ 0 ≤ a0.toInt ∧ a0.toInt ≤ 1)) = post
  refine CTi.of prog_1_method_48_code 1 (some .boolean) "StarWalk" (by decide +kernel) rfl hq hw (Nat.le_of_ble_eq_true rfl) ?_
  intro pg en s m ar bl me cd ls E I hr hlk hl
  have hx := E.1.1
  have hb := E.1.2.1
  have hl : lv_has ls 1 [(0, .int a0)] := hl
  refine lv_iload_n hx hb dX7_isZeroOrOne_0 rfl (lv_at hl 0 rfl) ?_
  refine bz_eq E (a := a0.toInt) rfl (tgt := 9) dX7_isZeroOrOne_1 (by decide) (fun c1 => ?_) (fun c1 => ?_)
  ·
    refine lv_iconst (v := 1) hx hb dX7_isZeroOrOne_9 (by decide) ?_
    refine lv_goto (tgt := 14) hx hb dX7_isZeroOrOne_10 (by decide) ?_
    exact rI E I hr hlk rfl (by rw [← hpost]; exact ⟨rfl, by have eL : (1 : Int32).toInt = 1 := rfl; omega⟩) dX7_isZeroOrOne_14
  ·
    refine lv_iload_n hx hb dX7_isZeroOrOne_4 rfl (lv_at hl 0 rfl) ?_
    refine lv_iconst (v := 1) hx hb dX7_isZeroOrOne_5 (by decide) ?_
    refine bi_ne E (a := a0.toInt) (b := 1) rfl rfl (tgt := 13) dX7_isZeroOrOne_6 (by decide) (fun c2 => ?_) (fun c2 => ?_)
    ·
      refine lv_iconst (v := 0) hx hb dX7_isZeroOrOne_13 (by decide) ?_
      exact rI E I hr hlk rfl (by rw [← hpost]; exact ⟨rfl, by have eL : (0 : Int32).toInt = 0 := rfl; omega⟩) dX7_isZeroOrOne_14
    ·
      refine lv_iconst (v := 1) hx hb dX7_isZeroOrOne_9 (by decide) ?_
      refine lv_goto (tgt := 14) hx hb dX7_isZeroOrOne_10 (by decide) ?_
      exact rI E I hr hlk rfl (by rw [← hpost]; exact ⟨rfl, by have eL : (1 : Int32).toInt = 1 := rfl; omega⟩) dX7_isZeroOrOne_14
set_option maxHeartbeats 4000000 in
set_option maxRecDepth 100000 in
theorem c_X7_isHour (l : Launch) (w : Wp) (g : Nat → Nat → Int32) (v : St) (a0 : Int32) (hq : Inj w) (hw : WF (wk w) g v) : CTi w l yX7_isHour (wsy yX7_isHour prog_1_method_49_code 1 (some .boolean)) (rmL 1) [.int a0] v (fun (r : Int32) (u : St) => u = v ∧ 0 ≤ r.toInt ∧ r.toInt ≤ 1 ∧ (¬ r.toInt = 0 ↔ 0 ≤ a0.toInt ∧ a0.toInt ≤ 9)) := by
  generalize hpost : (fun (r : Int32) (u : St) => u = v ∧ 0 ≤ r.toInt ∧ r.toInt ≤ 1 ∧ (¬ r.toInt = 0 ↔ 0 ≤ a0.toInt ∧ a0.toInt ≤ 9)) = post
  refine CTi.of prog_1_method_49_code 1 (some .boolean) "StarWalk" (by decide +kernel) rfl hq hw (Nat.le_of_ble_eq_true rfl) ?_
  intro pg en s m ar bl me cd ls E I hr hlk hl
  have hx := E.1.1
  have hb := E.1.2.1
  have hl : lv_has ls 1 [(0, .int a0)] := hl
  refine lv_iload_n hx hb dX7_isHour_0 rfl (lv_at hl 0 rfl) ?_
  refine bz_lt E (a := a0.toInt) rfl (tgt := 14) dX7_isHour_1 (by decide) (fun c1 => ?_) (fun c1 => ?_)
  ·
    refine lv_iconst (v := 0) hx hb dX7_isHour_14 (by decide) ?_
    exact rI E I hr hlk rfl (by rw [← hpost]; exact ⟨rfl, by have eL : (0 : Int32).toInt = 0 := rfl; omega⟩) dX7_isHour_15
  ·
    refine lv_iload_n hx hb dX7_isHour_4 rfl (lv_at hl 0 rfl) ?_
    refine lv_bipush (v := 10) hx hb dX7_isHour_5 (by decide) ?_
    refine bi_ge E (a := a0.toInt) (b := 10) rfl rfl (tgt := 14) dX7_isHour_7 (by decide) (fun c2 => ?_) (fun c2 => ?_)
    ·
      refine lv_iconst (v := 0) hx hb dX7_isHour_14 (by decide) ?_
      exact rI E I hr hlk rfl (by rw [← hpost]; exact ⟨rfl, by have eL : (0 : Int32).toInt = 0 := rfl; omega⟩) dX7_isHour_15
    ·
      refine lv_iconst (v := 1) hx hb dX7_isHour_10 (by decide) ?_
      refine lv_goto (tgt := 15) hx hb dX7_isHour_11 (by decide) ?_
      exact rI E I hr hlk rfl (by rw [← hpost]; exact ⟨rfl, by have eL : (1 : Int32).toInt = 1 := rfl; omega⟩) dX7_isHour_15
set_option maxHeartbeats 4000000 in
set_option maxRecDepth 100000 in
theorem c_X7_isSheet (l : Launch) (w : Wp) (g : Nat → Nat → Int32) (v : St) (a0 : Int32) (hq : Inj w) (hw : WF (wk w) g v) : CTi w l yX7_isSheet (wsy yX7_isSheet prog_1_method_50_code 1 (some .boolean)) (rmL 1) [.int a0] v (fun (r : Int32) (u : St) => u = v ∧ 0 ≤ r.toInt ∧ r.toInt ≤ 1 ∧ (¬ r.toInt = 0 ↔ 0 ≤ a0.toInt ∧ a0.toInt ≤ 3)) := by
  generalize hpost : (fun (r : Int32) (u : St) => u = v ∧ 0 ≤ r.toInt ∧ r.toInt ≤ 1 ∧ (¬ r.toInt = 0 ↔ 0 ≤ a0.toInt ∧ a0.toInt ≤ 3)) = post
  refine CTi.of prog_1_method_50_code 1 (some .boolean) "StarWalk" (by decide +kernel) rfl hq hw (Nat.le_of_ble_eq_true rfl) ?_
  intro pg en s m ar bl me cd ls E I hr hlk hl
  have hx := E.1.1
  have hb := E.1.2.1
  have hl : lv_has ls 1 [(0, .int a0)] := hl
  refine lv_iload_n hx hb dX7_isSheet_0 rfl (lv_at hl 0 rfl) ?_
  refine bz_lt E (a := a0.toInt) rfl (tgt := 13) dX7_isSheet_1 (by decide) (fun c1 => ?_) (fun c1 => ?_)
  ·
    refine lv_iconst (v := 0) hx hb dX7_isSheet_13 (by decide) ?_
    exact rI E I hr hlk rfl (by rw [← hpost]; exact ⟨rfl, by have eL : (0 : Int32).toInt = 0 := rfl; omega⟩) dX7_isSheet_14
  ·
    refine lv_iload_n hx hb dX7_isSheet_4 rfl (lv_at hl 0 rfl) ?_
    refine lv_iconst (v := 4) hx hb dX7_isSheet_5 (by decide) ?_
    refine bi_ge E (a := a0.toInt) (b := 4) rfl rfl (tgt := 13) dX7_isSheet_6 (by decide) (fun c2 => ?_) (fun c2 => ?_)
    ·
      refine lv_iconst (v := 0) hx hb dX7_isSheet_13 (by decide) ?_
      exact rI E I hr hlk rfl (by rw [← hpost]; exact ⟨rfl, by have eL : (0 : Int32).toInt = 0 := rfl; omega⟩) dX7_isSheet_14
    ·
      refine lv_iconst (v := 1) hx hb dX7_isSheet_9 (by decide) ?_
      refine lv_goto (tgt := 14) hx hb dX7_isSheet_10 (by decide) ?_
      exact rI E I hr hlk rfl (by rw [← hpost]; exact ⟨rfl, by have eL : (1 : Int32).toInt = 1 := rfl; omega⟩) dX7_isSheet_14
set_option maxHeartbeats 4000000 in
set_option maxRecDepth 100000 in
theorem c_X7_isLane (l : Launch) (w : Wp) (g : Nat → Nat → Int32) (v : St) (a0 : Int32) (hq : Inj w) (hw : WF (wk w) g v) : CTi w l yX7_isLane (wsy yX7_isLane prog_1_method_51_code 1 (some .boolean)) (rmL 1) [.int a0] v (fun (r : Int32) (u : St) => u = v ∧ 0 ≤ r.toInt ∧ r.toInt ≤ 1 ∧ (¬ r.toInt = 0 ↔ 0 ≤ a0.toInt ∧ a0.toInt ≤ 2)) := by
  generalize hpost : (fun (r : Int32) (u : St) => u = v ∧ 0 ≤ r.toInt ∧ r.toInt ≤ 1 ∧ (¬ r.toInt = 0 ↔ 0 ≤ a0.toInt ∧ a0.toInt ≤ 2)) = post
  refine CTi.of prog_1_method_51_code 1 (some .boolean) "StarWalk" (by decide +kernel) rfl hq hw (Nat.le_of_ble_eq_true rfl) ?_
  intro pg en s m ar bl me cd ls E I hr hlk hl
  have hx := E.1.1
  have hb := E.1.2.1
  have hl : lv_has ls 1 [(0, .int a0)] := hl
  refine lv_iload_n hx hb dX7_isLane_0 rfl (lv_at hl 0 rfl) ?_
  refine bz_lt E (a := a0.toInt) rfl (tgt := 13) dX7_isLane_1 (by decide) (fun c1 => ?_) (fun c1 => ?_)
  ·
    refine lv_iconst (v := 0) hx hb dX7_isLane_13 (by decide) ?_
    exact rI E I hr hlk rfl (by rw [← hpost]; exact ⟨rfl, by have eL : (0 : Int32).toInt = 0 := rfl; omega⟩) dX7_isLane_14
  ·
    refine lv_iload_n hx hb dX7_isLane_4 rfl (lv_at hl 0 rfl) ?_
    refine lv_iconst (v := 3) hx hb dX7_isLane_5 (by decide) ?_
    refine bi_ge E (a := a0.toInt) (b := 3) rfl rfl (tgt := 13) dX7_isLane_6 (by decide) (fun c2 => ?_) (fun c2 => ?_)
    ·
      refine lv_iconst (v := 0) hx hb dX7_isLane_13 (by decide) ?_
      exact rI E I hr hlk rfl (by rw [← hpost]; exact ⟨rfl, by have eL : (0 : Int32).toInt = 0 := rfl; omega⟩) dX7_isLane_14
    ·
      refine lv_iconst (v := 1) hx hb dX7_isLane_9 (by decide) ?_
      refine lv_goto (tgt := 14) hx hb dX7_isLane_10 (by decide) ?_
      exact rI E I hr hlk rfl (by rw [← hpost]; exact ⟨rfl, by have eL : (1 : Int32).toInt = 1 := rfl; omega⟩) dX7_isLane_14
set_option maxHeartbeats 4000000 in
set_option maxRecDepth 100000 in
theorem c_J6_bitCount_0f7a4 (l : Launch) (w : Wp) (g : Nat → Nat → Int32) (v : St) (a0 : Int32) (hq : Inj w) (hw : WF (wk w) g v) : CTi w l yJ6_bitCount_0f7a4 (wsy yJ6_bitCount_0f7a4 prog_11_method_49_code 1 (some .int)) (rmL 1) [.int a0] v (fun (r : Int32) (u : St) => u = v ∧ True) := by
  generalize hpost : (fun (r : Int32) (u : St) => u = v ∧ True) = post
  refine CTi.of prog_11_method_49_code 1 (some .int) "java/lang/Integer" (by decide +kernel) rfl hq hw (Nat.le_of_ble_eq_true rfl) ?_
  intro pg en s m ar bl me cd ls E I hr hlk hl
  have hx := E.1.1
  have hb := E.1.2.1
  have hl : lv_has ls 1 [(0, .int a0)] := hl
  refine lv_iload_n hx hb dJ6_bitCount_0f7a4_0 rfl (lv_at hl 0 rfl) ?_
  refine lv_iload_n hx hb dJ6_bitCount_0f7a4_1 rfl (lv_at hl 0 rfl) ?_
  refine lv_iconst (v := 1) hx hb dJ6_bitCount_0f7a4_2 (by decide) ?_
  refine lv_iushr (v := _) hx hb dJ6_bitCount_0f7a4_3 rfl ?_
  refine lv_topi (fun x1 ex1 => ?_)
  refine lv_ldcw (own := "java/lang/Integer") hx hb E.1.2.2.2.1 (Ew E mw_4_20 rfl) dJ6_bitCount_0f7a4_4 ?_
  refine lv_iand hx hb dJ6_bitCount_0f7a4_7 ?_
  refine lv_topi (fun x2 ex2 => ?_)
  have hx2 := anI (x := x1) (y := (1431655765 : Int32)) (b := 1431655765) rfl (by decide)
  rw [← ex2] at hx2
  refine lv_isub hx hb dJ6_bitCount_0f7a4_8 ?_
  refine lv_topi (fun x3 ex3 => ?_)
  refine lv_istore_n (lv' := [(0, .int x3)]) hx hb dJ6_bitCount_0f7a4_9 rfl hl (by decide) rfl (fun ls hl => ?_)
  refine lv_iload_n hx hb dJ6_bitCount_0f7a4_10 rfl (lv_at hl 0 rfl) ?_
  refine lv_ldcw (own := "java/lang/Integer") hx hb E.1.2.2.2.1 (Ew E mw_4_21 rfl) dJ6_bitCount_0f7a4_11 ?_
  refine lv_iand hx hb dJ6_bitCount_0f7a4_14 ?_
  refine lv_topi (fun x4 ex4 => ?_)
  have hx4 := anI (x := x3) (y := (858993459 : Int32)) (b := 858993459) rfl (by decide)
  rw [← ex4] at hx4
  refine lv_iload_n hx hb dJ6_bitCount_0f7a4_15 rfl (lv_at hl 0 rfl) ?_
  refine lv_iconst (v := 2) hx hb dJ6_bitCount_0f7a4_16 (by decide) ?_
  refine lv_iushr (v := _) hx hb dJ6_bitCount_0f7a4_17 rfl ?_
  refine lv_topi (fun x5 ex5 => ?_)
  refine lv_ldcw (own := "java/lang/Integer") hx hb E.1.2.2.2.1 (Ew E mw_4_21 rfl) dJ6_bitCount_0f7a4_18 ?_
  refine lv_iand hx hb dJ6_bitCount_0f7a4_21 ?_
  refine lv_topi (fun x6 ex6 => ?_)
  have hx6 := anI (x := x5) (y := (858993459 : Int32)) (b := 858993459) rfl (by decide)
  rw [← ex6] at hx6
  refine lv_iadd hx hb dJ6_bitCount_0f7a4_22 ?_
  refine lv_topi (fun x7 ex7 => ?_)
  have hx7 : x7.toInt = x4.toInt + x6.toInt := by rw [ex7]; exact adI (a := x4.toInt) (b := x6.toInt) rfl rfl (by omega) (by omega)
  refine lv_istore_n (lv' := [(0, .int x7)]) hx hb dJ6_bitCount_0f7a4_23 rfl hl (by decide) rfl (fun ls hl => ?_)
  refine lv_iload_n hx hb dJ6_bitCount_0f7a4_24 rfl (lv_at hl 0 rfl) ?_
  refine lv_iload_n hx hb dJ6_bitCount_0f7a4_25 rfl (lv_at hl 0 rfl) ?_
  refine lv_iconst (v := 4) hx hb dJ6_bitCount_0f7a4_26 (by decide) ?_
  refine lv_iushr (v := _) hx hb dJ6_bitCount_0f7a4_27 rfl ?_
  refine lv_topi (fun x8 ex8 => ?_)
  refine lv_iadd hx hb dJ6_bitCount_0f7a4_28 ?_
  refine lv_topi (fun x9 ex9 => ?_)
  refine lv_ldcw (own := "java/lang/Integer") hx hb E.1.2.2.2.1 (Ew E mw_4_22 rfl) dJ6_bitCount_0f7a4_29 ?_
  refine lv_iand hx hb dJ6_bitCount_0f7a4_32 ?_
  refine lv_topi (fun x10 ex10 => ?_)
  have hx10 := anI (x := x9) (y := (252645135 : Int32)) (b := 252645135) rfl (by decide)
  rw [← ex10] at hx10
  refine lv_istore_n (lv' := [(0, .int x10)]) hx hb dJ6_bitCount_0f7a4_33 rfl hl (by decide) rfl (fun ls hl => ?_)
  refine lv_iload_n hx hb dJ6_bitCount_0f7a4_34 rfl (lv_at hl 0 rfl) ?_
  refine lv_iload_n hx hb dJ6_bitCount_0f7a4_35 rfl (lv_at hl 0 rfl) ?_
  refine lv_bipush (v := 8) hx hb dJ6_bitCount_0f7a4_36 (by decide) ?_
  refine lv_iushr (v := _) hx hb dJ6_bitCount_0f7a4_38 rfl ?_
  refine lv_topi (fun x11 ex11 => ?_)
  refine lv_iadd hx hb dJ6_bitCount_0f7a4_39 ?_
  refine lv_topi (fun x12 ex12 => ?_)
  refine lv_istore_n (lv' := [(0, .int x12)]) hx hb dJ6_bitCount_0f7a4_40 rfl hl (by decide) rfl (fun ls hl => ?_)
  refine lv_iload_n hx hb dJ6_bitCount_0f7a4_41 rfl (lv_at hl 0 rfl) ?_
  refine lv_iload_n hx hb dJ6_bitCount_0f7a4_42 rfl (lv_at hl 0 rfl) ?_
  refine lv_bipush (v := 16) hx hb dJ6_bitCount_0f7a4_43 (by decide) ?_
  refine lv_iushr (v := _) hx hb dJ6_bitCount_0f7a4_45 rfl ?_
  refine lv_topi (fun x13 ex13 => ?_)
  refine lv_iadd hx hb dJ6_bitCount_0f7a4_46 ?_
  refine lv_topi (fun x14 ex14 => ?_)
  refine lv_istore_n (lv' := [(0, .int x14)]) hx hb dJ6_bitCount_0f7a4_47 rfl hl (by decide) rfl (fun ls hl => ?_)
  refine lv_iload_n hx hb dJ6_bitCount_0f7a4_48 rfl (lv_at hl 0 rfl) ?_
  refine lv_bipush (v := 63) hx hb dJ6_bitCount_0f7a4_49 (by decide) ?_
  refine lv_iand hx hb dJ6_bitCount_0f7a4_51 ?_
  refine lv_topi (fun x15 ex15 => ?_)
  have hx15 := anI (x := x14) (y := (63 : Int32)) (b := 63) rfl (by decide)
  rw [← ex15] at hx15
  exact rI E I hr hlk rfl (by rw [← hpost]; exact ⟨rfl, trivial⟩) dJ6_bitCount_0f7a4_52
set_option maxHeartbeats 4000000 in
set_option maxRecDepth 100000 in
theorem c_X4_renew (l : Launch) (w : Wp) (g : Nat → Nat → Int32) (v : St) (k0 : Nat) (a0 : Int32) (a1 : Int32) (hq : Inj w) (hw : WF (wk w) g v) (h_k0 : oS w k0) (h_a1 : 0 ≤ a1.toInt ∧ a1.toInt ≤ 40) : CTv w l yX4_renew (wsy yX4_renew prog_6_method_2_code 4 none) (rmL 1) [.ref (wq w k0), .int a0, .int a1] v (fun (u : St) => WF (wk w) (gup (gup g k0 0 a0) k0 1 a1) u ∧ True) := by
  generalize hpost : (fun (u : St) => WF (wk w) (gup (gup g k0 0 a0) k0 1 a1) u ∧ True) = post
  refine CTv.of prog_6_method_2_code 4 none "StarWalk$Sheet" (by decide +kernel) rfl hq hw (Nat.le_of_ble_eq_true rfl) ?_
  intro pg en s m ar bl me cd ls E I hr hlk hl
  have hx := E.1.1
  have hb := E.1.2.1
  have hl : lv_has ls 4 [(0, .ref (wq w k0)), (1, .int a0), (2, .int a1)] := hl
  have L_12 : ∀ (n : Nat), ∀ (H : Heap) (lo : List Loc) (v_12 : St), Wo w (gup (gup g k0 0 a0) k0 1 a1) s.heap v_12 H lo → ∀ (y12_3 : Int32), (0 ≤ y12_3.toInt ∧ y12_3.toInt ≤ 40) → (2147483647 - y12_3.toInt).toNat < n → ∀ (ls : Array Slot), lv_has ls 4 [(0, .ref (wq w k0)), (3, .int y12_3)] → W pg l en (rmL 1) s m ar bl me cd H lo 0 0 (Zv w bl ar s post) (F0 m 12 ls []) := by
    intro n
    induction n with
    | zero => intro H lo v_12 I y12_3 hy12_3 hm; exact absurd hm (Nat.not_lt_zero _)
    | succ n ih_12 =>
      intro H lo v_12 I y12_3 hy12_3 hm ls hl
      refine lv_iload_n hx hb dX4_renew_12 rfl (lv_at hl 1 rfl) ?_
      refine lv_bipush (v := 40) hx hb dX4_renew_13 (by decide) ?_
      refine bi_ge E (a := y12_3.toInt) (b := 40) rfl rfl (tgt := 31) dX4_renew_15 (by decide) (fun c1 => ?_) (fun c1 => ?_)
      ·
        exact rV E I hr hlk (by rw [← hpost]; exact ⟨I.2.2, trivial⟩) dX4_renew_31
      ·
        refine lv_aload_n hx hb dX4_renew_18 rfl (lv_at hl 0 rfl) ?_
        refine g_Sheet_cells E I h_k0.1 mw_2_58 dX4_renew_19 ?_
        refine lv_iload_n hx hb dX4_renew_22 rfl (lv_at hl 1 rfl) ?_
        refine lv_iconst (v := 0) hx hb dX4_renew_23 (by decide) ?_
        refine pa_18 E I h_k0.2 (by omega) dX4_renew_24 (fun H lo I => ?_)
        generalize ev2 : up1 v_12 (k0 + 1) y12_3.toNatClampNeg (0 : Int32) = v2 at I
        obtain ⟨x3, ex3⟩ : ∃ z : Int32, z = y12_3 + 1 := ⟨_, rfl⟩
        have hx3 : x3.toInt = y12_3.toInt + (1) := by rw [ex3]; exact adI (a := y12_3.toInt) (b := 1) rfl rfl (by omega) (by omega)
        refine lv_iinc (v := x3) (lv' := [(3, .int x3), (0, .ref (wq w k0))]) hx hb dX4_renew_25 hl (k := 1) rfl (by rw [ex3]; rfl) (by decide) rfl (fun ls hl => ?_)
        refine lv_goto (tgt := 12) hx hb dX4_renew_28 (by decide) ?_
        exact ih_12 _ _ v2 I x3 (by omega) (by omega) ls (lv_sub hl [1, 0] rfl)
  refine lv_aload_n hx hb dX4_renew_0 rfl (lv_at hl 0 rfl) ?_
  refine lv_iload_n hx hb dX4_renew_1 rfl (lv_at hl 1 rfl) ?_
  refine p_Sheet_lane E I h_k0.1 mw_2_54 dX4_renew_2 (fun H lo I => ?_)
  generalize ev4 : up1 v k0 0 a0 = v4 at I
  refine lv_aload_n hx hb dX4_renew_5 rfl (lv_at hl 0 rfl) ?_
  refine lv_iload_n hx hb dX4_renew_6 rfl (lv_at hl 2 rfl) ?_
  refine p_Sheet_size E I h_k0.1 mw_2_56 (by omega) dX4_renew_7 (fun H lo I => ?_)
  generalize ev5 : up1 v4 k0 1 a1 = v5 at I
  refine lv_iconst (v := 0) hx hb dX4_renew_10 (by decide) ?_
  refine lv_istore_n (lv' := [(3, .int 0), (0, .ref (wq w k0)), (1, .int a0), (2, .int a1)]) hx hb dX4_renew_11 rfl hl (by decide) rfl (fun ls hl => ?_)
  exact L_12 ((2147483647 - (0 : Int32).toInt).toNat + 1) _ _ v5 I (0 : Int32) (by decide) (Nat.lt_succ_self _) ls (lv_sub hl [1, 0] rfl)
set_option maxHeartbeats 4000000 in
set_option maxRecDepth 100000 in
theorem c_X4_tearAt (l : Launch) (w : Wp) (g : Nat → Nat → Int32) (v : St) (k0 : Nat) (a0 : Int32) (a1 : Int32) (hq : Inj w) (hw : WF (wk w) g v) (h_k0 : oS w k0) : CTi w l yX4_tearAt (wsy yX4_tearAt prog_6_method_3_code 3 (some .int)) (rmL 1) [.ref (wq w k0), .int a0, .int a1] v (fun (r : Int32) (u : St) => u = v ∧ 0 ≤ r.toInt ∧ r.toInt ≤ 3 ∧ (r.toInt = 0 → 0 ≤ a1.toInt ∧ a1.toInt ≤ 39) ∧ ((v.1 k0 0).toInt = -1 → r.toInt = 1) ∧ (¬ (v.1 k0 0).toInt = -1 → ¬ (v.1 k0 0).toInt = a0.toInt → r.toInt = 3) ∧ (¬ (v.1 k0 0).toInt = -1 → (v.1 k0 0).toInt = a0.toInt → 0 ≤ a1.toInt → a1.toInt < (v.1 k0 1).toInt → r.toInt = 0) ∧ (¬ (v.1 k0 0).toInt = -1 → (v.1 k0 0).toInt = a0.toInt → ¬ (0 ≤ a1.toInt ∧ a1.toInt < (v.1 k0 1).toInt) → r.toInt = 2)) := by
  generalize hpost : (fun (r : Int32) (u : St) => u = v ∧ 0 ≤ r.toInt ∧ r.toInt ≤ 3 ∧ (r.toInt = 0 → 0 ≤ a1.toInt ∧ a1.toInt ≤ 39) ∧ ((v.1 k0 0).toInt = -1 → r.toInt = 1) ∧ (¬ (v.1 k0 0).toInt = -1 → ¬ (v.1 k0 0).toInt = a0.toInt → r.toInt = 3) ∧ (¬ (v.1 k0 0).toInt = -1 → (v.1 k0 0).toInt = a0.toInt → 0 ≤ a1.toInt → a1.toInt < (v.1 k0 1).toInt → r.toInt = 0) ∧ (¬ (v.1 k0 0).toInt = -1 → (v.1 k0 0).toInt = a0.toInt → ¬ (0 ≤ a1.toInt ∧ a1.toInt < (v.1 k0 1).toInt) → r.toInt = 2)) = post
  refine CTi.of prog_6_method_3_code 3 (some .int) "StarWalk$Sheet" (by decide +kernel) rfl hq hw (Nat.le_of_ble_eq_true rfl) ?_
  intro pg en s m ar bl me cd ls E I hr hlk hl
  have hx := E.1.1
  have hb := E.1.2.1
  have hl : lv_has ls 3 [(0, .ref (wq w k0)), (1, .int a0), (2, .int a1)] := hl
  refine lv_aload_n hx hb dX4_tearAt_0 rfl (lv_at hl 0 rfl) ?_
  refine g_Sheet_lane E I h_k0.1 mw_2_54 dX4_tearAt_1 ?_
  refine lv_topi (fun x1 ex1 => ?_)
  have twx1 : x1.toInt = (v.1 k0 0).toInt := congrArg Int32.toInt ex1
  refine lv_iconst (v := (-1)) hx hb dX4_tearAt_4 (by decide) ?_
  refine bi_ne E (a := x1.toInt) (b := (-1)) rfl rfl (tgt := 10) dX4_tearAt_5 (by decide) (fun c2 => ?_) (fun c2 => ?_)
  ·
    refine lv_aload_n hx hb dX4_tearAt_10 rfl (lv_at hl 0 rfl) ?_
    refine g_Sheet_lane E I h_k0.1 mw_2_54 dX4_tearAt_11 ?_
    refine lv_topi (fun x3 ex3 => ?_)
    have twx3 : x3.toInt = (v.1 k0 0).toInt := congrArg Int32.toInt ex3
    refine lv_iload_n hx hb dX4_tearAt_14 rfl (lv_at hl 1 rfl) ?_
    refine bi_eq E (a := x3.toInt) (b := a0.toInt) rfl rfl (tgt := 20) dX4_tearAt_15 (by decide) (fun c4 => ?_) (fun c4 => ?_)
    ·
      refine lv_iload_n hx hb dX4_tearAt_20 rfl (lv_at hl 2 rfl) ?_
      refine bz_lt E (a := a1.toInt) rfl (tgt := 38) dX4_tearAt_21 (by decide) (fun c5 => ?_) (fun c5 => ?_)
      ·
        refine lv_iconst (v := 2) hx hb dX4_tearAt_38 (by decide) ?_
        refine lv_goto (tgt := 43) hx hb dX4_tearAt_39 (by decide) ?_
        exact rI E I hr hlk rfl (by rw [← hpost]; exact ⟨rfl, by have eL : (2 : Int32).toInt = 2 := rfl; omega⟩) dX4_tearAt_43
      ·
        refine lv_iload_n hx hb dX4_tearAt_24 rfl (lv_at hl 2 rfl) ?_
        refine lv_aload_n hx hb dX4_tearAt_25 rfl (lv_at hl 0 rfl) ?_
        refine g_Sheet_size E I h_k0.1 mw_2_56 dX4_tearAt_26 ?_
        refine lv_topi (fun x6 ex6 => ?_)
        have twx6 : x6.toInt = (v.1 k0 1).toInt := congrArg Int32.toInt ex6
        have hx6 := r_Sheet_size I h_k0.1
        rw [← ex6] at hx6
        refine bi_ge E (a := a1.toInt) (b := x6.toInt) rfl rfl (tgt := 38) dX4_tearAt_29 (by decide) (fun c7 => ?_) (fun c7 => ?_)
        ·
          have rga1 := i32_rng a1
          refine lv_iconst (v := 2) hx hb dX4_tearAt_38 (by decide) ?_
          refine lv_goto (tgt := 43) hx hb dX4_tearAt_39 (by decide) ?_
          exact rI E I hr hlk rfl (by rw [← hpost]; exact ⟨rfl, by have eL : (2 : Int32).toInt = 2 := rfl; omega⟩) dX4_tearAt_43
        ·
          have rga1 := i32_rng a1
          refine lv_iload_n hx hb dX4_tearAt_32 rfl (lv_at hl 2 rfl) ?_
          refine lv_bipush (v := 40) hx hb dX4_tearAt_33 (by decide) ?_
          refine bi_lt E (a := a1.toInt) (b := 40) rfl rfl (tgt := 42) dX4_tearAt_35 (by decide) (fun c8 => ?_) (fun c8 => ?_)
          ·
            refine lv_iconst (v := 0) hx hb dX4_tearAt_42 (by decide) ?_
            exact rI E I hr hlk rfl (by rw [← hpost]; exact ⟨rfl, by have eL : (0 : Int32).toInt = 0 := rfl; omega⟩) dX4_tearAt_43
          ·
            exfalso; omega
    ·
      refine lv_iconst (v := 3) hx hb dX4_tearAt_18 (by decide) ?_
      exact rI E I hr hlk rfl (by rw [← hpost]; exact ⟨rfl, by have eL : (3 : Int32).toInt = 3 := rfl; omega⟩) dX4_tearAt_19
  ·
    refine lv_iconst (v := 1) hx hb dX4_tearAt_8 (by decide) ?_
    exact rI E I hr hlk rfl (by rw [← hpost]; exact ⟨rfl, by have eL : (1 : Int32).toInt = 1 := rfl; omega⟩) dX4_tearAt_9
set_option maxHeartbeats 4000000 in
set_option maxRecDepth 100000 in
theorem c_X4_lowest (l : Launch) (w : Wp) (g : Nat → Nat → Int32) (v : St) (k0 : Nat) (a0 : Int32) (hq : Inj w) (hw : WF (wk w) g v) (h_k0 : oS w k0) : CTi w l yX4_lowest (wsy yX4_lowest prog_6_method_4_code 2 (some .int)) (rmL 1) [.ref (wq w k0), .int a0] v (fun (r : Int32) (u : St) => u = v ∧ True) := by
  generalize hpost : (fun (r : Int32) (u : St) => u = v ∧ True) = post
  refine CTi.of prog_6_method_4_code 2 (some .int) "StarWalk$Sheet" (by decide +kernel) rfl hq hw (Nat.le_of_ble_eq_true rfl) ?_
  intro pg en s m ar bl me cd ls E I hr hlk hl
  have hx := E.1.1
  have hb := E.1.2.1
  have hl : lv_has ls 2 [(0, .ref (wq w k0)), (1, .int a0)] := hl
  refine lv_aload_n hx hb dX4_lowest_0 rfl (lv_at hl 0 rfl) ?_
  refine g_Sheet_lane E I h_k0.1 mw_2_54 dX4_lowest_1 ?_
  refine lv_topi (fun x1 ex1 => ?_)
  by_cases c2 : x1.toInt = 0
  ·
    refine lv_lookup hx hb dX4_lowest_4 (by decide) (by rw [c2] <;> rfl) (tgt := 32) (by decide) ?_
    refine lv_iload_n hx hb dX4_lowest_32 rfl (lv_at hl 1 rfl) ?_
    refine lv_i2b (v := _) hx hb dX4_lowest_33 rfl ?_
    refine lv_topi (fun x3 ex3 => ?_)
    exact rI E I hr hlk rfl (by rw [← hpost]; exact ⟨rfl, trivial⟩) dX4_lowest_34
  by_cases c4 : x1.toInt = 1
  ·
    refine lv_lookup hx hb dX4_lowest_4 (by decide) (by rw [c4] <;> rfl) (tgt := 35) (by decide) ?_
    refine lv_iload_n hx hb dX4_lowest_35 rfl (lv_at hl 1 rfl) ?_
    refine lv_i2s (v := _) hx hb dX4_lowest_36 rfl ?_
    refine lv_topi (fun x5 ex5 => ?_)
    exact rI E I hr hlk rfl (by rw [← hpost]; exact ⟨rfl, trivial⟩) dX4_lowest_37
  refine lv_lookup hx hb dX4_lowest_4 (by decide) (by simp only [Op.lookupswitch.offset_cons, Op.lookupswitch.offset_nil]; rw [if_neg (by omega), if_neg (by omega)] <;> rfl) (tgt := 38) (by decide) ?_
  refine lv_iload_n hx hb dX4_lowest_38 rfl (lv_at hl 1 rfl) ?_
  exact rI E I hr hlk rfl (by rw [← hpost]; exact ⟨rfl, trivial⟩) dX4_lowest_39
