set_option maxHeartbeats 4000000 in
set_option maxRecDepth 100000 in
theorem c_X2_become (l : Launch) (w : Wp) (g : Nat → Nat → Int32) (v : St) (k0 : Nat) (k1 : Nat) (hq : Inj w) (hw : WF (wk w) g v) (h_k0 : isK w k0 2) (h_k1 : isK w k1 2) : CTv w l yX2_become (wsy yX2_become prog_4_method_2_code 2 none) (rmL 1) [.ref (wq w k0), .ref (wq w k1)] v (fun (u : St) => WF (wk w) g u ∧ True) := by
  generalize hpost : (fun (u : St) => WF (wk w) g u ∧ True) = post
  refine CTv.of prog_4_method_2_code 2 none "StarWalk$Place" (by decide +kernel) rfl hq hw (Nat.le_of_ble_eq_true rfl) ?_
  intro pg en s m ar bl me cd ls E I hr hlk hl
  have hx := E.1.1
  have hb := E.1.2.1
  have hl : lv_has ls 2 [(0, .ref (wq w k0)), (1, .ref (wq w k1))] := hl
  refine lv_aload_n hx hb dX2_become_0 rfl (lv_at hl 0 rfl) ?_
  refine lv_aload_n hx hb dX2_become_1 rfl (lv_at hl 1 rfl) ?_
  refine g_Place_hour E I h_k1 mw_1_43 dX2_become_2 ?_
  refine lv_topi (fun x1 ex1 => ?_)
  refine p_Place_hour E I h_k0 mw_1_43 dX2_become_5 (fun H lo I => ?_)
  generalize ev2 : up1 v k0 0 x1 = v2 at I
  refine lv_aload_n hx hb dX2_become_8 rfl (lv_at hl 0 rfl) ?_
  refine lv_aload_n hx hb dX2_become_9 rfl (lv_at hl 1 rfl) ?_
  refine g_Place_miles E I h_k1 mw_1_48 dX2_become_10 ?_
  refine lv_topi (fun x3 ex3 => ?_)
  refine p_Place_miles E I h_k0 mw_1_48 dX2_become_13 (fun H lo I => ?_)
  generalize ev4 : up1 v2 k0 1 x3 = v4 at I
  refine lv_aload_n hx hb dX2_become_16 rfl (lv_at hl 0 rfl) ?_
  refine lv_aload_n hx hb dX2_become_17 rfl (lv_at hl 1 rfl) ?_
  refine g_Place_side E I h_k1 mw_1_53 dX2_become_18 ?_
  refine lv_topi (fun x5 ex5 => ?_)
  refine p_Place_side E I h_k0 mw_1_53 dX2_become_21 (fun H lo I => ?_)
  generalize ev6 : up1 v4 k0 2 x5 = v6 at I
  refine lv_aload_n hx hb dX2_become_24 rfl (lv_at hl 0 rfl) ?_
  refine lv_aload_n hx hb dX2_become_25 rfl (lv_at hl 1 rfl) ?_
  refine g_Place_water E I h_k1 mw_1_58 dX2_become_26 ?_
  refine lv_topi (fun x7 ex7 => ?_)
  refine p_Place_water E I h_k0 mw_1_58 dX2_become_29 (fun H lo I => ?_)
  generalize ev8 : up1 v6 k0 3 x7 = v8 at I
  exact rV E I hr hlk (by rw [← hpost]; exact ⟨I.2.2, trivial⟩) dX2_become_32
set_option maxHeartbeats 4000000 in
set_option maxRecDepth 100000 in
theorem c_X2_canStep (l : Launch) (w : Wp) (g : Nat → Nat → Int32) (v : St) (k0 : Nat) (hq : Inj w) (hw : WF (wk w) g v) (h_k0 : isK w k0 2) : CTi w l yX2_canStep (wsy yX2_canStep prog_4_method_3_code 1 (some .boolean)) (rmL 1) [.ref (wq w k0)] v (fun (r : Int32) (u : St) => u = v ∧ 0 ≤ r.toInt ∧ r.toInt ≤ 1) := by
  generalize hpost : (fun (r : Int32) (u : St) => u = v ∧ 0 ≤ r.toInt ∧ r.toInt ≤ 1) = post
  refine CTi.of prog_4_method_3_code 1 (some .boolean) "StarWalk$Place" (by decide +kernel) rfl hq hw (Nat.le_of_ble_eq_true rfl) ?_
  intro pg en s m ar bl me cd ls E I hr hlk hl
  have hx := E.1.1
  have hb := E.1.2.1
  have hl : lv_has ls 1 [(0, .ref (wq w k0))] := hl
  refine lv_aload_n hx hb dX2_canStep_0 rfl (lv_at hl 0 rfl) ?_
  refine g_Place_water E I h_k0 mw_1_58 dX2_canStep_1 ?_
  refine lv_topi (fun x1 ex1 => ?_)
  refine bz_le E (a := x1.toInt) rfl (tgt := 20) dX2_canStep_4 (by decide) (fun c2 => ?_) (fun c2 => ?_)
  ·
    refine lv_iconst (v := 0) hx hb dX2_canStep_20 (by decide) ?_
    exact rI E I hr hlk rfl (by rw [← hpost]; exact ⟨rfl, by have eL : (0 : Int32).toInt = 0 := rfl; omega⟩) dX2_canStep_21
  ·
    refine lv_aload_n hx hb dX2_canStep_7 rfl (lv_at hl 0 rfl) ?_
    refine g_Place_hour E I h_k0 mw_1_43 dX2_canStep_8 ?_
    refine lv_topi (fun x3 ex3 => ?_)
    refine lv_bipush (v := 10) hx hb dX2_canStep_11 (by decide) ?_
    refine bi_ge E (a := x3.toInt) (b := 10) rfl rfl (tgt := 20) dX2_canStep_13 (by decide) (fun c4 => ?_) (fun c4 => ?_)
    ·
      refine lv_iconst (v := 0) hx hb dX2_canStep_20 (by decide) ?_
      exact rI E I hr hlk rfl (by rw [← hpost]; exact ⟨rfl, by have eL : (0 : Int32).toInt = 0 := rfl; omega⟩) dX2_canStep_21
    ·
      refine lv_iconst (v := 1) hx hb dX2_canStep_16 (by decide) ?_
      refine lv_goto (tgt := 21) hx hb dX2_canStep_17 (by decide) ?_
      exact rI E I hr hlk rfl (by rw [← hpost]; exact ⟨rfl, by have eL : (1 : Int32).toInt = 1 := rfl; omega⟩) dX2_canStep_21
set_option maxHeartbeats 4000000 in
set_option maxRecDepth 100000 in
theorem c_X2_pass (l : Launch) (w : Wp) (g : Nat → Nat → Int32) (v : St) (k0 : Nat) (a0 : Int32) (a1 : Int32) (a2 : Int32) (hq : Inj w) (hw : WF (wk w) g v) (h_k0 : isK w k0 2) : CTv w l yX2_pass (wsy yX2_pass prog_4_method_4_code 4 none) (rmL 1) [.ref (wq w k0), .int a0, .int a1, .int a2] v (fun (u : St) => WF (wk w) g u ∧ True) := by
  generalize hpost : (fun (u : St) => WF (wk w) g u ∧ True) = post
  refine CTv.of prog_4_method_4_code 4 none "StarWalk$Place" (by decide +kernel) rfl hq hw (Nat.le_of_ble_eq_true rfl) ?_
  intro pg en s m ar bl me cd ls E I hr hlk hl
  have hx := E.1.1
  have hb := E.1.2.1
  have hl : lv_has ls 4 [(0, .ref (wq w k0)), (1, .int a0), (2, .int a1), (3, .int a2)] := hl
  refine lv_aload_n hx hb dX2_pass_0 rfl (lv_at hl 0 rfl) ?_
  refine lv_dup hx hb dX2_pass_1 rfl ?_
  refine g_Place_hour E I h_k0 mw_1_43 dX2_pass_2 ?_
  refine lv_topi (fun x1 ex1 => ?_)
  refine lv_iconst (v := 1) hx hb dX2_pass_5 (by decide) ?_
  refine lv_iadd hx hb dX2_pass_6 ?_
  refine lv_topi (fun x2 ex2 => ?_)
  refine p_Place_hour E I h_k0 mw_1_43 dX2_pass_7 (fun H lo I => ?_)
  generalize ev3 : up1 v k0 0 x2 = v3 at I
  refine lv_aload_n hx hb dX2_pass_10 rfl (lv_at hl 0 rfl) ?_
  refine lv_dup hx hb dX2_pass_11 rfl ?_
  refine g_Place_miles E I h_k0 mw_1_48 dX2_pass_12 ?_
  refine lv_topi (fun x4 ex4 => ?_)
  refine lv_iload_n hx hb dX2_pass_15 rfl (lv_at hl 1 rfl) ?_
  refine lv_iadd hx hb dX2_pass_16 ?_
  refine lv_topi (fun x5 ex5 => ?_)
  refine p_Place_miles E I h_k0 mw_1_48 dX2_pass_17 (fun H lo I => ?_)
  generalize ev6 : up1 v3 k0 1 x5 = v6 at I
  refine lv_aload_n hx hb dX2_pass_20 rfl (lv_at hl 0 rfl) ?_
  refine lv_dup hx hb dX2_pass_21 rfl ?_
  refine g_Place_side E I h_k0 mw_1_53 dX2_pass_22 ?_
  refine lv_topi (fun x7 ex7 => ?_)
  refine lv_iload_n hx hb dX2_pass_25 rfl (lv_at hl 2 rfl) ?_
  refine lv_iadd hx hb dX2_pass_26 ?_
  refine lv_topi (fun x8 ex8 => ?_)
  refine p_Place_side E I h_k0 mw_1_53 dX2_pass_27 (fun H lo I => ?_)
  generalize ev9 : up1 v6 k0 2 x8 = v9 at I
  refine lv_aload_n hx hb dX2_pass_30 rfl (lv_at hl 0 rfl) ?_
  refine lv_iconst (v := 0) hx hb dX2_pass_31 (by decide) ?_
  refine lv_aload_n hx hb dX2_pass_32 rfl (lv_at hl 0 rfl) ?_
  refine g_Place_water E I h_k0 mw_1_58 dX2_pass_33 ?_
  refine lv_topi (fun x10 ex10 => ?_)
  refine lv_iload_n hx hb dX2_pass_36 rfl (lv_at hl 3 rfl) ?_
  refine lv_isub hx hb dX2_pass_37 ?_
  refine lv_topi (fun x11 ex11 => ?_)
  refine va_mmax hx hb (E.1.2.2.1.trans hl.1.symm) E.1.2.2.2.1 (Ew E mw_3_190 rfl) (Ew E mw_3_161 rfl) (Ew E mw_1_15 rfl) (Ew E mw_3_162 rfl) (by decide) (Nat.le_of_ble_eq_true rfl) (Nat.le_refl _) (Nat.le_refl _) dX2_pass_38 ?_
  refine lv_topi (fun x12 ex12 => ?_)
  have hx12 : 0 ≤ x12.toInt := by have cL0 : (0 : Int32).toInt = 0 := rfl; rw [ex12]; split <;> simp only [Int32.lt_iff_toInt_lt] at * <;> omega
  refine p_Place_water E I h_k0 mw_1_58 dX2_pass_41 (fun H lo I => ?_)
  generalize ev13 : up1 v9 k0 3 x12 = v13 at I
  exact rV E I hr hlk (by rw [← hpost]; exact ⟨I.2.2, trivial⟩) dX2_pass_44
set_option maxHeartbeats 4000000 in
set_option maxRecDepth 100000 in
theorem c_X2_isBetterThan (l : Launch) (w : Wp) (g : Nat → Nat → Int32) (v : St) (k0 : Nat) (a0 : Int32) (a1 : Int32) (hq : Inj w) (hw : WF (wk w) g v) (h_k0 : isK w k0 2) : CTi w l yX2_isBetterThan (wsy yX2_isBetterThan prog_4_method_5_code 5 (some .boolean)) (rmL 1) [.ref (wq w k0), .int a0, .int a1] v (fun (r : Int32) (u : St) => u = v ∧ 0 ≤ r.toInt ∧ r.toInt ≤ 1) := by
  generalize hpost : (fun (r : Int32) (u : St) => u = v ∧ 0 ≤ r.toInt ∧ r.toInt ≤ 1) = post
  refine CTi.of prog_4_method_5_code 5 (some .boolean) "StarWalk$Place" (by decide +kernel) rfl hq hw (Nat.le_of_ble_eq_true rfl) ?_
  intro pg en s m ar bl me cd ls E I hr hlk hl
  have hx := E.1.1
  have hb := E.1.2.1
  have hl : lv_has ls 5 [(0, .ref (wq w k0)), (1, .int a0), (2, .int a1)] := hl
  refine lv_aload_n hx hb dX2_isBetterThan_0 rfl (lv_at hl 0 rfl) ?_
  refine g_Place_side E I h_k0 mw_1_53 dX2_isBetterThan_1 ?_
  refine lv_topi (fun x1 ex1 => ?_)
  refine va_mabs hx hb (E.1.2.2.1.trans hl.1.symm) E.1.2.2.2.1 (Ew E mw_3_223 rfl) (Ew E mw_3_84 rfl) (Ew E mw_1_15 rfl) (Ew E mw_3_85 rfl) (by decide) (Nat.le_of_ble_eq_true rfl) (Nat.le_refl _) (Nat.le_refl _) dX2_isBetterThan_4 ?_
  refine lv_topi (fun x2 ex2 => ?_)
  refine lv_istore_n (lv' := [(3, .int x2), (0, .ref (wq w k0)), (1, .int a0), (2, .int a1)]) hx hb dX2_isBetterThan_7 rfl hl (by decide) rfl (fun ls hl => ?_)
  refine lv_iload_n hx hb dX2_isBetterThan_8 rfl (lv_at hl 2 rfl) ?_
  refine va_mabs hx hb (E.1.2.2.1.trans hl.1.symm) E.1.2.2.2.1 (Ew E mw_3_223 rfl) (Ew E mw_3_84 rfl) (Ew E mw_1_15 rfl) (Ew E mw_3_85 rfl) (by decide) (Nat.le_of_ble_eq_true rfl) (Nat.le_refl _) (Nat.le_refl _) dX2_isBetterThan_9 ?_
  refine lv_topi (fun x3 ex3 => ?_)
  refine lv_istore (lv' := [(4, .int x3), (3, .int x2), (0, .ref (wq w k0)), (1, .int a0), (2, .int a1)]) hx hb dX2_isBetterThan_12 hl (by decide) rfl (fun ls hl => ?_)
  refine lv_iload_n hx hb dX2_isBetterThan_14 rfl (lv_at hl 1 rfl) ?_
  refine lv_iload hx hb dX2_isBetterThan_15 (lv_at hl 0 rfl) ?_
  refine bi_lt E (a := x2.toInt) (b := x3.toInt) rfl rfl (tgt := 34) dX2_isBetterThan_17 (by decide) (fun c4 => ?_) (fun c4 => ?_)
  ·
    have rgx2 := i32_rng x2
    have rgx3 := i32_rng x3
    refine lv_iconst (v := 1) hx hb dX2_isBetterThan_34 (by decide) ?_
    refine lv_goto (tgt := 39) hx hb dX2_isBetterThan_35 (by decide) ?_
    exact rI E I hr hlk rfl (by rw [← hpost]; exact ⟨rfl, by have eL : (1 : Int32).toInt = 1 := rfl; omega⟩) dX2_isBetterThan_39
  ·
    have rgx2 := i32_rng x2
    have rgx3 := i32_rng x3
    refine lv_iload_n hx hb dX2_isBetterThan_20 rfl (lv_at hl 1 rfl) ?_
    refine lv_iload hx hb dX2_isBetterThan_21 (lv_at hl 0 rfl) ?_
    refine bi_ne E (a := x2.toInt) (b := x3.toInt) rfl rfl (tgt := 38) dX2_isBetterThan_23 (by decide) (fun c5 => ?_) (fun c5 => ?_)
    ·
      refine lv_iconst (v := 0) hx hb dX2_isBetterThan_38 (by decide) ?_
      exact rI E I hr hlk rfl (by rw [← hpost]; exact ⟨rfl, by have eL : (0 : Int32).toInt = 0 := rfl; omega⟩) dX2_isBetterThan_39
    ·
      refine lv_aload_n hx hb dX2_isBetterThan_26 rfl (lv_at hl 2 rfl) ?_
      refine g_Place_miles E I h_k0 mw_1_48 dX2_isBetterThan_27 ?_
      refine lv_topi (fun x6 ex6 => ?_)
      refine lv_iload_n hx hb dX2_isBetterThan_30 rfl (lv_at hl 4 rfl) ?_
      refine bi_le E (a := x6.toInt) (b := a1.toInt) rfl rfl (tgt := 38) dX2_isBetterThan_31 (by decide) (fun c7 => ?_) (fun c7 => ?_)
      ·
        have rgx6 := i32_rng x6
        have rga1 := i32_rng a1
        refine lv_iconst (v := 0) hx hb dX2_isBetterThan_38 (by decide) ?_
        exact rI E I hr hlk rfl (by rw [← hpost]; exact ⟨rfl, by have eL : (0 : Int32).toInt = 0 := rfl; omega⟩) dX2_isBetterThan_39
      ·
        have rgx6 := i32_rng x6
        have rga1 := i32_rng a1
        refine lv_iconst (v := 1) hx hb dX2_isBetterThan_34 (by decide) ?_
        refine lv_goto (tgt := 39) hx hb dX2_isBetterThan_35 (by decide) ?_
        exact rI E I hr hlk rfl (by rw [← hpost]; exact ⟨rfl, by have eL : (1 : Int32).toInt = 1 := rfl; omega⟩) dX2_isBetterThan_39
